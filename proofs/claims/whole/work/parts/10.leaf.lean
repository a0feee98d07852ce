def V_X5_inRange (x0 x1 x2 : Int32) (post : Int32 → Prop) : Prop := ((x0 < x1 → post 0) ∧ (¬ x0 < x1 → ((x2 < x0 → post 0) ∧ (¬ x2 < x0 → post 1))))
set_option maxHeartbeats 4000000 in
set_option maxRecDepth 100000 in
theorem m_X5_inRange {l : Launch} {D : va_G} {cI cZ : ClassId} {S : Type} {w : S → va_W} {u : S} {x0 x1 x2 : Int32} {post : Int32 → Prop} (h : V_X5_inRange x0 x1 x2 post) : xMi l yX5_inRange cX5_inRange 3 (some .boolean) { frames := 0, cells := 0, slots := 0, locals := 0 } D cI cZ w u [.int x0, .int x1, .int x2] (fun r v => v = u ∧ post r) := by
  refine x_bodyi (own := RX5) (by decide) rfl (Nat.le_of_ble_eq_true rfl) ?_
  intro p e s m below meth c A ls C hr hlocks hA I hl
  have hx := C.1.1
  have hb := C.1.2.1
  have hl : lv_has ls 3 [(0, .int x0), (1, .int x1), (2, .int x2)] := hl
  unfold V_X5_inRange at h
  refine lv_iload_n (pc := 0) hx hb dX5_inRange_0 rfl (lv_at hl 0 rfl) ?_
  refine lv_iload_n (pc := 1) hx hb dX5_inRange_1 rfl (lv_at hl 1 rfl) ?_
  refine lv_icmp_lt (pc := 2) (tgt := 14) hx hb dX5_inRange_2 (by decide) (fun g1 => ?_) (fun g1 => ?_)
  · have h := h.1 g1
    refine lv_iconst (pc := 14) (v := 0) hx hb dX5_inRange_14 (by decide) ?_
    exact x_iretz (pc := 15) C I hr hlocks (by decide) ⟨rfl, h⟩ dX5_inRange_15
  · have h := h.2 g1
    refine lv_iload_n (pc := 5) hx hb dX5_inRange_5 rfl (lv_at hl 0 rfl) ?_
    refine lv_iload_n (pc := 6) hx hb dX5_inRange_6 rfl (lv_at hl 2 rfl) ?_
    refine lv_icmp_gt (pc := 7) (tgt := 14) hx hb dX5_inRange_7 (by decide) (fun g2 => ?_) (fun g2 => ?_)
    · have h := h.1 g2
      refine lv_iconst (pc := 14) (v := 0) hx hb dX5_inRange_14 (by decide) ?_
      exact x_iretz (pc := 15) C I hr hlocks (by decide) ⟨rfl, h⟩ dX5_inRange_15
    · have h := h.2 g2
      refine lv_iconst (pc := 10) (v := 1) hx hb dX5_inRange_10 (by decide) ?_
      refine lv_goto (pc := 11) (tgt := 15) hx hb dX5_inRange_11 (by decide) ?_
      exact x_iretz (pc := 15) C I hr hlocks (by decide) ⟨rfl, h⟩ dX5_inRange_15
def V_X5_isPolicy (x0 : Int32) (post : Int32 → Prop) : Prop := ((x0 = 0 → post 1) ∧ (¬ x0 = 0 → ((x0 = 1 → post 1) ∧ (¬ x0 = 1 → ((x0 = 2 → post 1) ∧ (¬ x0 = 2 → post 0))))))
set_option maxHeartbeats 4000000 in
set_option maxRecDepth 100000 in
theorem m_X5_isPolicy {l : Launch} {D : va_G} {cI cZ : ClassId} {S : Type} {w : S → va_W} {u : S} {x0 : Int32} {post : Int32 → Prop} (h : V_X5_isPolicy x0 post) : xMi l yX5_isPolicy cX5_isPolicy 1 (some .boolean) { frames := 0, cells := 0, slots := 0, locals := 0 } D cI cZ w u [.int x0] (fun r v => v = u ∧ post r) := by
  refine x_bodyi (own := RX5) (by decide) rfl (Nat.le_of_ble_eq_true rfl) ?_
  intro p e s m below meth c A ls C hr hlocks hA I hl
  have hx := C.1.1
  have hb := C.1.2.1
  have hl : lv_has ls 1 [(0, .int x0)] := hl
  unfold V_X5_isPolicy at h
  refine lv_iload_n (pc := 0) hx hb dX5_isPolicy_0 rfl (lv_at hl 0 rfl) ?_
  refine lv_if_eq (pc := 1) (tgt := 14) hx hb dX5_isPolicy_1 (by decide) (fun g1 => ?_) (fun g1 => ?_)
  · have h := h.1 g1
    refine lv_iconst (pc := 14) (v := 1) hx hb dX5_isPolicy_14 (by decide) ?_
    refine lv_goto (pc := 15) (tgt := 19) hx hb dX5_isPolicy_15 (by decide) ?_
    exact x_iretz (pc := 19) C I hr hlocks (by decide) ⟨rfl, h⟩ dX5_isPolicy_19
  · have h := h.2 g1
    refine lv_iload_n (pc := 4) hx hb dX5_isPolicy_4 rfl (lv_at hl 0 rfl) ?_
    refine lv_iconst (pc := 5) (v := 1) hx hb dX5_isPolicy_5 (by decide) ?_
    refine lv_icmp_eq (pc := 6) (tgt := 14) hx hb dX5_isPolicy_6 (by decide) (fun g2 => ?_) (fun g2 => ?_)
    · have h := h.1 g2
      refine lv_iconst (pc := 14) (v := 1) hx hb dX5_isPolicy_14 (by decide) ?_
      refine lv_goto (pc := 15) (tgt := 19) hx hb dX5_isPolicy_15 (by decide) ?_
      exact x_iretz (pc := 19) C I hr hlocks (by decide) ⟨rfl, h⟩ dX5_isPolicy_19
    · have h := h.2 g2
      refine lv_iload_n (pc := 9) hx hb dX5_isPolicy_9 rfl (lv_at hl 0 rfl) ?_
      refine lv_iconst (pc := 10) (v := 2) hx hb dX5_isPolicy_10 (by decide) ?_
      refine lv_icmp_ne (pc := 11) (tgt := 18) hx hb dX5_isPolicy_11 (by decide) (fun g3 => ?_) (fun g3 => ?_)
      · have h := h.2 g3
        refine lv_iconst (pc := 18) (v := 0) hx hb dX5_isPolicy_18 (by decide) ?_
        exact x_iretz (pc := 19) C I hr hlocks (by decide) ⟨rfl, h⟩ dX5_isPolicy_19
      · have h := h.1 g3
        refine lv_iconst (pc := 14) (v := 1) hx hb dX5_isPolicy_14 (by decide) ?_
        refine lv_goto (pc := 15) (tgt := 19) hx hb dX5_isPolicy_15 (by decide) ?_
        exact x_iretz (pc := 19) C I hr hlocks (by decide) ⟨rfl, h⟩ dX5_isPolicy_19
def V_X6_within (x0 x1 x2 : Int32) (post : Int32 → Prop) : Prop := ((x0 < x1 → post 0) ∧ (¬ x0 < x1 → ((x2 < x0 → post 0) ∧ (¬ x2 < x0 → post 1))))
set_option maxHeartbeats 4000000 in
set_option maxRecDepth 100000 in
theorem m_X6_within {l : Launch} {D : va_G} {cI cZ : ClassId} {S : Type} {w : S → va_W} {u : S} {x0 x1 x2 : Int32} {post : Int32 → Prop} (h : V_X6_within x0 x1 x2 post) : xMi l yX6_within cX6_within 3 (some .boolean) { frames := 0, cells := 0, slots := 0, locals := 0 } D cI cZ w u [.int x0, .int x1, .int x2] (fun r v => v = u ∧ post r) := by
  refine x_bodyi (own := RX6) (by decide) rfl (Nat.le_of_ble_eq_true rfl) ?_
  intro p e s m below meth c A ls C hr hlocks hA I hl
  have hx := C.1.1
  have hb := C.1.2.1
  have hl : lv_has ls 3 [(0, .int x0), (1, .int x1), (2, .int x2)] := hl
  unfold V_X6_within at h
  refine lv_iload_n (pc := 0) hx hb dX6_within_0 rfl (lv_at hl 0 rfl) ?_
  refine lv_iload_n (pc := 1) hx hb dX6_within_1 rfl (lv_at hl 1 rfl) ?_
  refine lv_icmp_lt (pc := 2) (tgt := 14) hx hb dX6_within_2 (by decide) (fun g1 => ?_) (fun g1 => ?_)
  · have h := h.1 g1
    refine lv_iconst (pc := 14) (v := 0) hx hb dX6_within_14 (by decide) ?_
    exact x_iretz (pc := 15) C I hr hlocks (by decide) ⟨rfl, h⟩ dX6_within_15
  · have h := h.2 g1
    refine lv_iload_n (pc := 5) hx hb dX6_within_5 rfl (lv_at hl 0 rfl) ?_
    refine lv_iload_n (pc := 6) hx hb dX6_within_6 rfl (lv_at hl 2 rfl) ?_
    refine lv_icmp_gt (pc := 7) (tgt := 14) hx hb dX6_within_7 (by decide) (fun g2 => ?_) (fun g2 => ?_)
    · have h := h.1 g2
      refine lv_iconst (pc := 14) (v := 0) hx hb dX6_within_14 (by decide) ?_
      exact x_iretz (pc := 15) C I hr hlocks (by decide) ⟨rfl, h⟩ dX6_within_15
    · have h := h.2 g2
      refine lv_iconst (pc := 10) (v := 1) hx hb dX6_within_10 (by decide) ?_
      refine lv_goto (pc := 11) (tgt := 15) hx hb dX6_within_11 (by decide) ?_
      exact x_iretz (pc := 15) C I hr hlocks (by decide) ⟨rfl, h⟩ dX6_within_15
def V_X0_has (M : xM) (x1 : Int32) (post : Int32 → xM → Prop) : Prop := ((x1 < 0 → post 0 M) ∧ (¬ x1 < 0 → (((M 4 0) ≤ x1 → post 0 M) ∧ (¬ (M 4 0) ≤ x1 → post 1 M))))
set_option maxHeartbeats 4000000 in
set_option maxRecDepth 100000 in
theorem m_X0_has {l : Launch} {D : va_G} {cI cZ : ClassId} {a : Nat → Nat} {M : xM} {x1 : Int32} {post : Int32 → xM → Prop} (h : V_X0_has M x1 post) : xMi l yX0_has cX0_has 2 (some .boolean) { frames := 0, cells := 0, slots := 0, locals := 0 } D cI cZ (wC cI cZ a) M [.ref (a 4), .int x1] post := by
  refine x_bodyi (own := RX0) (by decide) rfl (Nat.le_of_ble_eq_true rfl) ?_
  intro p e s m below meth c A ls C hr hlocks hA I hl
  have hx := C.1.1
  have hb := C.1.2.1
  have hl : lv_has ls 2 [(0, .ref (a 4)), (1, .int x1)] := hl
  unfold V_X0_has at h
  refine lv_iload_n (pc := 0) hx hb dX0_has_0 rfl (lv_at hl 1 rfl) ?_
  refine lv_if_lt (pc := 1) (tgt := 16) hx hb dX0_has_1 (by decide) (fun g1 => ?_) (fun g1 => ?_)
  · have h := h.1 g1
    refine lv_iconst (pc := 16) (v := 0) hx hb dX0_has_16 (by decide) ?_
    exact x_iretz (pc := 17) C I hr hlocks (by decide) h dX0_has_17
  · have h := h.2 g1
    refine lv_iload_n (pc := 4) hx hb dX0_has_4 rfl (lv_at hl 1 rfl) ?_
    refine lv_aload_n (pc := 5) hx hb dX0_has_5 rfl (lv_at hl 0 rfl) ?_
    refine x_get (pc := 6) C I wC_4 rfl inlX0 (k := 0) q_3_20 (by decide) rfl rfl dX0_has_6 ?_
    refine lv_icmp_ge (pc := 9) (tgt := 16) hx hb dX0_has_9 (by decide) (fun g2 => ?_) (fun g2 => ?_)
    · have h := h.1 g2
      refine lv_iconst (pc := 16) (v := 0) hx hb dX0_has_16 (by decide) ?_
      exact x_iretz (pc := 17) C I hr hlocks (by decide) h dX0_has_17
    · have h := h.2 g2
      refine lv_iconst (pc := 12) (v := 1) hx hb dX0_has_12 (by decide) ?_
      refine lv_goto (pc := 13) (tgt := 17) hx hb dX0_has_13 (by decide) ?_
      exact x_iretz (pc := 17) C I hr hlocks (by decide) h dX0_has_17
def V_X0_isFull (M : xM) (post : Int32 → xM → Prop) : Prop := ((200 ≤ (M 4 0) → post 1 M) ∧ (¬ 200 ≤ (M 4 0) → (((M 4 10) < 32 → post 0 M) ∧ (¬ (M 4 10) < 32 → post 1 M))))
set_option maxHeartbeats 4000000 in
set_option maxRecDepth 100000 in
theorem m_X0_isFull {l : Launch} {D : va_G} {cI cZ : ClassId} {a : Nat → Nat} {M : xM} {post : Int32 → xM → Prop} (h : V_X0_isFull M post) : xMi l yX0_isFull cX0_isFull 1 (some .boolean) { frames := 0, cells := 0, slots := 0, locals := 0 } D cI cZ (wC cI cZ a) M [.ref (a 4)] post := by
  refine x_bodyi (own := RX0) (by decide) rfl (Nat.le_of_ble_eq_true rfl) ?_
  intro p e s m below meth c A ls C hr hlocks hA I hl
  have hx := C.1.1
  have hb := C.1.2.1
  have hl : lv_has ls 1 [(0, .ref (a 4))] := hl
  unfold V_X0_isFull at h
  refine lv_aload_n (pc := 0) hx hb dX0_isFull_0 rfl (lv_at hl 0 rfl) ?_
  refine x_get (pc := 1) C I wC_4 rfl inlX0 (k := 0) q_3_20 (by decide) rfl rfl dX0_isFull_1 ?_
  refine lv_sipush (pc := 4) (v := 200) hx hb dX0_isFull_4 (by decide) ?_
  refine lv_icmp_ge (pc := 7) (tgt := 19) hx hb dX0_isFull_7 (by decide) (fun g1 => ?_) (fun g1 => ?_)
  · have h := h.1 g1
    refine lv_iconst (pc := 19) (v := 1) hx hb dX0_isFull_19 (by decide) ?_
    refine lv_goto (pc := 20) (tgt := 24) hx hb dX0_isFull_20 (by decide) ?_
    exact x_iretz (pc := 24) C I hr hlocks (by decide) h dX0_isFull_24
  · have h := h.2 g1
    refine lv_aload_n (pc := 10) hx hb dX0_isFull_10 rfl (lv_at hl 0 rfl) ?_
    refine x_get (pc := 11) C I wC_4 rfl inlX0 (k := 10) q_4_6 (by decide) rfl rfl dX0_isFull_11 ?_
    refine lv_bipush (pc := 14) (v := 32) hx hb dX0_isFull_14 (by decide) ?_
    refine lv_icmp_lt (pc := 16) (tgt := 23) hx hb dX0_isFull_16 (by decide) (fun g2 => ?_) (fun g2 => ?_)
    · have h := h.1 g2
      refine lv_iconst (pc := 23) (v := 0) hx hb dX0_isFull_23 (by decide) ?_
      exact x_iretz (pc := 24) C I hr hlocks (by decide) h dX0_isFull_24
    · have h := h.2 g2
      refine lv_iconst (pc := 19) (v := 1) hx hb dX0_isFull_19 (by decide) ?_
      refine lv_goto (pc := 20) (tgt := 24) hx hb dX0_isFull_20 (by decide) ?_
      exact x_iretz (pc := 24) C I hr hlocks (by decide) h dX0_isFull_24
def V_X2_has (M : xM) (x1 : Int32) (post : Int32 → xM → Prop) : Prop := ((x1 < 0 → post 0 M) ∧ (¬ x1 < 0 → (((M 2 0) ≤ x1 → post 0 M) ∧ (¬ (M 2 0) ≤ x1 → post 1 M))))
set_option maxHeartbeats 4000000 in
set_option maxRecDepth 100000 in
theorem m_X2_has {l : Launch} {D : va_G} {cI cZ : ClassId} {a : Nat → Nat} {M : xM} {x1 : Int32} {post : Int32 → xM → Prop} (h : V_X2_has M x1 post) : xMi l yX2_has cX2_has 2 (some .boolean) { frames := 0, cells := 0, slots := 0, locals := 0 } D cI cZ (wC cI cZ a) M [.ref (a 2), .int x1] post := by
  refine x_bodyi (own := RX2) (by decide) rfl (Nat.le_of_ble_eq_true rfl) ?_
  intro p e s m below meth c A ls C hr hlocks hA I hl
  have hx := C.1.1
  have hb := C.1.2.1
  have hl : lv_has ls 2 [(0, .ref (a 2)), (1, .int x1)] := hl
  unfold V_X2_has at h
  refine lv_iload_n (pc := 0) hx hb dX2_has_0 rfl (lv_at hl 1 rfl) ?_
  refine lv_if_lt (pc := 1) (tgt := 16) hx hb dX2_has_1 (by decide) (fun g1 => ?_) (fun g1 => ?_)
  · have h := h.1 g1
    refine lv_iconst (pc := 16) (v := 0) hx hb dX2_has_16 (by decide) ?_
    exact x_iretz (pc := 17) C I hr hlocks (by decide) h dX2_has_17
  · have h := h.2 g1
    refine lv_iload_n (pc := 4) hx hb dX2_has_4 rfl (lv_at hl 1 rfl) ?_
    refine lv_aload_n (pc := 5) hx hb dX2_has_5 rfl (lv_at hl 0 rfl) ?_
    refine x_get (pc := 6) C I wC_2 rfl inlX2 (k := 0) q_3_0 (by decide) rfl rfl dX2_has_6 ?_
    refine lv_icmp_ge (pc := 9) (tgt := 16) hx hb dX2_has_9 (by decide) (fun g2 => ?_) (fun g2 => ?_)
    · have h := h.1 g2
      refine lv_iconst (pc := 16) (v := 0) hx hb dX2_has_16 (by decide) ?_
      exact x_iretz (pc := 17) C I hr hlocks (by decide) h dX2_has_17
    · have h := h.2 g2
      refine lv_iconst (pc := 12) (v := 1) hx hb dX2_has_12 (by decide) ?_
      refine lv_goto (pc := 13) (tgt := 17) hx hb dX2_has_13 (by decide) ?_
      exact x_iretz (pc := 17) C I hr hlocks (by decide) h dX2_has_17
def V_X2_score (M : xM) (x1 : Int32) (post : Int32 → xM → Prop) : Prop := (vp_in x1 8 ∧ (((M 10 (x1).toNatClampNeg) ≤ 0 → post 0 M) ∧ (¬ (M 10 (x1).toNatClampNeg) ≤ 0 → (vp_in x1 8 ∧ (vp_in x1 8 ∧ (¬ (M 10 (x1).toNatClampNeg) = 0 ∧ post ((M 9 (x1).toNatClampNeg) / (M 10 (x1).toNatClampNeg)) M))))))
set_option maxHeartbeats 4000000 in
set_option maxRecDepth 100000 in
theorem m_X2_score {l : Launch} {D : va_G} {cI cZ : ClassId} {a : Nat → Nat} {M : xM} {x1 : Int32} {post : Int32 → xM → Prop} (h : V_X2_score M x1 post) : xMi l yX2_score cX2_score 2 (some .int) { frames := 0, cells := 0, slots := 0, locals := 0 } D cI cZ (wC cI cZ a) M [.ref (a 2), .int x1] post := by
  refine x_bodyi (own := RX2) (by decide) rfl (Nat.le_of_ble_eq_true rfl) ?_
  intro p e s m below meth c A ls C hr hlocks hA I hl
  have hx := C.1.1
  have hb := C.1.2.1
  have hl : lv_has ls 2 [(0, .ref (a 2)), (1, .int x1)] := hl
  unfold V_X2_score at h
  refine lv_aload_n (pc := 0) hx hb dX2_score_0 rfl (lv_at hl 0 rfl) ?_
  refine x_get (pc := 1) C I wC_2 rfl inlX2 (k := 6) q_3_8 (by decide) rfl rfl dX2_score_1 ?_
  refine lv_iload_n (pc := 4) hx hb dX2_score_4 rfl (lv_at hl 1 rfl) ?_
  obtain ⟨g1, h⟩ := h
  refine x_ald (pc := 5) C I wC_10 g1 dX2_score_5 ?_
  refine lv_if_le (pc := 6) (tgt := 25) hx hb dX2_score_6 (by decide) (fun g2 => ?_) (fun g2 => ?_)
  · have h := h.1 g2
    refine lv_iconst (pc := 25) (v := 0) hx hb dX2_score_25 (by decide) ?_
    exact x_ireti (pc := 26) C I hr hlocks h dX2_score_26
  · have h := h.2 g2
    refine lv_aload_n (pc := 9) hx hb dX2_score_9 rfl (lv_at hl 0 rfl) ?_
    refine x_get (pc := 10) C I wC_2 rfl inlX2 (k := 5) q_3_7 (by decide) rfl rfl dX2_score_10 ?_
    refine lv_iload_n (pc := 13) hx hb dX2_score_13 rfl (lv_at hl 1 rfl) ?_
    obtain ⟨g3, h⟩ := h
    refine x_ald (pc := 14) C I wC_9 g3 dX2_score_14 ?_
    refine lv_aload_n (pc := 15) hx hb dX2_score_15 rfl (lv_at hl 0 rfl) ?_
    refine x_get (pc := 16) C I wC_2 rfl inlX2 (k := 6) q_3_8 (by decide) rfl rfl dX2_score_16 ?_
    refine lv_iload_n (pc := 19) hx hb dX2_score_19 rfl (lv_at hl 1 rfl) ?_
    obtain ⟨g4, h⟩ := h
    refine x_ald (pc := 20) C I wC_10 g4 dX2_score_20 ?_
    obtain ⟨g5, h⟩ := h
    refine lv_idiv (pc := 21) hx hb dX2_score_21 g5 ?_
    refine lv_goto (pc := 22) (tgt := 26) hx hb dX2_score_22 (by decide) ?_
    exact x_ireti (pc := 26) C I hr hlocks h dX2_score_26
def V_X4_has (M : xM) (x1 : Int32) (post : Int32 → xM → Prop) : Prop := ((x1 < 0 → post 0 M) ∧ (¬ x1 < 0 → (((M 3 0) ≤ x1 → post 0 M) ∧ (¬ (M 3 0) ≤ x1 → post 1 M))))
set_option maxHeartbeats 4000000 in
set_option maxRecDepth 100000 in
theorem m_X4_has {l : Launch} {D : va_G} {cI cZ : ClassId} {a : Nat → Nat} {M : xM} {x1 : Int32} {post : Int32 → xM → Prop} (h : V_X4_has M x1 post) : xMi l yX4_has cX4_has 2 (some .boolean) { frames := 0, cells := 0, slots := 0, locals := 0 } D cI cZ (wC cI cZ a) M [.ref (a 3), .int x1] post := by
  refine x_bodyi (own := RX4) (by decide) rfl (Nat.le_of_ble_eq_true rfl) ?_
  intro p e s m below meth c A ls C hr hlocks hA I hl
  have hx := C.1.1
  have hb := C.1.2.1
  have hl : lv_has ls 2 [(0, .ref (a 3)), (1, .int x1)] := hl
  unfold V_X4_has at h
  refine lv_iload_n (pc := 0) hx hb dX4_has_0 rfl (lv_at hl 1 rfl) ?_
  refine lv_if_lt (pc := 1) (tgt := 16) hx hb dX4_has_1 (by decide) (fun g1 => ?_) (fun g1 => ?_)
  · have h := h.1 g1
    refine lv_iconst (pc := 16) (v := 0) hx hb dX4_has_16 (by decide) ?_
    exact x_iretz (pc := 17) C I hr hlocks (by decide) h dX4_has_17
  · have h := h.2 g1
    refine lv_iload_n (pc := 4) hx hb dX4_has_4 rfl (lv_at hl 1 rfl) ?_
    refine lv_aload_n (pc := 5) hx hb dX4_has_5 rfl (lv_at hl 0 rfl) ?_
    refine x_get (pc := 6) C I wC_3 rfl inlX4 (k := 0) q_3_12 (by decide) rfl rfl dX4_has_6 ?_
    refine lv_icmp_ge (pc := 9) (tgt := 16) hx hb dX4_has_9 (by decide) (fun g2 => ?_) (fun g2 => ?_)
    · have h := h.1 g2
      refine lv_iconst (pc := 16) (v := 0) hx hb dX4_has_16 (by decide) ?_
      exact x_iretz (pc := 17) C I hr hlocks (by decide) h dX4_has_17
    · have h := h.2 g2
      refine lv_iconst (pc := 12) (v := 1) hx hb dX4_has_12 (by decide) ?_
      refine lv_goto (pc := 13) (tgt := 17) hx hb dX4_has_13 (by decide) ?_
      exact x_iretz (pc := 17) C I hr hlocks (by decide) h dX4_has_17
def V_X4_stateOf (M : xM) (x1 : Int32) (post : Int32 → xM → Prop) : Prop := (vp_in x1 24 ∧ (((M 13 (x1).toNatClampNeg) = (-6) → (vp_in x1 24 ∧ (((M 12 (x1).toNatClampNeg) ≤ 0 → post 0 M) ∧ (¬ (M 12 (x1).toNatClampNeg) ≤ 0 → post 1 M)))) ∧ (¬ (M 13 (x1).toNatClampNeg) = (-6) → post 2 M)))
set_option maxHeartbeats 4000000 in
set_option maxRecDepth 100000 in
theorem m_X4_stateOf {l : Launch} {D : va_G} {cI cZ : ClassId} {a : Nat → Nat} {M : xM} {x1 : Int32} {post : Int32 → xM → Prop} (h : V_X4_stateOf M x1 post) : xMi l yX4_stateOf cX4_stateOf 2 (some .int) { frames := 0, cells := 0, slots := 0, locals := 0 } D cI cZ (wC cI cZ a) M [.ref (a 3), .int x1] post := by
  refine x_bodyi (own := RX4) (by decide) rfl (Nat.le_of_ble_eq_true rfl) ?_
  intro p e s m below meth c A ls C hr hlocks hA I hl
  have hx := C.1.1
  have hb := C.1.2.1
  have hl : lv_has ls 2 [(0, .ref (a 3)), (1, .int x1)] := hl
  unfold V_X4_stateOf at h
  refine lv_aload_n (pc := 0) hx hb dX4_stateOf_0 rfl (lv_at hl 0 rfl) ?_
  refine x_get (pc := 1) C I wC_3 rfl inlX4 (k := 3) q_3_15 (by decide) rfl rfl dX4_stateOf_1 ?_
  refine lv_iload_n (pc := 4) hx hb dX4_stateOf_4 rfl (lv_at hl 1 rfl) ?_
  obtain ⟨g1, h⟩ := h
  refine x_ald (pc := 5) C I wC_13 g1 dX4_stateOf_5 ?_
  refine lv_bipush (pc := 6) (v := (-6)) hx hb dX4_stateOf_6 (by decide) ?_
  refine lv_icmp_eq (pc := 8) (tgt := 13) hx hb dX4_stateOf_8 (by decide) (fun g2 => ?_) (fun g2 => ?_)
  · have h := h.1 g2
    refine lv_aload_n (pc := 13) hx hb dX4_stateOf_13 rfl (lv_at hl 0 rfl) ?_
    refine x_get (pc := 14) C I wC_3 rfl inlX4 (k := 2) q_3_14 (by decide) rfl rfl dX4_stateOf_14 ?_
    refine lv_iload_n (pc := 17) hx hb dX4_stateOf_17 rfl (lv_at hl 1 rfl) ?_
    obtain ⟨g3, h⟩ := h
    refine x_ald (pc := 18) C I wC_12 g3 dX4_stateOf_18 ?_
    refine lv_if_le (pc := 19) (tgt := 26) hx hb dX4_stateOf_19 (by decide) (fun g4 => ?_) (fun g4 => ?_)
    · have h := h.1 g4
      refine lv_iconst (pc := 26) (v := 0) hx hb dX4_stateOf_26 (by decide) ?_
      exact x_ireti (pc := 27) C I hr hlocks h dX4_stateOf_27
    · have h := h.2 g4
      refine lv_iconst (pc := 22) (v := 1) hx hb dX4_stateOf_22 (by decide) ?_
      refine lv_goto (pc := 23) (tgt := 27) hx hb dX4_stateOf_23 (by decide) ?_
      exact x_ireti (pc := 27) C I hr hlocks h dX4_stateOf_27
  · have h := h.2 g2
    refine lv_iconst (pc := 11) (v := 2) hx hb dX4_stateOf_11 (by decide) ?_
    exact x_ireti (pc := 12) C I hr hlocks h dX4_stateOf_12
def V_X4_firstWaiting_L2 (post : Int32 → xM → Prop) : Nat → xM → Int32 → Prop
  | 0, _, _ => False
  | n + 1, M0, x1 => (((M0 3 0) ≤ x1 → post (-6) M0) ∧ (¬ (M0 3 0) ≤ x1 → (V_X4_stateOf M0 x1 (fun r3 M2 => ((r3 = 0 → post x1 M2) ∧ (¬ r3 = 0 → (∀ y5 : Int32, y5 = (x1 + 1) → (V_X4_firstWaiting_L2 post n M2 y5))))))))
def V_X4_firstWaiting (M : xM) (post : Int32 → xM → Prop) : Prop := (∃ n6 : Nat, V_X4_firstWaiting_L2 post n6 M 0)
set_option maxHeartbeats 4000000 in
set_option maxRecDepth 100000 in
theorem k_X4_firstWaiting_L2 {l : Launch} {D : va_G} {cI cZ : ClassId} {a : Nat → Nat} {p : Program} {e : Env} {s : State} {m : MethodId} {below : List Frame} {meth : Method} {c : Code} {A : Nat → Prop} {args : Array Value} {post : Int32 → xM → Prop} (C : xC p s m args c cX4_firstWaiting 2 RX4 D cI cZ) (hr : meth.sig.returnType = (some .int)) (hlocks : meth.locks = false) (hA : ∀ q : Nat, s.heap.size ≤ q → A q) (n : Nat) : ∀ (M0 : xM) (x1 : Int32) (H : Heap) (locs : List Loc) (ls : Array Slot), V_X4_firstWaiting_L2 post n M0 x1 → xI D (wC cI cZ a M0) A s.heap H locs → lv_has ls 2 [(0, .ref (a 3)), (1, .int x1)] → W p l e { frames := 1, cells := 0, slots := 0, locals := 21 } s m args below meth c H locs 0 0 (MQ below (va_Qi post (xPost D cI cZ A (wC cI cZ a)) A) args s 0 0 A) (F0 m 2 ls []) := by
  have hx := C.1.1
  have hb := C.1.2.1
  induction n with
  | zero =>
    intro M0 x1 H locs ls h I hl
    exact absurd h id
  | succ n ih2 =>
    intro M0 x1 H locs ls h I hl
    rw [V_X4_firstWaiting_L2] at h
    refine lv_iload_n (pc := 2) hx hb dX4_firstWaiting_2 rfl (lv_at hl 1 rfl) ?_
    refine lv_aload_n (pc := 3) hx hb dX4_firstWaiting_3 rfl (lv_at hl 0 rfl) ?_
    refine x_get (pc := 4) C I wC_3 rfl inlX4 (k := 0) q_3_12 (by decide) rfl rfl dX4_firstWaiting_4 ?_
    refine lv_icmp_ge (pc := 7) (tgt := 26) hx hb dX4_firstWaiting_7 (by decide) (fun g1 => ?_) (fun g1 => ?_)
    · have h := h.1 g1
      refine lv_bipush (pc := 26) (v := (-6)) hx hb dX4_firstWaiting_26 (by decide) ?_
      exact x_ireti (pc := 28) C I hr hlocks h dX4_firstWaiting_28
    · have h := h.2 g1
      refine lv_aload_n (pc := 10) hx hb dX4_firstWaiting_10 rfl (lv_at hl 0 rfl) ?_
      refine lv_iload_n (pc := 11) hx hb dX4_firstWaiting_11 rfl (lv_at hl 1 rfl) ?_
      refine x_calli (pc := 12) C I hA (m_X4_stateOf h) c_RX4_32 wC_3 rfl ⟨Nat.le_of_ble_eq_true rfl, Nat.le_of_ble_eq_true rfl⟩ ⟨rfl, rfl⟩ ⟨Nat.le_of_ble_eq_true rfl, Nat.le_of_ble_eq_true rfl⟩ (As := [.int x1]) rfl hl.1 rfl (Nat.le_of_ble_eq_true rfl) dX4_firstWaiting_12 (fun r3 M2 H locs h I => ?_)
      refine lv_if_ne (pc := 15) (tgt := 20) hx hb dX4_firstWaiting_15 (by decide) (fun g4 => ?_) (fun g4 => ?_)
      · have h := h.2 g4
        obtain ⟨y5, ey5⟩ : ∃ y : Int32, y = (x1 + 1) := ⟨_, rfl⟩
        have h := h y5 ey5
        refine lv_iinc (pc := 20) (v := y5) (lv' := [(1, .int y5), (0, .ref (a 3))]) hx hb dX4_firstWaiting_20 hl (k := 1) rfl (by rw [ey5]; rfl) (by decide) rfl (fun ls hl => ?_)
        refine lv_goto (pc := 23) (tgt := 2) hx hb dX4_firstWaiting_23 (by decide) ?_
        exact ih2 M2 y5 _ _ _ h I (lv_sub hl [1, 0] rfl)
      · have h := h.1 g4
        refine lv_iload_n (pc := 18) hx hb dX4_firstWaiting_18 rfl (lv_at hl 1 rfl) ?_
        exact x_ireti (pc := 19) C I hr hlocks h dX4_firstWaiting_19
set_option maxHeartbeats 4000000 in
set_option maxRecDepth 100000 in
theorem m_X4_firstWaiting {l : Launch} {D : va_G} {cI cZ : ClassId} {a : Nat → Nat} {M : xM} {post : Int32 → xM → Prop} (h : V_X4_firstWaiting M post) : xMi l yX4_firstWaiting cX4_firstWaiting 2 (some .int) { frames := 1, cells := 0, slots := 0, locals := 21 } D cI cZ (wC cI cZ a) M [.ref (a 3)] post := by
  refine x_bodyi (own := RX4) (by decide) rfl (Nat.le_of_ble_eq_true rfl) ?_
  intro p e s m below meth c A ls C hr hlocks hA I hl
  have hx := C.1.1
  have hb := C.1.2.1
  have hl : lv_has ls 2 [(0, .ref (a 3))] := hl
  unfold V_X4_firstWaiting at h
  refine lv_iconst (pc := 0) (v := 0) hx hb dX4_firstWaiting_0 (by decide) ?_
  refine lv_istore_n (pc := 1) (lv' := [(1, .int 0), (0, .ref (a 3))]) hx hb dX4_firstWaiting_1 rfl hl (by decide) rfl (fun ls hl => ?_)
  obtain ⟨n6, h⟩ := h
  exact k_X4_firstWaiting_L2 C hr hlocks hA n6 M 0 _ _ _ h I (lv_sub hl [1, 0] rfl)
def V_X0_clear (M : xM) (post : xM → Prop) : Prop := (∀ M1 : xM, M1 = xu M 4 0 0 → (∀ M2 : xM, M2 = xu M1 4 10 0 → post M2))
set_option maxHeartbeats 4000000 in
set_option maxRecDepth 100000 in
theorem m_X0_clear {l : Launch} {D : va_G} {cI cZ : ClassId} {a : Nat → Nat} {M : xM} {post : xM → Prop} (h : V_X0_clear M post) : xMv l yX0_clear cX0_clear 1 none { frames := 0, cells := 0, slots := 0, locals := 0 } D cI cZ (wC cI cZ a) M [.ref (a 4)] post := by
  refine x_bodyv (own := RX0) (by decide) rfl (Nat.le_of_ble_eq_true rfl) ?_
  intro p e s m below meth c A ls C hr hlocks hA I hl
  have hx := C.1.1
  have hb := C.1.2.1
  have hl : lv_has ls 1 [(0, .ref (a 4))] := hl
  unfold V_X0_clear at h
  refine lv_aload_n (pc := 0) hx hb dX0_clear_0 rfl (lv_at hl 0 rfl) ?_
  refine lv_iconst (pc := 1) (v := 0) hx hb dX0_clear_1 (by decide) ?_
  refine x_puti (pc := 2) C I wC_4 rfl inlX0 tyX0_ok nmX0 (k := 0) q_3_20 (by decide) rfl rfl rfl (Nat.le_of_ble_eq_true rfl) sC_4_0 dX0_clear_2 (fun H locs I => ?_)
  obtain ⟨M1, eM1⟩ : ∃ z : xM, z = xu M 4 0 0 := ⟨_, rfl⟩
  have h := h M1 eM1
  rw [← eM1] at I
  refine lv_aload_n (pc := 5) hx hb dX0_clear_5 rfl (lv_at hl 0 rfl) ?_
  refine lv_iconst (pc := 6) (v := 0) hx hb dX0_clear_6 (by decide) ?_
  refine x_puti (pc := 7) C I wC_4 rfl inlX0 tyX0_ok nmX0 (k := 10) q_4_6 (by decide) rfl rfl rfl (Nat.le_of_ble_eq_true rfl) sC_4_10 dX0_clear_7 (fun H locs I => ?_)
  obtain ⟨M2, eM2⟩ : ∃ z : xM, z = xu M1 4 10 0 := ⟨_, rfl⟩
  have h := h M2 eM2
  rw [← eM2] at I
  exact x_retv (pc := 10) C I hr hlocks h dX0_clear_10
def V_X0_grow (M : xM) (x1 x2 x3 : Int32) (post : xM → Prop) : Prop := (vp_in x1 200 ∧ (vp_in x1 200 ∧ ∀ M3 : xM, M3 = xu M 19 (x1).toNatClampNeg ((M 19 (x1).toNatClampNeg) + 1) → (vp_in x1 200 ∧ (vp_in x1 200 ∧ ∀ M6 : xM, M6 = xu M3 20 (x1).toNatClampNeg ((M3 20 (x1).toNatClampNeg) + x2) → ((x3 ≤ 0 → (vp_in x1 200 ∧ ∀ M9 : xM, M9 = xu M6 21 (x1).toNatClampNeg (x_min 1000 0) → (vp_in x1 200 ∧ (((M9 19 (x1).toNatClampNeg) ≤ 0 → (vp_in x1 200 ∧ ∀ M13 : xM, M13 = xu M9 22 (x1).toNatClampNeg 0 → post M13)) ∧ (¬ (M9 19 (x1).toNatClampNeg) ≤ 0 → (vp_in x1 200 ∧ (vp_in x1 200 ∧ (¬ (M9 19 (x1).toNatClampNeg) = 0 ∧ (vp_in x1 200 ∧ ∀ M18 : xM, M18 = xu M9 22 (x1).toNatClampNeg ((M9 21 (x1).toNatClampNeg) / (M9 19 (x1).toNatClampNeg)) → post M18))))))))) ∧ (¬ x3 ≤ 0 → (vp_in x1 200 ∧ (¬ x3 = 0 ∧ (∀ y21 : Int32, y21 = (((M6 20 (x1).toNatClampNeg) * 1000) / x3) → (vp_in x1 200 ∧ ∀ M23 : xM, M23 = xu M6 21 (x1).toNatClampNeg (x_min 1000 y21) → (vp_in x1 200 ∧ (((M23 19 (x1).toNatClampNeg) ≤ 0 → (vp_in x1 200 ∧ ∀ M27 : xM, M27 = xu M23 22 (x1).toNatClampNeg 0 → post M27)) ∧ (¬ (M23 19 (x1).toNatClampNeg) ≤ 0 → (vp_in x1 200 ∧ (vp_in x1 200 ∧ (¬ (M23 19 (x1).toNatClampNeg) = 0 ∧ (vp_in x1 200 ∧ ∀ M32 : xM, M32 = xu M23 22 (x1).toNatClampNeg ((M23 21 (x1).toNatClampNeg) / (M23 19 (x1).toNatClampNeg)) → post M32)))))))))))))))))
set_option maxHeartbeats 4000000 in
set_option maxRecDepth 100000 in
theorem m_X0_grow {l : Launch} {D : va_G} {cI cZ : ClassId} {a : Nat → Nat} {M : xM} {x1 x2 x3 : Int32} {post : xM → Prop} (h : V_X0_grow M x1 x2 x3 post) : xMv l yX0_grow cX0_grow 5 none { frames := 1, cells := 0, slots := 0, locals := 21 } D cI cZ (wC cI cZ a) M [.ref (a 4), .int x1, .int x2, .int x3] post := by
  refine x_bodyv (own := RX0) (by decide) rfl (Nat.le_of_ble_eq_true rfl) ?_
  intro p e s m below meth c A ls C hr hlocks hA I hl
  have hx := C.1.1
  have hb := C.1.2.1
  have hl : lv_has ls 5 [(0, .ref (a 4)), (1, .int x1), (2, .int x2), (3, .int x3)] := hl
  unfold V_X0_grow at h
  refine lv_aload_n (pc := 0) hx hb dX0_grow_0 rfl (lv_at hl 0 rfl) ?_
  refine x_get (pc := 1) C I wC_4 rfl inlX0 (k := 5) q_4_1 (by decide) rfl rfl dX0_grow_1 ?_
  refine lv_iload_n (pc := 4) hx hb dX0_grow_4 rfl (lv_at hl 1 rfl) ?_
  refine lv_dup2_11 (pc := 5) hx hb dX0_grow_5 rfl rfl ?_
  obtain ⟨g1, h⟩ := h
  refine x_ald (pc := 6) C I wC_19 g1 dX0_grow_6 ?_
  refine lv_iconst (pc := 7) (v := 1) hx hb dX0_grow_7 (by decide) ?_
  refine lv_iadd (pc := 8) hx hb dX0_grow_8 ?_
  obtain ⟨g2, h⟩ := h
  refine x_ast (pc := 9) C I wC_19 g2 sC_19 dX0_grow_9 (fun H locs I => ?_)
  obtain ⟨M3, eM3⟩ : ∃ z : xM, z = xu M 19 (x1).toNatClampNeg ((M 19 (x1).toNatClampNeg) + 1) := ⟨_, rfl⟩
  have h := h M3 eM3
  rw [← eM3] at I
  refine lv_aload_n (pc := 10) hx hb dX0_grow_10 rfl (lv_at hl 0 rfl) ?_
  refine x_get (pc := 11) C I wC_4 rfl inlX0 (k := 6) q_4_2 (by decide) rfl rfl dX0_grow_11 ?_
  refine lv_iload_n (pc := 14) hx hb dX0_grow_14 rfl (lv_at hl 1 rfl) ?_
  refine lv_dup2_11 (pc := 15) hx hb dX0_grow_15 rfl rfl ?_
  obtain ⟨g4, h⟩ := h
  refine x_ald (pc := 16) C I wC_20 g4 dX0_grow_16 ?_
  refine lv_iload_n (pc := 17) hx hb dX0_grow_17 rfl (lv_at hl 2 rfl) ?_
  refine lv_iadd (pc := 18) hx hb dX0_grow_18 ?_
  obtain ⟨g5, h⟩ := h
  refine x_ast (pc := 19) C I wC_20 g5 sC_20 dX0_grow_19 (fun H locs I => ?_)
  obtain ⟨M6, eM6⟩ : ∃ z : xM, z = xu M3 20 (x1).toNatClampNeg ((M3 20 (x1).toNatClampNeg) + x2) := ⟨_, rfl⟩
  have h := h M6 eM6
  rw [← eM6] at I
  refine lv_iload_n (pc := 20) hx hb dX0_grow_20 rfl (lv_at hl 3 rfl) ?_
  refine lv_if_le (pc := 21) (tgt := 39) hx hb dX0_grow_21 (by decide) (fun g7 => ?_) (fun g7 => ?_)
  · have h := h.1 g7
    refine lv_iconst (pc := 39) (v := 0) hx hb dX0_grow_39 (by decide) ?_
    refine lv_istore (pc := 40) (lv' := [(4, .int 0), (0, .ref (a 4)), (1, .int x1), (2, .int x2), (3, .int x3)]) hx hb dX0_grow_40 hl (by decide) rfl (fun ls hl => ?_)
    refine lv_aload_n (pc := 42) hx hb dX0_grow_42 rfl (lv_at hl 1 rfl) ?_
    refine x_get (pc := 43) C I wC_4 rfl inlX0 (k := 7) q_4_3 (by decide) rfl rfl dX0_grow_43 ?_
    refine lv_iload_n (pc := 46) hx hb dX0_grow_46 rfl (lv_at hl 2 rfl) ?_
    refine lv_sipush (pc := 47) (v := 1000) hx hb dX0_grow_47 (by decide) ?_
    refine lv_iload (pc := 50) hx hb dX0_grow_50 (lv_at hl 0 rfl) ?_
    refine x_mmin (pc := 52) C q_14_22 ⟨q_14_23, q_15_0, q_15_1⟩ hl.1 (Nat.le_of_ble_eq_true rfl) (Nat.le_of_ble_eq_true rfl) ⟨Nat.le_of_ble_eq_true rfl, Nat.le_of_ble_eq_true rfl⟩ dX0_grow_52 ?_
    obtain ⟨g8, h⟩ := h
    refine x_ast (pc := 55) C I wC_21 g8 sC_21 dX0_grow_55 (fun H locs I => ?_)
    obtain ⟨M9, eM9⟩ : ∃ z : xM, z = xu M6 21 (x1).toNatClampNeg (x_min 1000 0) := ⟨_, rfl⟩
    have h := h M9 eM9
    rw [← eM9] at I
    refine lv_aload_n (pc := 56) hx hb dX0_grow_56 rfl (lv_at hl 1 rfl) ?_
    refine x_get (pc := 57) C I wC_4 rfl inlX0 (k := 8) q_4_4 (by decide) rfl rfl dX0_grow_57 ?_
    refine lv_iload_n (pc := 60) hx hb dX0_grow_60 rfl (lv_at hl 2 rfl) ?_
    refine lv_aload_n (pc := 61) hx hb dX0_grow_61 rfl (lv_at hl 1 rfl) ?_
    refine x_get (pc := 62) C I wC_4 rfl inlX0 (k := 5) q_4_1 (by decide) rfl rfl dX0_grow_62 ?_
    refine lv_iload_n (pc := 65) hx hb dX0_grow_65 rfl (lv_at hl 2 rfl) ?_
    obtain ⟨g10, h⟩ := h
    refine x_ald (pc := 66) C I wC_19 g10 dX0_grow_66 ?_
    refine lv_if_le (pc := 67) (tgt := 86) hx hb dX0_grow_67 (by decide) (fun g11 => ?_) (fun g11 => ?_)
    · have h := h.1 g11
      refine lv_iconst (pc := 86) (v := 0) hx hb dX0_grow_86 (by decide) ?_
      obtain ⟨g12, h⟩ := h
      refine x_ast (pc := 87) C I wC_22 g12 sC_22 dX0_grow_87 (fun H locs I => ?_)
      obtain ⟨M13, eM13⟩ : ∃ z : xM, z = xu M9 22 (x1).toNatClampNeg 0 := ⟨_, rfl⟩
      have h := h M13 eM13
      rw [← eM13] at I
      exact x_retv (pc := 88) C I hr hlocks h dX0_grow_88
    · have h := h.2 g11
      refine lv_aload_n (pc := 70) hx hb dX0_grow_70 rfl (lv_at hl 1 rfl) ?_
      refine x_get (pc := 71) C I wC_4 rfl inlX0 (k := 7) q_4_3 (by decide) rfl rfl dX0_grow_71 ?_
      refine lv_iload_n (pc := 74) hx hb dX0_grow_74 rfl (lv_at hl 2 rfl) ?_
      obtain ⟨g14, h⟩ := h
      refine x_ald (pc := 75) C I wC_21 g14 dX0_grow_75 ?_
      refine lv_aload_n (pc := 76) hx hb dX0_grow_76 rfl (lv_at hl 1 rfl) ?_
      refine x_get (pc := 77) C I wC_4 rfl inlX0 (k := 5) q_4_1 (by decide) rfl rfl dX0_grow_77 ?_
      refine lv_iload_n (pc := 80) hx hb dX0_grow_80 rfl (lv_at hl 2 rfl) ?_
      obtain ⟨g15, h⟩ := h
      refine x_ald (pc := 81) C I wC_19 g15 dX0_grow_81 ?_
      obtain ⟨g16, h⟩ := h
      refine lv_idiv (pc := 82) hx hb dX0_grow_82 g16 ?_
      refine lv_goto (pc := 83) (tgt := 87) hx hb dX0_grow_83 (by decide) ?_
      obtain ⟨g17, h⟩ := h
      refine x_ast (pc := 87) C I wC_22 g17 sC_22 dX0_grow_87 (fun H locs I => ?_)
      obtain ⟨M18, eM18⟩ : ∃ z : xM, z = xu M9 22 (x1).toNatClampNeg ((M9 21 (x1).toNatClampNeg) / (M9 19 (x1).toNatClampNeg)) := ⟨_, rfl⟩
      have h := h M18 eM18
      rw [← eM18] at I
      exact x_retv (pc := 88) C I hr hlocks h dX0_grow_88
  · have h := h.2 g7
    refine lv_aload_n (pc := 24) hx hb dX0_grow_24 rfl (lv_at hl 0 rfl) ?_
    refine x_get (pc := 25) C I wC_4 rfl inlX0 (k := 6) q_4_2 (by decide) rfl rfl dX0_grow_25 ?_
    refine lv_iload_n (pc := 28) hx hb dX0_grow_28 rfl (lv_at hl 1 rfl) ?_
    obtain ⟨g19, h⟩ := h
    refine x_ald (pc := 29) C I wC_20 g19 dX0_grow_29 ?_
    refine lv_sipush (pc := 30) (v := 1000) hx hb dX0_grow_30 (by decide) ?_
    refine lv_imul (pc := 33) hx hb dX0_grow_33 ?_
    refine lv_iload_n (pc := 34) hx hb dX0_grow_34 rfl (lv_at hl 3 rfl) ?_
    obtain ⟨g20, h⟩ := h
    refine lv_idiv (pc := 35) hx hb dX0_grow_35 g20 ?_
    refine lv_goto (pc := 36) (tgt := 40) hx hb dX0_grow_36 (by decide) ?_
    refine lv_topi (fun y21 ey21 => ?_)
    have h := h y21 ey21
    refine lv_istore (pc := 40) (lv' := [(4, .int y21), (0, .ref (a 4)), (1, .int x1), (2, .int x2), (3, .int x3)]) hx hb dX0_grow_40 hl (by decide) rfl (fun ls hl => ?_)
    refine lv_aload_n (pc := 42) hx hb dX0_grow_42 rfl (lv_at hl 1 rfl) ?_
    refine x_get (pc := 43) C I wC_4 rfl inlX0 (k := 7) q_4_3 (by decide) rfl rfl dX0_grow_43 ?_
    refine lv_iload_n (pc := 46) hx hb dX0_grow_46 rfl (lv_at hl 2 rfl) ?_
    refine lv_sipush (pc := 47) (v := 1000) hx hb dX0_grow_47 (by decide) ?_
    refine lv_iload (pc := 50) hx hb dX0_grow_50 (lv_at hl 0 rfl) ?_
    refine x_mmin (pc := 52) C q_14_22 ⟨q_14_23, q_15_0, q_15_1⟩ hl.1 (Nat.le_of_ble_eq_true rfl) (Nat.le_of_ble_eq_true rfl) ⟨Nat.le_of_ble_eq_true rfl, Nat.le_of_ble_eq_true rfl⟩ dX0_grow_52 ?_
    obtain ⟨g22, h⟩ := h
    refine x_ast (pc := 55) C I wC_21 g22 sC_21 dX0_grow_55 (fun H locs I => ?_)
    obtain ⟨M23, eM23⟩ : ∃ z : xM, z = xu M6 21 (x1).toNatClampNeg (x_min 1000 y21) := ⟨_, rfl⟩
    have h := h M23 eM23
    rw [← eM23] at I
    refine lv_aload_n (pc := 56) hx hb dX0_grow_56 rfl (lv_at hl 1 rfl) ?_
    refine x_get (pc := 57) C I wC_4 rfl inlX0 (k := 8) q_4_4 (by decide) rfl rfl dX0_grow_57 ?_
    refine lv_iload_n (pc := 60) hx hb dX0_grow_60 rfl (lv_at hl 2 rfl) ?_
    refine lv_aload_n (pc := 61) hx hb dX0_grow_61 rfl (lv_at hl 1 rfl) ?_
    refine x_get (pc := 62) C I wC_4 rfl inlX0 (k := 5) q_4_1 (by decide) rfl rfl dX0_grow_62 ?_
    refine lv_iload_n (pc := 65) hx hb dX0_grow_65 rfl (lv_at hl 2 rfl) ?_
    obtain ⟨g24, h⟩ := h
    refine x_ald (pc := 66) C I wC_19 g24 dX0_grow_66 ?_
    refine lv_if_le (pc := 67) (tgt := 86) hx hb dX0_grow_67 (by decide) (fun g25 => ?_) (fun g25 => ?_)
    · have h := h.1 g25
      refine lv_iconst (pc := 86) (v := 0) hx hb dX0_grow_86 (by decide) ?_
      obtain ⟨g26, h⟩ := h
      refine x_ast (pc := 87) C I wC_22 g26 sC_22 dX0_grow_87 (fun H locs I => ?_)
      obtain ⟨M27, eM27⟩ : ∃ z : xM, z = xu M23 22 (x1).toNatClampNeg 0 := ⟨_, rfl⟩
      have h := h M27 eM27
      rw [← eM27] at I
      exact x_retv (pc := 88) C I hr hlocks h dX0_grow_88
    · have h := h.2 g25
      refine lv_aload_n (pc := 70) hx hb dX0_grow_70 rfl (lv_at hl 1 rfl) ?_
      refine x_get (pc := 71) C I wC_4 rfl inlX0 (k := 7) q_4_3 (by decide) rfl rfl dX0_grow_71 ?_
      refine lv_iload_n (pc := 74) hx hb dX0_grow_74 rfl (lv_at hl 2 rfl) ?_
      obtain ⟨g28, h⟩ := h
      refine x_ald (pc := 75) C I wC_21 g28 dX0_grow_75 ?_
      refine lv_aload_n (pc := 76) hx hb dX0_grow_76 rfl (lv_at hl 1 rfl) ?_
      refine x_get (pc := 77) C I wC_4 rfl inlX0 (k := 5) q_4_1 (by decide) rfl rfl dX0_grow_77 ?_
      refine lv_iload_n (pc := 80) hx hb dX0_grow_80 rfl (lv_at hl 2 rfl) ?_
      obtain ⟨g29, h⟩ := h
      refine x_ald (pc := 81) C I wC_19 g29 dX0_grow_81 ?_
      obtain ⟨g30, h⟩ := h
      refine lv_idiv (pc := 82) hx hb dX0_grow_82 g30 ?_
      refine lv_goto (pc := 83) (tgt := 87) hx hb dX0_grow_83 (by decide) ?_
      obtain ⟨g31, h⟩ := h
      refine x_ast (pc := 87) C I wC_22 g31 sC_22 dX0_grow_87 (fun H locs I => ?_)
      obtain ⟨M32, eM32⟩ : ∃ z : xM, z = xu M23 22 (x1).toNatClampNeg ((M23 21 (x1).toNatClampNeg) / (M23 19 (x1).toNatClampNeg)) := ⟨_, rfl⟩
      have h := h M32 eM32
      rw [← eM32] at I
      exact x_retv (pc := 88) C I hr hlocks h dX0_grow_88
