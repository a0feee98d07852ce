def V_X6_isNode (N : xM) (x1 : Int32) (post : Int32 → xM → Prop) : Prop := (V_X6_within x1 0 ((N 0 0) - 1) (fun r1 => ((r1 = 0 ∨ r1 = 1) ∧ post r1 N)))
set_option maxHeartbeats 4000000 in
set_option maxRecDepth 100000 in
theorem m_X6_isNode {l : Launch} {D : va_G} {cI cZ : ClassId} {r : Nat → Nat} {N : xM} {x1 : Int32} {post : Int32 → xM → Prop} (h : V_X6_isNode N x1 post) : xMi l yX6_isNode cX6_isNode 2 (some .boolean) { frames := 1, cells := 0, slots := 0, locals := 22 } D cI cZ (wR cI cZ r) N [.ref (r 0), .int x1] post := by
  refine x_bodyi (own := RX6) (by decide) rfl (Nat.le_of_ble_eq_true rfl) ?_
  intro p e s m below meth c A ls C hr hlocks hA I hl
  have hx := C.1.1
  have hb := C.1.2.1
  have hl : lv_has ls 2 [(0, .ref (r 0)), (1, .int x1)] := hl
  unfold V_X6_isNode at h
  refine lv_iload_n (pc := 0) hx hb dX6_isNode_0 rfl (lv_at hl 1 rfl) ?_
  refine lv_iconst (pc := 1) (v := 0) hx hb dX6_isNode_1 (by decide) ?_
  refine lv_aload_n (pc := 2) hx hb dX6_isNode_2 rfl (lv_at hl 0 rfl) ?_
  refine x_get (pc := 3) C I wR_0 rfl inlX6 (k := 0) q_6_2 (by decide) rfl rfl dX6_isNode_3 ?_
  refine lv_iconst (pc := 6) (v := 1) hx hb dX6_isNode_6 (by decide) ?_
  refine lv_isub (pc := 7) hx hb dX6_isNode_7 ?_
  refine x_calls (pc := 8) C I hA (m_X6_within h) c_RX6_84 ⟨Nat.le_of_ble_eq_true rfl, Nat.le_of_ble_eq_true rfl⟩ ⟨rfl, rfl⟩ ⟨Nat.le_of_ble_eq_true rfl, Nat.le_of_ble_eq_true rfl⟩ (As := [.int x1, .int 0, .int ((N 0 0) - 1)]) rfl hl.1 rfl (Nat.le_of_ble_eq_true rfl) dX6_isNode_8 (fun r1 u2 H locs h I => ?_)
  obtain ⟨e9, h⟩ := h
  rw [e9] at I
  obtain ⟨g2, h⟩ := h
  exact x_iretz (pc := 11) C I hr hlocks (by rcases g2 with g2 | g2 <;> rw [g2] <;> rfl) h dX6_isNode_11
def V_X6_isTask (N : xM) (x1 : Int32) (post : Int32 → xM → Prop) : Prop := (V_X6_within x1 0 ((N 0 4) - 1) (fun r1 => ((r1 = 0 ∨ r1 = 1) ∧ post r1 N)))
set_option maxHeartbeats 4000000 in
set_option maxRecDepth 100000 in
theorem m_X6_isTask {l : Launch} {D : va_G} {cI cZ : ClassId} {r : Nat → Nat} {N : xM} {x1 : Int32} {post : Int32 → xM → Prop} (h : V_X6_isTask N x1 post) : xMi l yX6_isTask cX6_isTask 2 (some .boolean) { frames := 1, cells := 0, slots := 0, locals := 22 } D cI cZ (wR cI cZ r) N [.ref (r 0), .int x1] post := by
  refine x_bodyi (own := RX6) (by decide) rfl (Nat.le_of_ble_eq_true rfl) ?_
  intro p e s m below meth c A ls C hr hlocks hA I hl
  have hx := C.1.1
  have hb := C.1.2.1
  have hl : lv_has ls 2 [(0, .ref (r 0)), (1, .int x1)] := hl
  unfold V_X6_isTask at h
  refine lv_iload_n (pc := 0) hx hb dX6_isTask_0 rfl (lv_at hl 1 rfl) ?_
  refine lv_iconst (pc := 1) (v := 0) hx hb dX6_isTask_1 (by decide) ?_
  refine lv_aload_n (pc := 2) hx hb dX6_isTask_2 rfl (lv_at hl 0 rfl) ?_
  refine x_get (pc := 3) C I wR_0 rfl inlX6 (k := 4) q_9_5 (by decide) rfl rfl dX6_isTask_3 ?_
  refine lv_iconst (pc := 6) (v := 1) hx hb dX6_isTask_6 (by decide) ?_
  refine lv_isub (pc := 7) hx hb dX6_isTask_7 ?_
  refine x_calls (pc := 8) C I hA (m_X6_within h) c_RX6_84 ⟨Nat.le_of_ble_eq_true rfl, Nat.le_of_ble_eq_true rfl⟩ ⟨rfl, rfl⟩ ⟨Nat.le_of_ble_eq_true rfl, Nat.le_of_ble_eq_true rfl⟩ (As := [.int x1, .int 0, .int ((N 0 4) - 1)]) rfl hl.1 rfl (Nat.le_of_ble_eq_true rfl) dX6_isTask_8 (fun r1 u2 H locs h I => ?_)
  obtain ⟨e9, h⟩ := h
  rw [e9] at I
  obtain ⟨g2, h⟩ := h
  exact x_iretz (pc := 11) C I hr hlocks (by rcases g2 with g2 | g2 <;> rw [g2] <;> rfl) h dX6_isTask_11
def V_X6_isAttempt (N : xM) (x1 : Int32) (post : Int32 → xM → Prop) : Prop := (vp_in 0 2 ∧ (V_X6_within x1 0 ((N 5 (0 : Int32).toNatClampNeg) - 1) (fun r2 => ((r2 = 0 ∨ r2 = 1) ∧ post r2 N))))
set_option maxHeartbeats 4000000 in
set_option maxRecDepth 100000 in
theorem m_X6_isAttempt {l : Launch} {D : va_G} {cI cZ : ClassId} {r : Nat → Nat} {N : xM} {x1 : Int32} {post : Int32 → xM → Prop} (h : V_X6_isAttempt N x1 post) : xMi l yX6_isAttempt cX6_isAttempt 2 (some .boolean) { frames := 1, cells := 0, slots := 0, locals := 22 } D cI cZ (wR cI cZ r) N [.ref (r 0), .int x1] post := by
  refine x_bodyi (own := RX6) (by decide) rfl (Nat.le_of_ble_eq_true rfl) ?_
  intro p e s m below meth c A ls C hr hlocks hA I hl
  have hx := C.1.1
  have hb := C.1.2.1
  have hl : lv_has ls 2 [(0, .ref (r 0)), (1, .int x1)] := hl
  unfold V_X6_isAttempt at h
  refine lv_iload_n (pc := 0) hx hb dX6_isAttempt_0 rfl (lv_at hl 1 rfl) ?_
  refine lv_iconst (pc := 1) (v := 0) hx hb dX6_isAttempt_1 (by decide) ?_
  refine lv_aload_n (pc := 2) hx hb dX6_isAttempt_2 rfl (lv_at hl 0 rfl) ?_
  refine x_get (pc := 3) C I wR_0 rfl inlX6 (k := 12) q_4_19 (by decide) rfl rfl dX6_isAttempt_3 ?_
  refine lv_iconst (pc := 6) (v := 0) hx hb dX6_isAttempt_6 (by decide) ?_
  obtain ⟨g1, h⟩ := h
  refine x_ald (pc := 7) C I wR_5 g1 dX6_isAttempt_7 ?_
  refine lv_iconst (pc := 8) (v := 1) hx hb dX6_isAttempt_8 (by decide) ?_
  refine lv_isub (pc := 9) hx hb dX6_isAttempt_9 ?_
  refine x_calls (pc := 10) C I hA (m_X6_within h) c_RX6_84 ⟨Nat.le_of_ble_eq_true rfl, Nat.le_of_ble_eq_true rfl⟩ ⟨rfl, rfl⟩ ⟨Nat.le_of_ble_eq_true rfl, Nat.le_of_ble_eq_true rfl⟩ (As := [.int x1, .int 0, .int ((N 5 (0 : Int32).toNatClampNeg) - 1)]) rfl hl.1 rfl (Nat.le_of_ble_eq_true rfl) dX6_isAttempt_10 (fun r2 u2 H locs h I => ?_)
  obtain ⟨e9, h⟩ := h
  rw [e9] at I
  obtain ⟨g3, h⟩ := h
  exact x_iretz (pc := 13) C I hr hlocks (by rcases g3 with g3 | g3 <;> rw [g3] <;> rfl) h dX6_isAttempt_13
def V_X6_first (N : xM) (post : Int32 → xM → Prop) : Prop := post (200 * (N 0 11)) N
set_option maxHeartbeats 4000000 in
set_option maxRecDepth 100000 in
theorem m_X6_first {l : Launch} {D : va_G} {cI cZ : ClassId} {r : Nat → Nat} {N : xM} {post : Int32 → xM → Prop} (h : V_X6_first N post) : xMi l yX6_first cX6_first 1 (some .int) { frames := 0, cells := 0, slots := 0, locals := 0 } D cI cZ (wR cI cZ r) N [.ref (r 0)] post := by
  refine x_bodyi (own := RX6) (by decide) rfl (Nat.le_of_ble_eq_true rfl) ?_
  intro p e s m below meth c A ls C hr hlocks hA I hl
  have hx := C.1.1
  have hb := C.1.2.1
  have hl : lv_has ls 1 [(0, .ref (r 0))] := hl
  unfold V_X6_first at h
  refine lv_sipush (pc := 0) (v := 200) hx hb dX6_first_0 (by decide) ?_
  refine lv_aload_n (pc := 3) hx hb dX6_first_3 rfl (lv_at hl 0 rfl) ?_
  refine x_get (pc := 4) C I wR_0 rfl inlX6 (k := 11) q_8_7 (by decide) rfl rfl dX6_first_4 ?_
  refine lv_imul (pc := 7) hx hb dX6_first_7 ?_
  exact x_ireti (pc := 8) C I hr hlocks h dX6_first_8
def V_X6_last (N : xM) (post : Int32 → xM → Prop) : Prop := (vp_in (N 0 11) 2 ∧ post ((200 * (N 0 11)) + (N 5 ((N 0 11)).toNatClampNeg)) N)
set_option maxHeartbeats 4000000 in
set_option maxRecDepth 100000 in
theorem m_X6_last {l : Launch} {D : va_G} {cI cZ : ClassId} {r : Nat → Nat} {N : xM} {post : Int32 → xM → Prop} (h : V_X6_last N post) : xMi l yX6_last cX6_last 1 (some .int) { frames := 0, cells := 0, slots := 0, locals := 0 } D cI cZ (wR cI cZ r) N [.ref (r 0)] post := by
  refine x_bodyi (own := RX6) (by decide) rfl (Nat.le_of_ble_eq_true rfl) ?_
  intro p e s m below meth c A ls C hr hlocks hA I hl
  have hx := C.1.1
  have hb := C.1.2.1
  have hl : lv_has ls 1 [(0, .ref (r 0))] := hl
  unfold V_X6_last at h
  refine lv_sipush (pc := 0) (v := 200) hx hb dX6_last_0 (by decide) ?_
  refine lv_aload_n (pc := 3) hx hb dX6_last_3 rfl (lv_at hl 0 rfl) ?_
  refine x_get (pc := 4) C I wR_0 rfl inlX6 (k := 11) q_8_7 (by decide) rfl rfl dX6_last_4 ?_
  refine lv_imul (pc := 7) hx hb dX6_last_7 ?_
  refine lv_aload_n (pc := 8) hx hb dX6_last_8 rfl (lv_at hl 0 rfl) ?_
  refine x_get (pc := 9) C I wR_0 rfl inlX6 (k := 12) q_4_19 (by decide) rfl rfl dX6_last_9 ?_
  refine lv_aload_n (pc := 12) hx hb dX6_last_12 rfl (lv_at hl 0 rfl) ?_
  refine x_get (pc := 13) C I wR_0 rfl inlX6 (k := 11) q_8_7 (by decide) rfl rfl dX6_last_13 ?_
  obtain ⟨g1, h⟩ := h
  refine x_ald (pc := 16) C I wR_5 g1 dX6_last_16 ?_
  refine lv_iadd (pc := 17) hx hb dX6_last_17 ?_
  exact x_ireti (pc := 18) C I hr hlocks h dX6_last_18
def V_X6_addNode (N : xM) (x1 x2 : Int32) (post : Int32 → xM → Prop) : Prop := (V_X6_within x1 0 100 (fun r1 => ((r1 = 0 → post (-4) N) ∧ (¬ r1 = 0 → (V_X6_within x2 1 4 (fun r3 => ((r3 = 0 → post (-4) N) ∧ (¬ r3 = 0 → (((N 0 0) = 8 → post (-5) N) ∧ (¬ (N 0 0) = 8 → (vp_in (N 0 0) 8 ∧ ∀ N7 : xM, N7 = xu N 1 ((N 0 0)).toNatClampNeg x1 → (vp_in (N7 0 0) 8 ∧ ∀ N9 : xM, N9 = xu N7 2 ((N7 0 0)).toNatClampNeg x2 → (vp_in (N9 0 0) 8 ∧ ∀ N11 : xM, N11 = xu N9 3 ((N9 0 0)).toNatClampNeg (vp_nar .boolean 1) → (∀ N12 : xM, N12 = xu N11 0 0 ((N11 0 0) + 1) → post ((N12 0 0) - 1) N12))))))))))))))
set_option maxHeartbeats 4000000 in
set_option maxRecDepth 100000 in
theorem m_X6_addNode {l : Launch} {D : va_G} {cI cZ : ClassId} {r : Nat → Nat} {N : xM} {x1 x2 : Int32} {post : Int32 → xM → Prop} (h : V_X6_addNode N x1 x2 post) : xMi l yX6_addNode cX6_addNode 3 (some .int) { frames := 1, cells := 0, slots := 0, locals := 22 } D cI cZ (wR cI cZ r) N [.ref (r 0), .int x1, .int x2] post := by
  refine x_bodyi (own := RX6) (by decide) rfl (Nat.le_of_ble_eq_true rfl) ?_
  intro p e s m below meth c A ls C hr hlocks hA I hl
  have hx := C.1.1
  have hb := C.1.2.1
  have hl : lv_has ls 3 [(0, .ref (r 0)), (1, .int x1), (2, .int x2)] := hl
  unfold V_X6_addNode at h
  refine lv_iload_n (pc := 0) hx hb dX6_addNode_0 rfl (lv_at hl 1 rfl) ?_
  refine lv_iconst (pc := 1) (v := 0) hx hb dX6_addNode_1 (by decide) ?_
  refine lv_bipush (pc := 2) (v := 100) hx hb dX6_addNode_2 (by decide) ?_
  refine x_calls (pc := 4) C I hA (m_X6_within h) c_RX6_84 ⟨Nat.le_of_ble_eq_true rfl, Nat.le_of_ble_eq_true rfl⟩ ⟨rfl, rfl⟩ ⟨Nat.le_of_ble_eq_true rfl, Nat.le_of_ble_eq_true rfl⟩ (As := [.int x1, .int 0, .int 100]) rfl hl.1 rfl (Nat.le_of_ble_eq_true rfl) dX6_addNode_4 (fun r1 u2 H locs h I => ?_)
  obtain ⟨e9, h⟩ := h
  rw [e9] at I
  refine lv_if_eq (pc := 7) (tgt := 19) hx hb dX6_addNode_7 (by decide) (fun g2 => ?_) (fun g2 => ?_)
  · have h := h.1 g2
    refine lv_bipush (pc := 19) (v := (-4)) hx hb dX6_addNode_19 (by decide) ?_
    exact x_ireti (pc := 21) C I hr hlocks h dX6_addNode_21
  · have h := h.2 g2
    refine lv_iload_n (pc := 10) hx hb dX6_addNode_10 rfl (lv_at hl 2 rfl) ?_
    refine lv_iconst (pc := 11) (v := 1) hx hb dX6_addNode_11 (by decide) ?_
    refine lv_iconst (pc := 12) (v := 4) hx hb dX6_addNode_12 (by decide) ?_
    refine x_calls (pc := 13) C I hA (m_X6_within h) c_RX6_84 ⟨Nat.le_of_ble_eq_true rfl, Nat.le_of_ble_eq_true rfl⟩ ⟨rfl, rfl⟩ ⟨Nat.le_of_ble_eq_true rfl, Nat.le_of_ble_eq_true rfl⟩ (As := [.int x2, .int 1, .int 4]) rfl hl.1 rfl (Nat.le_of_ble_eq_true rfl) dX6_addNode_13 (fun r3 u2 H locs h I => ?_)
    obtain ⟨e9, h⟩ := h
    rw [e9] at I
    refine lv_if_ne (pc := 16) (tgt := 22) hx hb dX6_addNode_16 (by decide) (fun g4 => ?_) (fun g4 => ?_)
    · have h := h.2 g4
      refine lv_aload_n (pc := 22) hx hb dX6_addNode_22 rfl (lv_at hl 0 rfl) ?_
      refine x_get (pc := 23) C I wR_0 rfl inlX6 (k := 0) q_6_2 (by decide) rfl rfl dX6_addNode_23 ?_
      refine lv_bipush (pc := 26) (v := 8) hx hb dX6_addNode_26 (by decide) ?_
      refine lv_icmp_ne (pc := 28) (tgt := 34) hx hb dX6_addNode_28 (by decide) (fun g5 => ?_) (fun g5 => ?_)
      · have h := h.2 g5
        refine lv_aload_n (pc := 34) hx hb dX6_addNode_34 rfl (lv_at hl 0 rfl) ?_
        refine x_get (pc := 35) C I wR_0 rfl inlX6 (k := 1) q_4_11 (by decide) rfl rfl dX6_addNode_35 ?_
        refine lv_aload_n (pc := 38) hx hb dX6_addNode_38 rfl (lv_at hl 0 rfl) ?_
        refine x_get (pc := 39) C I wR_0 rfl inlX6 (k := 0) q_6_2 (by decide) rfl rfl dX6_addNode_39 ?_
        refine lv_iload_n (pc := 42) hx hb dX6_addNode_42 rfl (lv_at hl 1 rfl) ?_
        obtain ⟨g6, h⟩ := h
        refine x_ast (pc := 43) C I wR_1 g6 sR_1 dX6_addNode_43 (fun H locs I => ?_)
        obtain ⟨N7, eN7⟩ : ∃ z : xM, z = xu N 1 ((N 0 0)).toNatClampNeg x1 := ⟨_, rfl⟩
        have h := h N7 eN7
        rw [← eN7] at I
        refine lv_aload_n (pc := 44) hx hb dX6_addNode_44 rfl (lv_at hl 0 rfl) ?_
        refine x_get (pc := 45) C I wR_0 rfl inlX6 (k := 2) q_4_12 (by decide) rfl rfl dX6_addNode_45 ?_
        refine lv_aload_n (pc := 48) hx hb dX6_addNode_48 rfl (lv_at hl 0 rfl) ?_
        refine x_get (pc := 49) C I wR_0 rfl inlX6 (k := 0) q_6_2 (by decide) rfl rfl dX6_addNode_49 ?_
        refine lv_iload_n (pc := 52) hx hb dX6_addNode_52 rfl (lv_at hl 2 rfl) ?_
        obtain ⟨g8, h⟩ := h
        refine x_ast (pc := 53) C I wR_2 g8 sR_2 dX6_addNode_53 (fun H locs I => ?_)
        obtain ⟨N9, eN9⟩ : ∃ z : xM, z = xu N7 2 ((N7 0 0)).toNatClampNeg x2 := ⟨_, rfl⟩
        have h := h N9 eN9
        rw [← eN9] at I
        refine lv_aload_n (pc := 54) hx hb dX6_addNode_54 rfl (lv_at hl 0 rfl) ?_
        refine x_get (pc := 55) C I wR_0 rfl inlX6 (k := 3) q_4_13 (by decide) rfl rfl dX6_addNode_55 ?_
        refine lv_aload_n (pc := 58) hx hb dX6_addNode_58 rfl (lv_at hl 0 rfl) ?_
        refine x_get (pc := 59) C I wR_0 rfl inlX6 (k := 0) q_6_2 (by decide) rfl rfl dX6_addNode_59 ?_
        refine lv_iconst (pc := 62) (v := 1) hx hb dX6_addNode_62 (by decide) ?_
        obtain ⟨g10, h⟩ := h
        refine x_zst (pc := 63) C I wR_3 g10 sR_3 dX6_addNode_63 (fun H locs I => ?_)
        obtain ⟨N11, eN11⟩ : ∃ z : xM, z = xu N9 3 ((N9 0 0)).toNatClampNeg (vp_nar .boolean 1) := ⟨_, rfl⟩
        have h := h N11 eN11
        rw [← eN11] at I
        refine lv_aload_n (pc := 64) hx hb dX6_addNode_64 rfl (lv_at hl 0 rfl) ?_
        refine lv_dup (pc := 65) hx hb dX6_addNode_65 rfl ?_
        refine x_get (pc := 66) C I wR_0 rfl inlX6 (k := 0) q_6_2 (by decide) rfl rfl dX6_addNode_66 ?_
        refine lv_iconst (pc := 69) (v := 1) hx hb dX6_addNode_69 (by decide) ?_
        refine lv_iadd (pc := 70) hx hb dX6_addNode_70 ?_
        refine x_puti (pc := 71) C I wR_0 rfl inlX6 tyX6_ok nmX6 (k := 0) q_6_2 (by decide) rfl rfl rfl (Nat.le_of_ble_eq_true rfl) sR_0_0 dX6_addNode_71 (fun H locs I => ?_)
        obtain ⟨N12, eN12⟩ : ∃ z : xM, z = xu N11 0 0 ((N11 0 0) + 1) := ⟨_, rfl⟩
        have h := h N12 eN12
        rw [← eN12] at I
        refine lv_aload_n (pc := 74) hx hb dX6_addNode_74 rfl (lv_at hl 0 rfl) ?_
        refine x_get (pc := 75) C I wR_0 rfl inlX6 (k := 0) q_6_2 (by decide) rfl rfl dX6_addNode_75 ?_
        refine lv_iconst (pc := 78) (v := 1) hx hb dX6_addNode_78 (by decide) ?_
        refine lv_isub (pc := 79) hx hb dX6_addNode_79 ?_
        exact x_ireti (pc := 80) C I hr hlocks h dX6_addNode_80
      · have h := h.1 g5
        refine lv_bipush (pc := 31) (v := (-5)) hx hb dX6_addNode_31 (by decide) ?_
        exact x_ireti (pc := 33) C I hr hlocks h dX6_addNode_33
    · have h := h.1 g4
      refine lv_bipush (pc := 19) (v := (-4)) hx hb dX6_addNode_19 (by decide) ?_
      exact x_ireti (pc := 21) C I hr hlocks h dX6_addNode_21
def V_X6_setSpeed (N : xM) (x1 x2 : Int32) (post : Int32 → xM → Prop) : Prop := (V_X6_isNode N x1 (fun r2 N1 => ((r2 = 0 → post (-1) N1) ∧ (¬ r2 = 0 → (V_X6_within x2 0 100 (fun r4 => ((r4 = 0 → post (-4) N1) ∧ (¬ r4 = 0 → (vp_in x1 8 ∧ (∀ y7 : Int32, y7 = (N1 1 (x1).toNatClampNeg) → (vp_in x1 8 ∧ ∀ N9 : xM, N9 = xu N1 1 (x1).toNatClampNeg x2 → post y7 N9)))))))))))
set_option maxHeartbeats 4000000 in
set_option maxRecDepth 100000 in
theorem m_X6_setSpeed {l : Launch} {D : va_G} {cI cZ : ClassId} {r : Nat → Nat} {N : xM} {x1 x2 : Int32} {post : Int32 → xM → Prop} (h : V_X6_setSpeed N x1 x2 post) : xMi l yX6_setSpeed cX6_setSpeed 4 (some .int) { frames := 2, cells := 0, slots := 0, locals := 43 } D cI cZ (wR cI cZ r) N [.ref (r 0), .int x1, .int x2] post := by
  refine x_bodyi (own := RX6) (by decide) rfl (Nat.le_of_ble_eq_true rfl) ?_
  intro p e s m below meth c A ls C hr hlocks hA I hl
  have hx := C.1.1
  have hb := C.1.2.1
  have hl : lv_has ls 4 [(0, .ref (r 0)), (1, .int x1), (2, .int x2)] := hl
  unfold V_X6_setSpeed at h
  refine lv_aload_n (pc := 0) hx hb dX6_setSpeed_0 rfl (lv_at hl 0 rfl) ?_
  refine lv_iload_n (pc := 1) hx hb dX6_setSpeed_1 rfl (lv_at hl 1 rfl) ?_
  refine x_calli (pc := 2) C I hA (m_X6_isNode h) c_RX6_94 wR_0 rfl ⟨Nat.le_of_ble_eq_true rfl, Nat.le_of_ble_eq_true rfl⟩ ⟨rfl, rfl⟩ ⟨Nat.le_of_ble_eq_true rfl, Nat.le_of_ble_eq_true rfl⟩ (As := [.int x1]) rfl hl.1 rfl (Nat.le_of_ble_eq_true rfl) dX6_setSpeed_2 (fun r2 N1 H locs h I => ?_)
  refine lv_if_ne (pc := 5) (tgt := 10) hx hb dX6_setSpeed_5 (by decide) (fun g3 => ?_) (fun g3 => ?_)
  · have h := h.2 g3
    refine lv_iload_n (pc := 10) hx hb dX6_setSpeed_10 rfl (lv_at hl 2 rfl) ?_
    refine lv_iconst (pc := 11) (v := 0) hx hb dX6_setSpeed_11 (by decide) ?_
    refine lv_bipush (pc := 12) (v := 100) hx hb dX6_setSpeed_12 (by decide) ?_
    refine x_calls (pc := 14) C I hA (m_X6_within h) c_RX6_84 ⟨Nat.le_of_ble_eq_true rfl, Nat.le_of_ble_eq_true rfl⟩ ⟨rfl, rfl⟩ ⟨Nat.le_of_ble_eq_true rfl, Nat.le_of_ble_eq_true rfl⟩ (As := [.int x2, .int 0, .int 100]) rfl hl.1 rfl (Nat.le_of_ble_eq_true rfl) dX6_setSpeed_14 (fun r4 u2 H locs h I => ?_)
    obtain ⟨e9, h⟩ := h
    rw [e9] at I
    refine lv_if_ne (pc := 17) (tgt := 23) hx hb dX6_setSpeed_17 (by decide) (fun g5 => ?_) (fun g5 => ?_)
    · have h := h.2 g5
      refine lv_aload_n (pc := 23) hx hb dX6_setSpeed_23 rfl (lv_at hl 0 rfl) ?_
      refine x_get (pc := 24) C I wR_0 rfl inlX6 (k := 1) q_4_11 (by decide) rfl rfl dX6_setSpeed_24 ?_
      refine lv_iload_n (pc := 27) hx hb dX6_setSpeed_27 rfl (lv_at hl 1 rfl) ?_
      obtain ⟨g6, h⟩ := h
      refine x_ald (pc := 28) C I wR_1 g6 dX6_setSpeed_28 ?_
      refine lv_topi (fun y7 ey7 => ?_)
      have h := h y7 ey7
      refine lv_istore_n (pc := 29) (lv' := [(3, .int y7), (0, .ref (r 0)), (1, .int x1), (2, .int x2)]) hx hb dX6_setSpeed_29 rfl hl (by decide) rfl (fun ls hl => ?_)
      refine lv_aload_n (pc := 30) hx hb dX6_setSpeed_30 rfl (lv_at hl 1 rfl) ?_
      refine x_get (pc := 31) C I wR_0 rfl inlX6 (k := 1) q_4_11 (by decide) rfl rfl dX6_setSpeed_31 ?_
      refine lv_iload_n (pc := 34) hx hb dX6_setSpeed_34 rfl (lv_at hl 2 rfl) ?_
      refine lv_iload_n (pc := 35) hx hb dX6_setSpeed_35 rfl (lv_at hl 3 rfl) ?_
      obtain ⟨g8, h⟩ := h
      refine x_ast (pc := 36) C I wR_1 g8 sR_1 dX6_setSpeed_36 (fun H locs I => ?_)
      obtain ⟨N9, eN9⟩ : ∃ z : xM, z = xu N1 1 (x1).toNatClampNeg x2 := ⟨_, rfl⟩
      have h := h N9 eN9
      rw [← eN9] at I
      refine lv_iload_n (pc := 37) hx hb dX6_setSpeed_37 rfl (lv_at hl 0 rfl) ?_
      exact x_ireti (pc := 38) C I hr hlocks h dX6_setSpeed_38
    · have h := h.1 g5
      refine lv_bipush (pc := 20) (v := (-4)) hx hb dX6_setSpeed_20 (by decide) ?_
      exact x_ireti (pc := 22) C I hr hlocks h dX6_setSpeed_22
  · have h := h.1 g3
    refine lv_iconst (pc := 8) (v := (-1)) hx hb dX6_setSpeed_8 (by decide) ?_
    exact x_ireti (pc := 9) C I hr hlocks h dX6_setSpeed_9
def V_X6_stops (N : xM) (x1 x2 : Int32) (post : xM → Prop) : Prop := (vp_in x1 400 ∧ ∀ N2 : xM, N2 = xu N 11 (x1).toNatClampNeg x2 → (vp_in x1 400 ∧ (vp_in ((24 * (N2 0 11)) + (N2 7 (x1).toNatClampNeg)) 48 ∧ (vp_in ((24 * (N2 0 11)) + (N2 7 (x1).toNatClampNeg)) 48 ∧ ∀ N6 : xM, N6 = xu N2 15 (((24 * (N2 0 11)) + (N2 7 (x1).toNatClampNeg))).toNatClampNeg ((N2 15 (((24 * (N2 0 11)) + (N2 7 (x1).toNatClampNeg))).toNatClampNeg) - 1) → (vp_in x1 400 ∧ (vp_in ((8 * (N6 0 11)) + (N6 8 (x1).toNatClampNeg)) 16 ∧ (vp_in ((8 * (N6 0 11)) + (N6 8 (x1).toNatClampNeg)) 16 ∧ ∀ N10 : xM, N10 = xu N6 16 (((8 * (N6 0 11)) + (N6 8 (x1).toNatClampNeg))).toNatClampNeg ((N6 16 (((8 * (N6 0 11)) + (N6 8 (x1).toNatClampNeg))).toNatClampNeg) - 1) → post N10)))))))
set_option maxHeartbeats 4000000 in
set_option maxRecDepth 100000 in
theorem m_X6_stops {l : Launch} {D : va_G} {cI cZ : ClassId} {r : Nat → Nat} {N : xM} {x1 x2 : Int32} {post : xM → Prop} (h : V_X6_stops N x1 x2 post) : xMv l yX6_stops cX6_stops 3 none { frames := 0, cells := 0, slots := 0, locals := 0 } D cI cZ (wR cI cZ r) N [.ref (r 0), .int x1, .int x2] post := by
  refine x_bodyv (own := RX6) (by decide) rfl (Nat.le_of_ble_eq_true rfl) ?_
  intro p e s m below meth c A ls C hr hlocks hA I hl
  have hx := C.1.1
  have hb := C.1.2.1
  have hl : lv_has ls 3 [(0, .ref (r 0)), (1, .int x1), (2, .int x2)] := hl
  unfold V_X6_stops at h
  refine lv_aload_n (pc := 0) hx hb dX6_stops_0 rfl (lv_at hl 0 rfl) ?_
  refine x_get (pc := 1) C I wR_0 rfl inlX6 (k := 18) q_5_1 (by decide) rfl rfl dX6_stops_1 ?_
  refine lv_iload_n (pc := 4) hx hb dX6_stops_4 rfl (lv_at hl 1 rfl) ?_
  refine lv_iload_n (pc := 5) hx hb dX6_stops_5 rfl (lv_at hl 2 rfl) ?_
  obtain ⟨g1, h⟩ := h
  refine x_ast (pc := 6) C I wR_11 g1 sR_11 dX6_stops_6 (fun H locs I => ?_)
  obtain ⟨N2, eN2⟩ : ∃ z : xM, z = xu N 11 (x1).toNatClampNeg x2 := ⟨_, rfl⟩
  have h := h N2 eN2
  rw [← eN2] at I
  refine lv_aload_n (pc := 7) hx hb dX6_stops_7 rfl (lv_at hl 0 rfl) ?_
  refine x_get (pc := 8) C I wR_0 rfl inlX6 (k := 22) q_5_5 (by decide) rfl rfl dX6_stops_8 ?_
  refine lv_bipush (pc := 11) (v := 24) hx hb dX6_stops_11 (by decide) ?_
  refine lv_aload_n (pc := 13) hx hb dX6_stops_13 rfl (lv_at hl 0 rfl) ?_
  refine x_get (pc := 14) C I wR_0 rfl inlX6 (k := 11) q_8_7 (by decide) rfl rfl dX6_stops_14 ?_
  refine lv_imul (pc := 17) hx hb dX6_stops_17 ?_
  refine lv_aload_n (pc := 18) hx hb dX6_stops_18 rfl (lv_at hl 0 rfl) ?_
  refine x_get (pc := 19) C I wR_0 rfl inlX6 (k := 14) q_4_21 (by decide) rfl rfl dX6_stops_19 ?_
  refine lv_iload_n (pc := 22) hx hb dX6_stops_22 rfl (lv_at hl 1 rfl) ?_
  obtain ⟨g3, h⟩ := h
  refine x_ald (pc := 23) C I wR_7 g3 dX6_stops_23 ?_
  refine lv_iadd (pc := 24) hx hb dX6_stops_24 ?_
  refine lv_dup2_11 (pc := 25) hx hb dX6_stops_25 rfl rfl ?_
  obtain ⟨g4, h⟩ := h
  refine x_ald (pc := 26) C I wR_15 g4 dX6_stops_26 ?_
  refine lv_iconst (pc := 27) (v := 1) hx hb dX6_stops_27 (by decide) ?_
  refine lv_isub (pc := 28) hx hb dX6_stops_28 ?_
  obtain ⟨g5, h⟩ := h
  refine x_ast (pc := 29) C I wR_15 g5 sR_15 dX6_stops_29 (fun H locs I => ?_)
  obtain ⟨N6, eN6⟩ : ∃ z : xM, z = xu N2 15 (((24 * (N2 0 11)) + (N2 7 (x1).toNatClampNeg))).toNatClampNeg ((N2 15 (((24 * (N2 0 11)) + (N2 7 (x1).toNatClampNeg))).toNatClampNeg) - 1) := ⟨_, rfl⟩
  have h := h N6 eN6
  rw [← eN6] at I
  refine lv_aload_n (pc := 30) hx hb dX6_stops_30 rfl (lv_at hl 0 rfl) ?_
  refine x_get (pc := 31) C I wR_0 rfl inlX6 (k := 23) q_5_6 (by decide) rfl rfl dX6_stops_31 ?_
  refine lv_bipush (pc := 34) (v := 8) hx hb dX6_stops_34 (by decide) ?_
  refine lv_aload_n (pc := 36) hx hb dX6_stops_36 rfl (lv_at hl 0 rfl) ?_
  refine x_get (pc := 37) C I wR_0 rfl inlX6 (k := 11) q_8_7 (by decide) rfl rfl dX6_stops_37 ?_
  refine lv_imul (pc := 40) hx hb dX6_stops_40 ?_
  refine lv_aload_n (pc := 41) hx hb dX6_stops_41 rfl (lv_at hl 0 rfl) ?_
  refine x_get (pc := 42) C I wR_0 rfl inlX6 (k := 15) q_4_22 (by decide) rfl rfl dX6_stops_42 ?_
  refine lv_iload_n (pc := 45) hx hb dX6_stops_45 rfl (lv_at hl 1 rfl) ?_
  obtain ⟨g7, h⟩ := h
  refine x_ald (pc := 46) C I wR_8 g7 dX6_stops_46 ?_
  refine lv_iadd (pc := 47) hx hb dX6_stops_47 ?_
  refine lv_dup2_11 (pc := 48) hx hb dX6_stops_48 rfl rfl ?_
  obtain ⟨g8, h⟩ := h
  refine x_ald (pc := 49) C I wR_16 g8 dX6_stops_49 ?_
  refine lv_iconst (pc := 50) (v := 1) hx hb dX6_stops_50 (by decide) ?_
  refine lv_isub (pc := 51) hx hb dX6_stops_51 ?_
  obtain ⟨g9, h⟩ := h
  refine x_ast (pc := 52) C I wR_16 g9 sR_16 dX6_stops_52 (fun H locs I => ?_)
  obtain ⟨N10, eN10⟩ : ∃ z : xM, z = xu N6 16 (((8 * (N6 0 11)) + (N6 8 (x1).toNatClampNeg))).toNatClampNeg ((N6 16 (((8 * (N6 0 11)) + (N6 8 (x1).toNatClampNeg))).toNatClampNeg) - 1) := ⟨_, rfl⟩
  have h := h N10 eN10
  rw [← eN10] at I
  exact x_retv (pc := 53) C I hr hlocks h dX6_stops_53
def V_X6_failNode_L33 (post : Int32 → xM → Prop) : Nat → xM → Int32 → Int32 → Int32 → Prop
  | 0, _, _, _, _ => False
  | n + 1, N0, x1, x2, x3 => (vp_in 0 2 ∧ (((N0 5 (0 : Int32).toNatClampNeg) ≤ x3 → post x2 N0) ∧ (¬ (N0 5 (0 : Int32).toNatClampNeg) ≤ x3 → (vp_in x3 400 ∧ (((N0 11 (x3).toNatClampNeg) = 1 → (vp_in x3 400 ∧ (((N0 8 (x3).toNatClampNeg) = x1 → (V_X6_stops N0 x3 4 (fun N16 => (∀ y17 : Int32, y17 = (x2 + 1) → (∀ y18 : Int32, y18 = (x3 + 1) → (V_X6_failNode_L33 post n N16 x1 y17 y18)))))) ∧ (¬ (N0 8 (x3).toNatClampNeg) = x1 → (∀ y15 : Int32, y15 = (x3 + 1) → (V_X6_failNode_L33 post n N0 x1 x2 y15)))))) ∧ (¬ (N0 11 (x3).toNatClampNeg) = 1 → (∀ y12 : Int32, y12 = (x3 + 1) → (V_X6_failNode_L33 post n N0 x1 x2 y12))))))))
def V_X6_failNode (N : xM) (x1 : Int32) (post : Int32 → xM → Prop) : Prop := (V_X6_isNode N x1 (fun r2 N1 => ((r2 = 0 → post (-1) N1) ∧ (¬ r2 = 0 → (vp_in x1 8 ∧ (((N1 3 (x1).toNatClampNeg) = 0 → post (-6) N1) ∧ (¬ (N1 3 (x1).toNatClampNeg) = 0 → (vp_in x1 8 ∧ ∀ N7 : xM, N7 = xu N1 3 (x1).toNatClampNeg (vp_nar .boolean 0) → (∃ n19 : Nat, V_X6_failNode_L33 post n19 N7 x1 0 0)))))))))
set_option maxHeartbeats 4000000 in
set_option maxRecDepth 100000 in
theorem k_X6_failNode_L33 {l : Launch} {D : va_G} {cI cZ : ClassId} {r : Nat → Nat} {p : Program} {e : Env} {s : State} {m : MethodId} {below : List Frame} {meth : Method} {c : Code} {A : Nat → Prop} {args : Array Value} {post : Int32 → xM → Prop} (C : xC p s m args c cX6_failNode 4 RX6 D cI cZ) (hr : meth.sig.returnType = (some .int)) (hlocks : meth.locks = false) (hA : ∀ q : Nat, s.heap.size ≤ q → A q) (n : Nat) : ∀ (N0 : xM) (x1 x2 x3 : Int32) (H : Heap) (locs : List Loc) (ls : Array Slot), V_X6_failNode_L33 post n N0 x1 x2 x3 → xI D (wR cI cZ r N0) A s.heap H locs → lv_has ls 4 [(0, .ref (r 0)), (1, .int x1), (2, .int x2), (3, .int x3)] → W p l e { frames := 2, cells := 0, slots := 0, locals := 43 } s m args below meth c H locs 0 0 (MQ below (va_Qi post (xPost D cI cZ A (wR cI cZ r)) A) args s 0 0 A) (F0 m 33 ls []) := by
  have hx := C.1.1
  have hb := C.1.2.1
  induction n with
  | zero =>
    intro N0 x1 x2 x3 H locs ls h I hl
    exact absurd h id
  | succ n ih33 =>
    intro N0 x1 x2 x3 H locs ls h I hl
    rw [V_X6_failNode_L33] at h
    refine lv_iload_n (pc := 33) hx hb dX6_failNode_33 rfl (lv_at hl 3 rfl) ?_
    refine lv_aload_n (pc := 34) hx hb dX6_failNode_34 rfl (lv_at hl 0 rfl) ?_
    refine x_get (pc := 35) C I wR_0 rfl inlX6 (k := 12) q_4_19 (by decide) rfl rfl dX6_failNode_35 ?_
    refine lv_iconst (pc := 38) (v := 0) hx hb dX6_failNode_38 (by decide) ?_
    obtain ⟨g8, h⟩ := h
    refine x_ald (pc := 39) C I wR_5 g8 dX6_failNode_39 ?_
    refine lv_icmp_ge (pc := 40) (tgt := 78) hx hb dX6_failNode_40 (by decide) (fun g9 => ?_) (fun g9 => ?_)
    · have h := h.1 g9
      refine lv_iload_n (pc := 78) hx hb dX6_failNode_78 rfl (lv_at hl 2 rfl) ?_
      exact x_ireti (pc := 79) C I hr hlocks h dX6_failNode_79
    · have h := h.2 g9
      refine lv_aload_n (pc := 43) hx hb dX6_failNode_43 rfl (lv_at hl 0 rfl) ?_
      refine x_get (pc := 44) C I wR_0 rfl inlX6 (k := 18) q_5_1 (by decide) rfl rfl dX6_failNode_44 ?_
      refine lv_iload_n (pc := 47) hx hb dX6_failNode_47 rfl (lv_at hl 3 rfl) ?_
      obtain ⟨g10, h⟩ := h
      refine x_ald (pc := 48) C I wR_11 g10 dX6_failNode_48 ?_
      refine lv_iconst (pc := 49) (v := 1) hx hb dX6_failNode_49 (by decide) ?_
      refine lv_icmp_ne (pc := 50) (tgt := 72) hx hb dX6_failNode_50 (by decide) (fun g11 => ?_) (fun g11 => ?_)
      · have h := h.2 g11
        obtain ⟨y12, ey12⟩ : ∃ y : Int32, y = (x3 + 1) := ⟨_, rfl⟩
        have h := h y12 ey12
        refine lv_iinc (pc := 72) (v := y12) (lv' := [(3, .int y12), (0, .ref (r 0)), (1, .int x1), (2, .int x2)]) hx hb dX6_failNode_72 hl (k := 3) rfl (by rw [ey12]; rfl) (by decide) rfl (fun ls hl => ?_)
        refine lv_goto (pc := 75) (tgt := 33) hx hb dX6_failNode_75 (by decide) ?_
        exact ih33 N0 x1 x2 y12 _ _ _ h I (lv_sub hl [1, 2, 3, 0] rfl)
      · have h := h.1 g11
        refine lv_aload_n (pc := 53) hx hb dX6_failNode_53 rfl (lv_at hl 0 rfl) ?_
        refine x_get (pc := 54) C I wR_0 rfl inlX6 (k := 15) q_4_22 (by decide) rfl rfl dX6_failNode_54 ?_
        refine lv_iload_n (pc := 57) hx hb dX6_failNode_57 rfl (lv_at hl 3 rfl) ?_
        obtain ⟨g13, h⟩ := h
        refine x_ald (pc := 58) C I wR_8 g13 dX6_failNode_58 ?_
        refine lv_iload_n (pc := 59) hx hb dX6_failNode_59 rfl (lv_at hl 1 rfl) ?_
        refine lv_icmp_ne (pc := 60) (tgt := 72) hx hb dX6_failNode_60 (by decide) (fun g14 => ?_) (fun g14 => ?_)
        · have h := h.2 g14
          obtain ⟨y15, ey15⟩ : ∃ y : Int32, y = (x3 + 1) := ⟨_, rfl⟩
          have h := h y15 ey15
          refine lv_iinc (pc := 72) (v := y15) (lv' := [(3, .int y15), (0, .ref (r 0)), (1, .int x1), (2, .int x2)]) hx hb dX6_failNode_72 hl (k := 3) rfl (by rw [ey15]; rfl) (by decide) rfl (fun ls hl => ?_)
          refine lv_goto (pc := 75) (tgt := 33) hx hb dX6_failNode_75 (by decide) ?_
          exact ih33 N0 x1 x2 y15 _ _ _ h I (lv_sub hl [1, 2, 3, 0] rfl)
        · have h := h.1 g14
          refine lv_aload_n (pc := 63) hx hb dX6_failNode_63 rfl (lv_at hl 0 rfl) ?_
          refine lv_iload_n (pc := 64) hx hb dX6_failNode_64 rfl (lv_at hl 3 rfl) ?_
          refine lv_iconst (pc := 65) (v := 4) hx hb dX6_failNode_65 (by decide) ?_
          refine x_callv (pc := 66) C I hA (m_X6_stops h) c_RX6_98 wR_0 rfl ⟨Nat.le_of_ble_eq_true rfl, Nat.le_of_ble_eq_true rfl⟩ ⟨rfl, rfl⟩ ⟨Nat.le_of_ble_eq_true rfl, Nat.le_of_ble_eq_true rfl⟩ (As := [.int x3, .int 4]) rfl hl.1 rfl (Nat.le_of_ble_eq_true rfl) dX6_failNode_66 (fun N16 H locs h I => ?_)
          obtain ⟨y17, ey17⟩ : ∃ y : Int32, y = (x2 + 1) := ⟨_, rfl⟩
          have h := h y17 ey17
          refine lv_iinc (pc := 69) (v := y17) (lv' := [(2, .int y17), (0, .ref (r 0)), (1, .int x1), (3, .int x3)]) hx hb dX6_failNode_69 hl (k := 2) rfl (by rw [ey17]; rfl) (by decide) rfl (fun ls hl => ?_)
          obtain ⟨y18, ey18⟩ : ∃ y : Int32, y = (x3 + 1) := ⟨_, rfl⟩
          have h := h y18 ey18
          refine lv_iinc (pc := 72) (v := y18) (lv' := [(3, .int y18), (2, .int y17), (0, .ref (r 0)), (1, .int x1)]) hx hb dX6_failNode_72 hl (k := 3) rfl (by rw [ey18]; rfl) (by decide) rfl (fun ls hl => ?_)
          refine lv_goto (pc := 75) (tgt := 33) hx hb dX6_failNode_75 (by decide) ?_
          exact ih33 N16 x1 y17 y18 _ _ _ h I (lv_sub hl [2, 3, 1, 0] rfl)
set_option maxHeartbeats 4000000 in
set_option maxRecDepth 100000 in
theorem m_X6_failNode {l : Launch} {D : va_G} {cI cZ : ClassId} {r : Nat → Nat} {N : xM} {x1 : Int32} {post : Int32 → xM → Prop} (h : V_X6_failNode N x1 post) : xMi l yX6_failNode cX6_failNode 4 (some .int) { frames := 2, cells := 0, slots := 0, locals := 43 } D cI cZ (wR cI cZ r) N [.ref (r 0), .int x1] post := by
  refine x_bodyi (own := RX6) (by decide) rfl (Nat.le_of_ble_eq_true rfl) ?_
  intro p e s m below meth c A ls C hr hlocks hA I hl
  have hx := C.1.1
  have hb := C.1.2.1
  have hl : lv_has ls 4 [(0, .ref (r 0)), (1, .int x1)] := hl
  unfold V_X6_failNode at h
  refine lv_aload_n (pc := 0) hx hb dX6_failNode_0 rfl (lv_at hl 0 rfl) ?_
  refine lv_iload_n (pc := 1) hx hb dX6_failNode_1 rfl (lv_at hl 1 rfl) ?_
  refine x_calli (pc := 2) C I hA (m_X6_isNode h) c_RX6_94 wR_0 rfl ⟨Nat.le_of_ble_eq_true rfl, Nat.le_of_ble_eq_true rfl⟩ ⟨rfl, rfl⟩ ⟨Nat.le_of_ble_eq_true rfl, Nat.le_of_ble_eq_true rfl⟩ (As := [.int x1]) rfl hl.1 rfl (Nat.le_of_ble_eq_true rfl) dX6_failNode_2 (fun r2 N1 H locs h I => ?_)
  refine lv_if_ne (pc := 5) (tgt := 10) hx hb dX6_failNode_5 (by decide) (fun g3 => ?_) (fun g3 => ?_)
  · have h := h.2 g3
    refine lv_aload_n (pc := 10) hx hb dX6_failNode_10 rfl (lv_at hl 0 rfl) ?_
    refine x_get (pc := 11) C I wR_0 rfl inlX6 (k := 3) q_4_13 (by decide) rfl rfl dX6_failNode_11 ?_
    refine lv_iload_n (pc := 14) hx hb dX6_failNode_14 rfl (lv_at hl 1 rfl) ?_
    obtain ⟨g4, h⟩ := h
    refine x_zld (pc := 15) C I wR_3 g4 dX6_failNode_15 ?_
    refine lv_if_ne (pc := 16) (tgt := 22) hx hb dX6_failNode_16 (by decide) (fun g5 => ?_) (fun g5 => ?_)
    · have h := h.2 g5
      refine lv_aload_n (pc := 22) hx hb dX6_failNode_22 rfl (lv_at hl 0 rfl) ?_
      refine x_get (pc := 23) C I wR_0 rfl inlX6 (k := 3) q_4_13 (by decide) rfl rfl dX6_failNode_23 ?_
      refine lv_iload_n (pc := 26) hx hb dX6_failNode_26 rfl (lv_at hl 1 rfl) ?_
      refine lv_iconst (pc := 27) (v := 0) hx hb dX6_failNode_27 (by decide) ?_
      obtain ⟨g6, h⟩ := h
      refine x_zst (pc := 28) C I wR_3 g6 sR_3 dX6_failNode_28 (fun H locs I => ?_)
      obtain ⟨N7, eN7⟩ : ∃ z : xM, z = xu N1 3 (x1).toNatClampNeg (vp_nar .boolean 0) := ⟨_, rfl⟩
      have h := h N7 eN7
      rw [← eN7] at I
      refine lv_iconst (pc := 29) (v := 0) hx hb dX6_failNode_29 (by decide) ?_
      refine lv_istore_n (pc := 30) (lv' := [(2, .int 0), (0, .ref (r 0)), (1, .int x1)]) hx hb dX6_failNode_30 rfl hl (by decide) rfl (fun ls hl => ?_)
      refine lv_iconst (pc := 31) (v := 0) hx hb dX6_failNode_31 (by decide) ?_
      refine lv_istore_n (pc := 32) (lv' := [(3, .int 0), (2, .int 0), (0, .ref (r 0)), (1, .int x1)]) hx hb dX6_failNode_32 rfl hl (by decide) rfl (fun ls hl => ?_)
      obtain ⟨n19, h⟩ := h
      exact k_X6_failNode_L33 C hr hlocks hA n19 N7 x1 0 0 _ _ _ h I (lv_sub hl [2, 3, 1, 0] rfl)
    · have h := h.1 g5
      refine lv_bipush (pc := 19) (v := (-6)) hx hb dX6_failNode_19 (by decide) ?_
      exact x_ireti (pc := 21) C I hr hlocks h dX6_failNode_21
  · have h := h.1 g3
    refine lv_iconst (pc := 8) (v := (-1)) hx hb dX6_failNode_8 (by decide) ?_
    exact x_ireti (pc := 9) C I hr hlocks h dX6_failNode_9
def V_X6_repairNode (N : xM) (x1 : Int32) (post : Int32 → xM → Prop) : Prop := (V_X6_isNode N x1 (fun r2 N1 => ((r2 = 0 → post (-1) N1) ∧ (¬ r2 = 0 → (vp_in x1 8 ∧ (((N1 3 (x1).toNatClampNeg) = 0 → (vp_in x1 8 ∧ ∀ N7 : xM, N7 = xu N1 3 (x1).toNatClampNeg (vp_nar .boolean 1) → post 1 N7)) ∧ (¬ (N1 3 (x1).toNatClampNeg) = 0 → (vp_in x1 8 ∧ ∀ N9 : xM, N9 = xu N1 3 (x1).toNatClampNeg (vp_nar .boolean 1) → post 0 N9))))))))
set_option maxHeartbeats 4000000 in
set_option maxRecDepth 100000 in
theorem m_X6_repairNode {l : Launch} {D : va_G} {cI cZ : ClassId} {r : Nat → Nat} {N : xM} {x1 : Int32} {post : Int32 → xM → Prop} (h : V_X6_repairNode N x1 post) : xMi l yX6_repairNode cX6_repairNode 3 (some .int) { frames := 2, cells := 0, slots := 0, locals := 43 } D cI cZ (wR cI cZ r) N [.ref (r 0), .int x1] post := by
  refine x_bodyi (own := RX6) (by decide) rfl (Nat.le_of_ble_eq_true rfl) ?_
  intro p e s m below meth c A ls C hr hlocks hA I hl
  have hx := C.1.1
  have hb := C.1.2.1
  have hl : lv_has ls 3 [(0, .ref (r 0)), (1, .int x1)] := hl
  unfold V_X6_repairNode at h
  refine lv_aload_n (pc := 0) hx hb dX6_repairNode_0 rfl (lv_at hl 0 rfl) ?_
  refine lv_iload_n (pc := 1) hx hb dX6_repairNode_1 rfl (lv_at hl 1 rfl) ?_
  refine x_calli (pc := 2) C I hA (m_X6_isNode h) c_RX6_94 wR_0 rfl ⟨Nat.le_of_ble_eq_true rfl, Nat.le_of_ble_eq_true rfl⟩ ⟨rfl, rfl⟩ ⟨Nat.le_of_ble_eq_true rfl, Nat.le_of_ble_eq_true rfl⟩ (As := [.int x1]) rfl hl.1 rfl (Nat.le_of_ble_eq_true rfl) dX6_repairNode_2 (fun r2 N1 H locs h I => ?_)
  refine lv_if_ne (pc := 5) (tgt := 10) hx hb dX6_repairNode_5 (by decide) (fun g3 => ?_) (fun g3 => ?_)
  · have h := h.2 g3
    refine lv_aload_n (pc := 10) hx hb dX6_repairNode_10 rfl (lv_at hl 0 rfl) ?_
    refine x_get (pc := 11) C I wR_0 rfl inlX6 (k := 3) q_4_13 (by decide) rfl rfl dX6_repairNode_11 ?_
    refine lv_iload_n (pc := 14) hx hb dX6_repairNode_14 rfl (lv_at hl 1 rfl) ?_
    obtain ⟨g4, h⟩ := h
    refine x_zld (pc := 15) C I wR_3 g4 dX6_repairNode_15 ?_
    refine lv_if_eq (pc := 16) (tgt := 23) hx hb dX6_repairNode_16 (by decide) (fun g5 => ?_) (fun g5 => ?_)
    · have h := h.1 g5
      refine lv_iconst (pc := 23) (v := 1) hx hb dX6_repairNode_23 (by decide) ?_
      refine lv_istore_n (pc := 24) (lv' := [(2, .int 1), (0, .ref (r 0)), (1, .int x1)]) hx hb dX6_repairNode_24 rfl hl (by decide) rfl (fun ls hl => ?_)
      refine lv_aload_n (pc := 25) hx hb dX6_repairNode_25 rfl (lv_at hl 1 rfl) ?_
      refine x_get (pc := 26) C I wR_0 rfl inlX6 (k := 3) q_4_13 (by decide) rfl rfl dX6_repairNode_26 ?_
      refine lv_iload_n (pc := 29) hx hb dX6_repairNode_29 rfl (lv_at hl 2 rfl) ?_
      refine lv_iconst (pc := 30) (v := 1) hx hb dX6_repairNode_30 (by decide) ?_
      obtain ⟨g6, h⟩ := h
      refine x_zst (pc := 31) C I wR_3 g6 sR_3 dX6_repairNode_31 (fun H locs I => ?_)
      obtain ⟨N7, eN7⟩ : ∃ z : xM, z = xu N1 3 (x1).toNatClampNeg (vp_nar .boolean 1) := ⟨_, rfl⟩
      have h := h N7 eN7
      rw [← eN7] at I
      refine lv_iload_n (pc := 32) hx hb dX6_repairNode_32 rfl (lv_at hl 0 rfl) ?_
      exact x_ireti (pc := 33) C I hr hlocks h dX6_repairNode_33
    · have h := h.2 g5
      refine lv_iconst (pc := 19) (v := 0) hx hb dX6_repairNode_19 (by decide) ?_
      refine lv_goto (pc := 20) (tgt := 24) hx hb dX6_repairNode_20 (by decide) ?_
      refine lv_istore_n (pc := 24) (lv' := [(2, .int 0), (0, .ref (r 0)), (1, .int x1)]) hx hb dX6_repairNode_24 rfl hl (by decide) rfl (fun ls hl => ?_)
      refine lv_aload_n (pc := 25) hx hb dX6_repairNode_25 rfl (lv_at hl 1 rfl) ?_
      refine x_get (pc := 26) C I wR_0 rfl inlX6 (k := 3) q_4_13 (by decide) rfl rfl dX6_repairNode_26 ?_
      refine lv_iload_n (pc := 29) hx hb dX6_repairNode_29 rfl (lv_at hl 2 rfl) ?_
      refine lv_iconst (pc := 30) (v := 1) hx hb dX6_repairNode_30 (by decide) ?_
      obtain ⟨g8, h⟩ := h
      refine x_zst (pc := 31) C I wR_3 g8 sR_3 dX6_repairNode_31 (fun H locs I => ?_)
      obtain ⟨N9, eN9⟩ : ∃ z : xM, z = xu N1 3 (x1).toNatClampNeg (vp_nar .boolean 1) := ⟨_, rfl⟩
      have h := h N9 eN9
      rw [← eN9] at I
      refine lv_iload_n (pc := 32) hx hb dX6_repairNode_32 rfl (lv_at hl 0 rfl) ?_
      exact x_ireti (pc := 33) C I hr hlocks h dX6_repairNode_33
  · have h := h.1 g3
    refine lv_iconst (pc := 8) (v := (-1)) hx hb dX6_repairNode_8 (by decide) ?_
    exact x_ireti (pc := 9) C I hr hlocks h dX6_repairNode_9
def V_X6_addTask (N : xM) (x1 : Int32) (post : Int32 → xM → Prop) : Prop := (V_X6_within x1 1 10000 (fun r1 => ((r1 = 0 → post (-4) N) ∧ (¬ r1 = 0 → (((N 0 4) = 24 → post (-5) N) ∧ (¬ (N 0 4) = 24 → (vp_in (N 0 4) 24 ∧ ∀ N5 : xM, N5 = xu N 4 ((N 0 4)).toNatClampNeg x1 → (vp_in (N5 0 4) 48 ∧ ∀ N7 : xM, N7 = xu N5 13 ((N5 0 4)).toNatClampNeg (-6) → (vp_in (N7 0 4) 48 ∧ ∀ N9 : xM, N9 = xu N7 14 ((N7 0 4)).toNatClampNeg (-6) → (∀ N10 : xM, N10 = xu N9 0 4 ((N9 0 4) + 1) → post ((N10 0 4) - 1) N10))))))))))
set_option maxHeartbeats 4000000 in
set_option maxRecDepth 100000 in
theorem m_X6_addTask {l : Launch} {D : va_G} {cI cZ : ClassId} {r : Nat → Nat} {N : xM} {x1 : Int32} {post : Int32 → xM → Prop} (h : V_X6_addTask N x1 post) : xMi l yX6_addTask cX6_addTask 2 (some .int) { frames := 1, cells := 0, slots := 0, locals := 22 } D cI cZ (wR cI cZ r) N [.ref (r 0), .int x1] post := by
  refine x_bodyi (own := RX6) (by decide) rfl (Nat.le_of_ble_eq_true rfl) ?_
  intro p e s m below meth c A ls C hr hlocks hA I hl
  have hx := C.1.1
  have hb := C.1.2.1
  have hl : lv_has ls 2 [(0, .ref (r 0)), (1, .int x1)] := hl
  unfold V_X6_addTask at h
  refine lv_iload_n (pc := 0) hx hb dX6_addTask_0 rfl (lv_at hl 1 rfl) ?_
  refine lv_iconst (pc := 1) (v := 1) hx hb dX6_addTask_1 (by decide) ?_
  refine lv_sipush (pc := 2) (v := 10000) hx hb dX6_addTask_2 (by decide) ?_
  refine x_calls (pc := 5) C I hA (m_X6_within h) c_RX6_84 ⟨Nat.le_of_ble_eq_true rfl, Nat.le_of_ble_eq_true rfl⟩ ⟨rfl, rfl⟩ ⟨Nat.le_of_ble_eq_true rfl, Nat.le_of_ble_eq_true rfl⟩ (As := [.int x1, .int 1, .int 10000]) rfl hl.1 rfl (Nat.le_of_ble_eq_true rfl) dX6_addTask_5 (fun r1 u2 H locs h I => ?_)
  obtain ⟨e9, h⟩ := h
  rw [e9] at I
  refine lv_if_ne (pc := 8) (tgt := 14) hx hb dX6_addTask_8 (by decide) (fun g2 => ?_) (fun g2 => ?_)
  · have h := h.2 g2
    refine lv_aload_n (pc := 14) hx hb dX6_addTask_14 rfl (lv_at hl 0 rfl) ?_
    refine x_get (pc := 15) C I wR_0 rfl inlX6 (k := 4) q_9_5 (by decide) rfl rfl dX6_addTask_15 ?_
    refine lv_bipush (pc := 18) (v := 24) hx hb dX6_addTask_18 (by decide) ?_
    refine lv_icmp_ne (pc := 20) (tgt := 26) hx hb dX6_addTask_20 (by decide) (fun g3 => ?_) (fun g3 => ?_)
    · have h := h.2 g3
      refine lv_aload_n (pc := 26) hx hb dX6_addTask_26 rfl (lv_at hl 0 rfl) ?_
      refine x_get (pc := 27) C I wR_0 rfl inlX6 (k := 5) q_4_14 (by decide) rfl rfl dX6_addTask_27 ?_
      refine lv_aload_n (pc := 30) hx hb dX6_addTask_30 rfl (lv_at hl 0 rfl) ?_
      refine x_get (pc := 31) C I wR_0 rfl inlX6 (k := 4) q_9_5 (by decide) rfl rfl dX6_addTask_31 ?_
      refine lv_iload_n (pc := 34) hx hb dX6_addTask_34 rfl (lv_at hl 1 rfl) ?_
      obtain ⟨g4, h⟩ := h
      refine x_ast (pc := 35) C I wR_4 g4 sR_4 dX6_addTask_35 (fun H locs I => ?_)
      obtain ⟨N5, eN5⟩ : ∃ z : xM, z = xu N 4 ((N 0 4)).toNatClampNeg x1 := ⟨_, rfl⟩
      have h := h N5 eN5
      rw [← eN5] at I
      refine lv_aload_n (pc := 36) hx hb dX6_addTask_36 rfl (lv_at hl 0 rfl) ?_
      refine x_get (pc := 37) C I wR_0 rfl inlX6 (k := 20) q_5_3 (by decide) rfl rfl dX6_addTask_37 ?_
      refine lv_aload_n (pc := 40) hx hb dX6_addTask_40 rfl (lv_at hl 0 rfl) ?_
      refine x_get (pc := 41) C I wR_0 rfl inlX6 (k := 4) q_9_5 (by decide) rfl rfl dX6_addTask_41 ?_
      refine lv_bipush (pc := 44) (v := (-6)) hx hb dX6_addTask_44 (by decide) ?_
      obtain ⟨g6, h⟩ := h
      refine x_ast (pc := 46) C I wR_13 g6 sR_13 dX6_addTask_46 (fun H locs I => ?_)
      obtain ⟨N7, eN7⟩ : ∃ z : xM, z = xu N5 13 ((N5 0 4)).toNatClampNeg (-6) := ⟨_, rfl⟩
      have h := h N7 eN7
      rw [← eN7] at I
      refine lv_aload_n (pc := 47) hx hb dX6_addTask_47 rfl (lv_at hl 0 rfl) ?_
      refine x_get (pc := 48) C I wR_0 rfl inlX6 (k := 21) q_5_4 (by decide) rfl rfl dX6_addTask_48 ?_
      refine lv_aload_n (pc := 51) hx hb dX6_addTask_51 rfl (lv_at hl 0 rfl) ?_
      refine x_get (pc := 52) C I wR_0 rfl inlX6 (k := 4) q_9_5 (by decide) rfl rfl dX6_addTask_52 ?_
      refine lv_bipush (pc := 55) (v := (-6)) hx hb dX6_addTask_55 (by decide) ?_
      obtain ⟨g8, h⟩ := h
      refine x_ast (pc := 57) C I wR_14 g8 sR_14 dX6_addTask_57 (fun H locs I => ?_)
      obtain ⟨N9, eN9⟩ : ∃ z : xM, z = xu N7 14 ((N7 0 4)).toNatClampNeg (-6) := ⟨_, rfl⟩
      have h := h N9 eN9
      rw [← eN9] at I
      refine lv_aload_n (pc := 58) hx hb dX6_addTask_58 rfl (lv_at hl 0 rfl) ?_
      refine lv_dup (pc := 59) hx hb dX6_addTask_59 rfl ?_
      refine x_get (pc := 60) C I wR_0 rfl inlX6 (k := 4) q_9_5 (by decide) rfl rfl dX6_addTask_60 ?_
      refine lv_iconst (pc := 63) (v := 1) hx hb dX6_addTask_63 (by decide) ?_
      refine lv_iadd (pc := 64) hx hb dX6_addTask_64 ?_
      refine x_puti (pc := 65) C I wR_0 rfl inlX6 tyX6_ok nmX6 (k := 4) q_9_5 (by decide) rfl rfl rfl (Nat.le_of_ble_eq_true rfl) sR_0_4 dX6_addTask_65 (fun H locs I => ?_)
      obtain ⟨N10, eN10⟩ : ∃ z : xM, z = xu N9 0 4 ((N9 0 4) + 1) := ⟨_, rfl⟩
      have h := h N10 eN10
      rw [← eN10] at I
      refine lv_aload_n (pc := 68) hx hb dX6_addTask_68 rfl (lv_at hl 0 rfl) ?_
      refine x_get (pc := 69) C I wR_0 rfl inlX6 (k := 4) q_9_5 (by decide) rfl rfl dX6_addTask_69 ?_
      refine lv_iconst (pc := 72) (v := 1) hx hb dX6_addTask_72 (by decide) ?_
      refine lv_isub (pc := 73) hx hb dX6_addTask_73 ?_
      exact x_ireti (pc := 74) C I hr hlocks h dX6_addTask_74
    · have h := h.1 g3
      refine lv_bipush (pc := 23) (v := (-5)) hx hb dX6_addTask_23 (by decide) ?_
      exact x_ireti (pc := 25) C I hr hlocks h dX6_addTask_25
  · have h := h.1 g2
    refine lv_bipush (pc := 11) (v := (-4)) hx hb dX6_addTask_11 (by decide) ?_
    exact x_ireti (pc := 13) C I hr hlocks h dX6_addTask_13
def V_X6_setPolicy (N : xM) (x1 : Int32) (post : Int32 → xM → Prop) : Prop := (V_X6_within x1 0 2 (fun r1 => ((r1 = 0 → post (-4) N) ∧ (¬ r1 = 0 → (∀ y3 : Int32, y3 = (N 0 6) → (∀ N4 : xM, N4 = xu N 0 6 x1 → post y3 N4))))))
set_option maxHeartbeats 4000000 in
set_option maxRecDepth 100000 in
theorem m_X6_setPolicy {l : Launch} {D : va_G} {cI cZ : ClassId} {r : Nat → Nat} {N : xM} {x1 : Int32} {post : Int32 → xM → Prop} (h : V_X6_setPolicy N x1 post) : xMi l yX6_setPolicy cX6_setPolicy 3 (some .int) { frames := 1, cells := 0, slots := 0, locals := 22 } D cI cZ (wR cI cZ r) N [.ref (r 0), .int x1] post := by
  refine x_bodyi (own := RX6) (by decide) rfl (Nat.le_of_ble_eq_true rfl) ?_
  intro p e s m below meth c A ls C hr hlocks hA I hl
  have hx := C.1.1
  have hb := C.1.2.1
  have hl : lv_has ls 3 [(0, .ref (r 0)), (1, .int x1)] := hl
  unfold V_X6_setPolicy at h
  refine lv_iload_n (pc := 0) hx hb dX6_setPolicy_0 rfl (lv_at hl 1 rfl) ?_
  refine lv_iconst (pc := 1) (v := 0) hx hb dX6_setPolicy_1 (by decide) ?_
  refine lv_iconst (pc := 2) (v := 2) hx hb dX6_setPolicy_2 (by decide) ?_
  refine x_calls (pc := 3) C I hA (m_X6_within h) c_RX6_84 ⟨Nat.le_of_ble_eq_true rfl, Nat.le_of_ble_eq_true rfl⟩ ⟨rfl, rfl⟩ ⟨Nat.le_of_ble_eq_true rfl, Nat.le_of_ble_eq_true rfl⟩ (As := [.int x1, .int 0, .int 2]) rfl hl.1 rfl (Nat.le_of_ble_eq_true rfl) dX6_setPolicy_3 (fun r1 u2 H locs h I => ?_)
  obtain ⟨e9, h⟩ := h
  rw [e9] at I
  refine lv_if_ne (pc := 6) (tgt := 12) hx hb dX6_setPolicy_6 (by decide) (fun g2 => ?_) (fun g2 => ?_)
  · have h := h.2 g2
    refine lv_aload_n (pc := 12) hx hb dX6_setPolicy_12 rfl (lv_at hl 0 rfl) ?_
    refine x_get (pc := 13) C I wR_0 rfl inlX6 (k := 6) q_5_9 (by decide) rfl rfl dX6_setPolicy_13 ?_
    refine lv_topi (fun y3 ey3 => ?_)
    have h := h y3 ey3
    refine lv_istore_n (pc := 16) (lv' := [(2, .int y3), (0, .ref (r 0)), (1, .int x1)]) hx hb dX6_setPolicy_16 rfl hl (by decide) rfl (fun ls hl => ?_)
    refine lv_aload_n (pc := 17) hx hb dX6_setPolicy_17 rfl (lv_at hl 1 rfl) ?_
    refine lv_iload_n (pc := 18) hx hb dX6_setPolicy_18 rfl (lv_at hl 2 rfl) ?_
    refine x_puti (pc := 19) C I wR_0 rfl inlX6 tyX6_ok nmX6 (k := 6) q_5_9 (by decide) rfl rfl rfl (Nat.le_of_ble_eq_true rfl) sR_0_6 dX6_setPolicy_19 (fun H locs I => ?_)
    obtain ⟨N4, eN4⟩ : ∃ z : xM, z = xu N 0 6 x1 := ⟨_, rfl⟩
    have h := h N4 eN4
    rw [← eN4] at I
    refine lv_iload_n (pc := 22) hx hb dX6_setPolicy_22 rfl (lv_at hl 0 rfl) ?_
    exact x_ireti (pc := 23) C I hr hlocks h dX6_setPolicy_23
  · have h := h.1 g2
    refine lv_bipush (pc := 9) (v := (-4)) hx hb dX6_setPolicy_9 (by decide) ?_
    exact x_ireti (pc := 11) C I hr hlocks h dX6_setPolicy_11
def V_X6_setLimits (N : xM) (x1 x2 : Int32) (post : Int32 → xM → Prop) : Prop := (V_X6_within x1 0 32 (fun r1 => ((r1 = 0 → post (-4) N) ∧ (¬ r1 = 0 → (V_X6_within x2 0 100 (fun r3 => ((r3 = 0 → post (-4) N) ∧ (¬ r3 = 0 → (((N 0 7) = x1 → (((N 0 8) = x2 → (∀ N11 : xM, N11 = xu N 0 7 x1 → (∀ N12 : xM, N12 = xu N11 0 8 x2 → post 0 N12))) ∧ (¬ (N 0 8) = x2 → (∀ N9 : xM, N9 = xu N 0 7 x1 → (∀ N10 : xM, N10 = xu N9 0 8 x2 → post 1 N10))))) ∧ (¬ (N 0 7) = x1 → (∀ N6 : xM, N6 = xu N 0 7 x1 → (∀ N7 : xM, N7 = xu N6 0 8 x2 → post 1 N7))))))))))))
set_option maxHeartbeats 4000000 in
set_option maxRecDepth 100000 in
theorem m_X6_setLimits {l : Launch} {D : va_G} {cI cZ : ClassId} {r : Nat → Nat} {N : xM} {x1 x2 : Int32} {post : Int32 → xM → Prop} (h : V_X6_setLimits N x1 x2 post) : xMi l yX6_setLimits cX6_setLimits 4 (some .int) { frames := 1, cells := 0, slots := 0, locals := 22 } D cI cZ (wR cI cZ r) N [.ref (r 0), .int x1, .int x2] post := by
  refine x_bodyi (own := RX6) (by decide) rfl (Nat.le_of_ble_eq_true rfl) ?_
  intro p e s m below meth c A ls C hr hlocks hA I hl
  have hx := C.1.1
  have hb := C.1.2.1
  have hl : lv_has ls 4 [(0, .ref (r 0)), (1, .int x1), (2, .int x2)] := hl
  unfold V_X6_setLimits at h
  refine lv_iload_n (pc := 0) hx hb dX6_setLimits_0 rfl (lv_at hl 1 rfl) ?_
  refine lv_iconst (pc := 1) (v := 0) hx hb dX6_setLimits_1 (by decide) ?_
  refine lv_bipush (pc := 2) (v := 32) hx hb dX6_setLimits_2 (by decide) ?_
  refine x_calls (pc := 4) C I hA (m_X6_within h) c_RX6_84 ⟨Nat.le_of_ble_eq_true rfl, Nat.le_of_ble_eq_true rfl⟩ ⟨rfl, rfl⟩ ⟨Nat.le_of_ble_eq_true rfl, Nat.le_of_ble_eq_true rfl⟩ (As := [.int x1, .int 0, .int 32]) rfl hl.1 rfl (Nat.le_of_ble_eq_true rfl) dX6_setLimits_4 (fun r1 u2 H locs h I => ?_)
  obtain ⟨e9, h⟩ := h
  rw [e9] at I
  refine lv_if_eq (pc := 7) (tgt := 20) hx hb dX6_setLimits_7 (by decide) (fun g2 => ?_) (fun g2 => ?_)
  · have h := h.1 g2
    refine lv_bipush (pc := 20) (v := (-4)) hx hb dX6_setLimits_20 (by decide) ?_
    exact x_ireti (pc := 22) C I hr hlocks h dX6_setLimits_22
  · have h := h.2 g2
    refine lv_iload_n (pc := 10) hx hb dX6_setLimits_10 rfl (lv_at hl 2 rfl) ?_
    refine lv_iconst (pc := 11) (v := 0) hx hb dX6_setLimits_11 (by decide) ?_
    refine lv_bipush (pc := 12) (v := 100) hx hb dX6_setLimits_12 (by decide) ?_
    refine x_calls (pc := 14) C I hA (m_X6_within h) c_RX6_84 ⟨Nat.le_of_ble_eq_true rfl, Nat.le_of_ble_eq_true rfl⟩ ⟨rfl, rfl⟩ ⟨Nat.le_of_ble_eq_true rfl, Nat.le_of_ble_eq_true rfl⟩ (As := [.int x2, .int 0, .int 100]) rfl hl.1 rfl (Nat.le_of_ble_eq_true rfl) dX6_setLimits_14 (fun r3 u2 H locs h I => ?_)
    obtain ⟨e9, h⟩ := h
    rw [e9] at I
    refine lv_if_ne (pc := 17) (tgt := 23) hx hb dX6_setLimits_17 (by decide) (fun g4 => ?_) (fun g4 => ?_)
    · have h := h.2 g4
      refine lv_aload_n (pc := 23) hx hb dX6_setLimits_23 rfl (lv_at hl 0 rfl) ?_
      refine x_get (pc := 24) C I wR_0 rfl inlX6 (k := 7) q_4_15 (by decide) rfl rfl dX6_setLimits_24 ?_
      refine lv_iload_n (pc := 27) hx hb dX6_setLimits_27 rfl (lv_at hl 1 rfl) ?_
      refine lv_icmp_ne (pc := 28) (tgt := 43) hx hb dX6_setLimits_28 (by decide) (fun g5 => ?_) (fun g5 => ?_)
      · have h := h.2 g5
        refine lv_iconst (pc := 43) (v := 0) hx hb dX6_setLimits_43 (by decide) ?_
        refine lv_istore_n (pc := 44) (lv' := [(3, .int 0), (0, .ref (r 0)), (1, .int x1), (2, .int x2)]) hx hb dX6_setLimits_44 rfl hl (by decide) rfl (fun ls hl => ?_)
        refine lv_aload_n (pc := 45) hx hb dX6_setLimits_45 rfl (lv_at hl 1 rfl) ?_
        refine lv_iload_n (pc := 46) hx hb dX6_setLimits_46 rfl (lv_at hl 2 rfl) ?_
        refine x_puti (pc := 47) C I wR_0 rfl inlX6 tyX6_ok nmX6 (k := 7) q_4_15 (by decide) rfl rfl rfl (Nat.le_of_ble_eq_true rfl) sR_0_7 dX6_setLimits_47 (fun H locs I => ?_)
        obtain ⟨N6, eN6⟩ : ∃ z : xM, z = xu N 0 7 x1 := ⟨_, rfl⟩
        have h := h N6 eN6
        rw [← eN6] at I
        refine lv_aload_n (pc := 50) hx hb dX6_setLimits_50 rfl (lv_at hl 1 rfl) ?_
        refine lv_iload_n (pc := 51) hx hb dX6_setLimits_51 rfl (lv_at hl 3 rfl) ?_
        refine x_puti (pc := 52) C I wR_0 rfl inlX6 tyX6_ok nmX6 (k := 8) q_4_16 (by decide) rfl rfl rfl (Nat.le_of_ble_eq_true rfl) sR_0_8 dX6_setLimits_52 (fun H locs I => ?_)
        obtain ⟨N7, eN7⟩ : ∃ z : xM, z = xu N6 0 8 x2 := ⟨_, rfl⟩
        have h := h N7 eN7
        rw [← eN7] at I
        refine lv_iload_n (pc := 55) hx hb dX6_setLimits_55 rfl (lv_at hl 0 rfl) ?_
        refine lv_if_eq (pc := 56) (tgt := 63) hx hb dX6_setLimits_56 (by decide) (fun _ => ?_) (fun g => absurd g (by decide))
        refine lv_iconst (pc := 63) (v := 1) hx hb dX6_setLimits_63 (by decide) ?_
        exact x_ireti (pc := 64) C I hr hlocks h dX6_setLimits_64
      · have h := h.1 g5
        refine lv_aload_n (pc := 31) hx hb dX6_setLimits_31 rfl (lv_at hl 0 rfl) ?_
        refine x_get (pc := 32) C I wR_0 rfl inlX6 (k := 8) q_4_16 (by decide) rfl rfl dX6_setLimits_32 ?_
        refine lv_iload_n (pc := 35) hx hb dX6_setLimits_35 rfl (lv_at hl 2 rfl) ?_
        refine lv_icmp_ne (pc := 36) (tgt := 43) hx hb dX6_setLimits_36 (by decide) (fun g8 => ?_) (fun g8 => ?_)
        · have h := h.2 g8
          refine lv_iconst (pc := 43) (v := 0) hx hb dX6_setLimits_43 (by decide) ?_
          refine lv_istore_n (pc := 44) (lv' := [(3, .int 0), (0, .ref (r 0)), (1, .int x1), (2, .int x2)]) hx hb dX6_setLimits_44 rfl hl (by decide) rfl (fun ls hl => ?_)
          refine lv_aload_n (pc := 45) hx hb dX6_setLimits_45 rfl (lv_at hl 1 rfl) ?_
          refine lv_iload_n (pc := 46) hx hb dX6_setLimits_46 rfl (lv_at hl 2 rfl) ?_
          refine x_puti (pc := 47) C I wR_0 rfl inlX6 tyX6_ok nmX6 (k := 7) q_4_15 (by decide) rfl rfl rfl (Nat.le_of_ble_eq_true rfl) sR_0_7 dX6_setLimits_47 (fun H locs I => ?_)
          obtain ⟨N9, eN9⟩ : ∃ z : xM, z = xu N 0 7 x1 := ⟨_, rfl⟩
          have h := h N9 eN9
          rw [← eN9] at I
          refine lv_aload_n (pc := 50) hx hb dX6_setLimits_50 rfl (lv_at hl 1 rfl) ?_
          refine lv_iload_n (pc := 51) hx hb dX6_setLimits_51 rfl (lv_at hl 3 rfl) ?_
          refine x_puti (pc := 52) C I wR_0 rfl inlX6 tyX6_ok nmX6 (k := 8) q_4_16 (by decide) rfl rfl rfl (Nat.le_of_ble_eq_true rfl) sR_0_8 dX6_setLimits_52 (fun H locs I => ?_)
          obtain ⟨N10, eN10⟩ : ∃ z : xM, z = xu N9 0 8 x2 := ⟨_, rfl⟩
          have h := h N10 eN10
          rw [← eN10] at I
          refine lv_iload_n (pc := 55) hx hb dX6_setLimits_55 rfl (lv_at hl 0 rfl) ?_
          refine lv_if_eq (pc := 56) (tgt := 63) hx hb dX6_setLimits_56 (by decide) (fun _ => ?_) (fun g => absurd g (by decide))
          refine lv_iconst (pc := 63) (v := 1) hx hb dX6_setLimits_63 (by decide) ?_
          exact x_ireti (pc := 64) C I hr hlocks h dX6_setLimits_64
        · have h := h.1 g8
          refine lv_iconst (pc := 39) (v := 1) hx hb dX6_setLimits_39 (by decide) ?_
          refine lv_goto (pc := 40) (tgt := 44) hx hb dX6_setLimits_40 (by decide) ?_
          refine lv_istore_n (pc := 44) (lv' := [(3, .int 1), (0, .ref (r 0)), (1, .int x1), (2, .int x2)]) hx hb dX6_setLimits_44 rfl hl (by decide) rfl (fun ls hl => ?_)
          refine lv_aload_n (pc := 45) hx hb dX6_setLimits_45 rfl (lv_at hl 1 rfl) ?_
          refine lv_iload_n (pc := 46) hx hb dX6_setLimits_46 rfl (lv_at hl 2 rfl) ?_
          refine x_puti (pc := 47) C I wR_0 rfl inlX6 tyX6_ok nmX6 (k := 7) q_4_15 (by decide) rfl rfl rfl (Nat.le_of_ble_eq_true rfl) sR_0_7 dX6_setLimits_47 (fun H locs I => ?_)
          obtain ⟨N11, eN11⟩ : ∃ z : xM, z = xu N 0 7 x1 := ⟨_, rfl⟩
          have h := h N11 eN11
          rw [← eN11] at I
          refine lv_aload_n (pc := 50) hx hb dX6_setLimits_50 rfl (lv_at hl 1 rfl) ?_
          refine lv_iload_n (pc := 51) hx hb dX6_setLimits_51 rfl (lv_at hl 3 rfl) ?_
          refine x_puti (pc := 52) C I wR_0 rfl inlX6 tyX6_ok nmX6 (k := 8) q_4_16 (by decide) rfl rfl rfl (Nat.le_of_ble_eq_true rfl) sR_0_8 dX6_setLimits_52 (fun H locs I => ?_)
          obtain ⟨N12, eN12⟩ : ∃ z : xM, z = xu N11 0 8 x2 := ⟨_, rfl⟩
          have h := h N12 eN12
          rw [← eN12] at I
          refine lv_iload_n (pc := 55) hx hb dX6_setLimits_55 rfl (lv_at hl 0 rfl) ?_
          refine lv_if_eq (pc := 56) (tgt := 63) hx hb dX6_setLimits_56 (by decide) (fun g => absurd g (by decide)) (fun _ => ?_)
          refine lv_iconst (pc := 59) (v := 0) hx hb dX6_setLimits_59 (by decide) ?_
          refine lv_goto (pc := 60) (tgt := 64) hx hb dX6_setLimits_60 (by decide) ?_
          exact x_ireti (pc := 64) C I hr hlocks h dX6_setLimits_64
    · have h := h.1 g4
      refine lv_bipush (pc := 20) (v := (-4)) hx hb dX6_setLimits_20 (by decide) ?_
      exact x_ireti (pc := 22) C I hr hlocks h dX6_setLimits_22
def V_X6_setThresholds (N : xM) (x1 x2 : Int32) (post : Int32 → xM → Prop) : Prop := (V_X6_within x1 1 200 (fun r1 => ((r1 = 0 → post (-4) N) ∧ (¬ r1 = 0 → (V_X6_within x2 1 200 (fun r3 => ((r3 = 0 → post (-4) N) ∧ (¬ r3 = 0 → (((N 0 9) = x1 → (((N 0 10) = x2 → (∀ N11 : xM, N11 = xu N 0 9 x1 → (∀ N12 : xM, N12 = xu N11 0 10 x2 → post 0 N12))) ∧ (¬ (N 0 10) = x2 → (∀ N9 : xM, N9 = xu N 0 9 x1 → (∀ N10 : xM, N10 = xu N9 0 10 x2 → post 1 N10))))) ∧ (¬ (N 0 9) = x1 → (∀ N6 : xM, N6 = xu N 0 9 x1 → (∀ N7 : xM, N7 = xu N6 0 10 x2 → post 1 N7))))))))))))
set_option maxHeartbeats 4000000 in
set_option maxRecDepth 100000 in
theorem m_X6_setThresholds {l : Launch} {D : va_G} {cI cZ : ClassId} {r : Nat → Nat} {N : xM} {x1 x2 : Int32} {post : Int32 → xM → Prop} (h : V_X6_setThresholds N x1 x2 post) : xMi l yX6_setThresholds cX6_setThresholds 4 (some .int) { frames := 1, cells := 0, slots := 0, locals := 22 } D cI cZ (wR cI cZ r) N [.ref (r 0), .int x1, .int x2] post := by
  refine x_bodyi (own := RX6) (by decide) rfl (Nat.le_of_ble_eq_true rfl) ?_
  intro p e s m below meth c A ls C hr hlocks hA I hl
  have hx := C.1.1
  have hb := C.1.2.1
  have hl : lv_has ls 4 [(0, .ref (r 0)), (1, .int x1), (2, .int x2)] := hl
  unfold V_X6_setThresholds at h
  refine lv_iload_n (pc := 0) hx hb dX6_setThresholds_0 rfl (lv_at hl 1 rfl) ?_
  refine lv_iconst (pc := 1) (v := 1) hx hb dX6_setThresholds_1 (by decide) ?_
  refine lv_sipush (pc := 2) (v := 200) hx hb dX6_setThresholds_2 (by decide) ?_
  refine x_calls (pc := 5) C I hA (m_X6_within h) c_RX6_84 ⟨Nat.le_of_ble_eq_true rfl, Nat.le_of_ble_eq_true rfl⟩ ⟨rfl, rfl⟩ ⟨Nat.le_of_ble_eq_true rfl, Nat.le_of_ble_eq_true rfl⟩ (As := [.int x1, .int 1, .int 200]) rfl hl.1 rfl (Nat.le_of_ble_eq_true rfl) dX6_setThresholds_5 (fun r1 u2 H locs h I => ?_)
  obtain ⟨e9, h⟩ := h
  rw [e9] at I
  refine lv_if_eq (pc := 8) (tgt := 22) hx hb dX6_setThresholds_8 (by decide) (fun g2 => ?_) (fun g2 => ?_)
  · have h := h.1 g2
    refine lv_bipush (pc := 22) (v := (-4)) hx hb dX6_setThresholds_22 (by decide) ?_
    exact x_ireti (pc := 24) C I hr hlocks h dX6_setThresholds_24
  · have h := h.2 g2
    refine lv_iload_n (pc := 11) hx hb dX6_setThresholds_11 rfl (lv_at hl 2 rfl) ?_
    refine lv_iconst (pc := 12) (v := 1) hx hb dX6_setThresholds_12 (by decide) ?_
    refine lv_sipush (pc := 13) (v := 200) hx hb dX6_setThresholds_13 (by decide) ?_
    refine x_calls (pc := 16) C I hA (m_X6_within h) c_RX6_84 ⟨Nat.le_of_ble_eq_true rfl, Nat.le_of_ble_eq_true rfl⟩ ⟨rfl, rfl⟩ ⟨Nat.le_of_ble_eq_true rfl, Nat.le_of_ble_eq_true rfl⟩ (As := [.int x2, .int 1, .int 200]) rfl hl.1 rfl (Nat.le_of_ble_eq_true rfl) dX6_setThresholds_16 (fun r3 u2 H locs h I => ?_)
    obtain ⟨e9, h⟩ := h
    rw [e9] at I
    refine lv_if_ne (pc := 19) (tgt := 25) hx hb dX6_setThresholds_19 (by decide) (fun g4 => ?_) (fun g4 => ?_)
    · have h := h.2 g4
      refine lv_aload_n (pc := 25) hx hb dX6_setThresholds_25 rfl (lv_at hl 0 rfl) ?_
      refine x_get (pc := 26) C I wR_0 rfl inlX6 (k := 9) q_4_17 (by decide) rfl rfl dX6_setThresholds_26 ?_
      refine lv_iload_n (pc := 29) hx hb dX6_setThresholds_29 rfl (lv_at hl 1 rfl) ?_
      refine lv_icmp_ne (pc := 30) (tgt := 45) hx hb dX6_setThresholds_30 (by decide) (fun g5 => ?_) (fun g5 => ?_)
      · have h := h.2 g5
        refine lv_iconst (pc := 45) (v := 0) hx hb dX6_setThresholds_45 (by decide) ?_
        refine lv_istore_n (pc := 46) (lv' := [(3, .int 0), (0, .ref (r 0)), (1, .int x1), (2, .int x2)]) hx hb dX6_setThresholds_46 rfl hl (by decide) rfl (fun ls hl => ?_)
        refine lv_aload_n (pc := 47) hx hb dX6_setThresholds_47 rfl (lv_at hl 1 rfl) ?_
        refine lv_iload_n (pc := 48) hx hb dX6_setThresholds_48 rfl (lv_at hl 2 rfl) ?_
        refine x_puti (pc := 49) C I wR_0 rfl inlX6 tyX6_ok nmX6 (k := 9) q_4_17 (by decide) rfl rfl rfl (Nat.le_of_ble_eq_true rfl) sR_0_9 dX6_setThresholds_49 (fun H locs I => ?_)
        obtain ⟨N6, eN6⟩ : ∃ z : xM, z = xu N 0 9 x1 := ⟨_, rfl⟩
        have h := h N6 eN6
        rw [← eN6] at I
        refine lv_aload_n (pc := 52) hx hb dX6_setThresholds_52 rfl (lv_at hl 1 rfl) ?_
        refine lv_iload_n (pc := 53) hx hb dX6_setThresholds_53 rfl (lv_at hl 3 rfl) ?_
        refine x_puti (pc := 54) C I wR_0 rfl inlX6 tyX6_ok nmX6 (k := 10) q_4_18 (by decide) rfl rfl rfl (Nat.le_of_ble_eq_true rfl) sR_0_10 dX6_setThresholds_54 (fun H locs I => ?_)
        obtain ⟨N7, eN7⟩ : ∃ z : xM, z = xu N6 0 10 x2 := ⟨_, rfl⟩
        have h := h N7 eN7
        rw [← eN7] at I
        refine lv_iload_n (pc := 57) hx hb dX6_setThresholds_57 rfl (lv_at hl 0 rfl) ?_
        refine lv_if_eq (pc := 58) (tgt := 65) hx hb dX6_setThresholds_58 (by decide) (fun _ => ?_) (fun g => absurd g (by decide))
        refine lv_iconst (pc := 65) (v := 1) hx hb dX6_setThresholds_65 (by decide) ?_
        exact x_ireti (pc := 66) C I hr hlocks h dX6_setThresholds_66
      · have h := h.1 g5
        refine lv_aload_n (pc := 33) hx hb dX6_setThresholds_33 rfl (lv_at hl 0 rfl) ?_
        refine x_get (pc := 34) C I wR_0 rfl inlX6 (k := 10) q_4_18 (by decide) rfl rfl dX6_setThresholds_34 ?_
        refine lv_iload_n (pc := 37) hx hb dX6_setThresholds_37 rfl (lv_at hl 2 rfl) ?_
        refine lv_icmp_ne (pc := 38) (tgt := 45) hx hb dX6_setThresholds_38 (by decide) (fun g8 => ?_) (fun g8 => ?_)
        · have h := h.2 g8
          refine lv_iconst (pc := 45) (v := 0) hx hb dX6_setThresholds_45 (by decide) ?_
          refine lv_istore_n (pc := 46) (lv' := [(3, .int 0), (0, .ref (r 0)), (1, .int x1), (2, .int x2)]) hx hb dX6_setThresholds_46 rfl hl (by decide) rfl (fun ls hl => ?_)
          refine lv_aload_n (pc := 47) hx hb dX6_setThresholds_47 rfl (lv_at hl 1 rfl) ?_
          refine lv_iload_n (pc := 48) hx hb dX6_setThresholds_48 rfl (lv_at hl 2 rfl) ?_
          refine x_puti (pc := 49) C I wR_0 rfl inlX6 tyX6_ok nmX6 (k := 9) q_4_17 (by decide) rfl rfl rfl (Nat.le_of_ble_eq_true rfl) sR_0_9 dX6_setThresholds_49 (fun H locs I => ?_)
          obtain ⟨N9, eN9⟩ : ∃ z : xM, z = xu N 0 9 x1 := ⟨_, rfl⟩
          have h := h N9 eN9
          rw [← eN9] at I
          refine lv_aload_n (pc := 52) hx hb dX6_setThresholds_52 rfl (lv_at hl 1 rfl) ?_
          refine lv_iload_n (pc := 53) hx hb dX6_setThresholds_53 rfl (lv_at hl 3 rfl) ?_
          refine x_puti (pc := 54) C I wR_0 rfl inlX6 tyX6_ok nmX6 (k := 10) q_4_18 (by decide) rfl rfl rfl (Nat.le_of_ble_eq_true rfl) sR_0_10 dX6_setThresholds_54 (fun H locs I => ?_)
          obtain ⟨N10, eN10⟩ : ∃ z : xM, z = xu N9 0 10 x2 := ⟨_, rfl⟩
          have h := h N10 eN10
          rw [← eN10] at I
          refine lv_iload_n (pc := 57) hx hb dX6_setThresholds_57 rfl (lv_at hl 0 rfl) ?_
          refine lv_if_eq (pc := 58) (tgt := 65) hx hb dX6_setThresholds_58 (by decide) (fun _ => ?_) (fun g => absurd g (by decide))
          refine lv_iconst (pc := 65) (v := 1) hx hb dX6_setThresholds_65 (by decide) ?_
          exact x_ireti (pc := 66) C I hr hlocks h dX6_setThresholds_66
        · have h := h.1 g8
          refine lv_iconst (pc := 41) (v := 1) hx hb dX6_setThresholds_41 (by decide) ?_
          refine lv_goto (pc := 42) (tgt := 46) hx hb dX6_setThresholds_42 (by decide) ?_
          refine lv_istore_n (pc := 46) (lv' := [(3, .int 1), (0, .ref (r 0)), (1, .int x1), (2, .int x2)]) hx hb dX6_setThresholds_46 rfl hl (by decide) rfl (fun ls hl => ?_)
          refine lv_aload_n (pc := 47) hx hb dX6_setThresholds_47 rfl (lv_at hl 1 rfl) ?_
          refine lv_iload_n (pc := 48) hx hb dX6_setThresholds_48 rfl (lv_at hl 2 rfl) ?_
          refine x_puti (pc := 49) C I wR_0 rfl inlX6 tyX6_ok nmX6 (k := 9) q_4_17 (by decide) rfl rfl rfl (Nat.le_of_ble_eq_true rfl) sR_0_9 dX6_setThresholds_49 (fun H locs I => ?_)
          obtain ⟨N11, eN11⟩ : ∃ z : xM, z = xu N 0 9 x1 := ⟨_, rfl⟩
          have h := h N11 eN11
          rw [← eN11] at I
          refine lv_aload_n (pc := 52) hx hb dX6_setThresholds_52 rfl (lv_at hl 1 rfl) ?_
          refine lv_iload_n (pc := 53) hx hb dX6_setThresholds_53 rfl (lv_at hl 3 rfl) ?_
          refine x_puti (pc := 54) C I wR_0 rfl inlX6 tyX6_ok nmX6 (k := 10) q_4_18 (by decide) rfl rfl rfl (Nat.le_of_ble_eq_true rfl) sR_0_10 dX6_setThresholds_54 (fun H locs I => ?_)
          obtain ⟨N12, eN12⟩ : ∃ z : xM, z = xu N11 0 10 x2 := ⟨_, rfl⟩
          have h := h N12 eN12
          rw [← eN12] at I
          refine lv_iload_n (pc := 57) hx hb dX6_setThresholds_57 rfl (lv_at hl 0 rfl) ?_
          refine lv_if_eq (pc := 58) (tgt := 65) hx hb dX6_setThresholds_58 (by decide) (fun g => absurd g (by decide)) (fun _ => ?_)
          refine lv_iconst (pc := 61) (v := 0) hx hb dX6_setThresholds_61 (by decide) ?_
          refine lv_goto (pc := 62) (tgt := 66) hx hb dX6_setThresholds_62 (by decide) ?_
          exact x_ireti (pc := 66) C I hr hlocks h dX6_setThresholds_66
    · have h := h.1 g4
      refine lv_bipush (pc := 22) (v := (-4)) hx hb dX6_setThresholds_22 (by decide) ?_
      exact x_ireti (pc := 24) C I hr hlocks h dX6_setThresholds_24
def V_X6_progressOf (N : xM) (x1 : Int32) (post : Int32 → xM → Prop) : Prop := (vp_in x1 400 ∧ (vp_in x1 400 ∧ (vp_in (N 7 (x1).toNatClampNeg) 24 ∧ (¬ (N 4 ((N 7 (x1).toNatClampNeg)).toNatClampNeg) = 0 ∧ (∀ y5 : Int32, y5 = (((N 10 (x1).toNatClampNeg) * 1000) / (N 4 ((N 7 (x1).toNatClampNeg)).toNatClampNeg)) → ((y5 ≤ 1000 → post y5 N) ∧ (¬ y5 ≤ 1000 → post 1000 N)))))))
set_option maxHeartbeats 4000000 in
set_option maxRecDepth 100000 in
theorem m_X6_progressOf {l : Launch} {D : va_G} {cI cZ : ClassId} {r : Nat → Nat} {N : xM} {x1 : Int32} {post : Int32 → xM → Prop} (h : V_X6_progressOf N x1 post) : xMi l yX6_progressOf cX6_progressOf 3 (some .int) { frames := 0, cells := 0, slots := 0, locals := 0 } D cI cZ (wR cI cZ r) N [.ref (r 0), .int x1] post := by
  refine x_bodyi (own := RX6) (by decide) rfl (Nat.le_of_ble_eq_true rfl) ?_
  intro p e s m below meth c A ls C hr hlocks hA I hl
  have hx := C.1.1
  have hb := C.1.2.1
  have hl : lv_has ls 3 [(0, .ref (r 0)), (1, .int x1)] := hl
  unfold V_X6_progressOf at h
  refine lv_aload_n (pc := 0) hx hb dX6_progressOf_0 rfl (lv_at hl 0 rfl) ?_
  refine x_get (pc := 1) C I wR_0 rfl inlX6 (k := 17) q_5_0 (by decide) rfl rfl dX6_progressOf_1 ?_
  refine lv_iload_n (pc := 4) hx hb dX6_progressOf_4 rfl (lv_at hl 1 rfl) ?_
  obtain ⟨g1, h⟩ := h
  refine x_ald (pc := 5) C I wR_10 g1 dX6_progressOf_5 ?_
  refine lv_sipush (pc := 6) (v := 1000) hx hb dX6_progressOf_6 (by decide) ?_
  refine lv_imul (pc := 9) hx hb dX6_progressOf_9 ?_
  refine lv_aload_n (pc := 10) hx hb dX6_progressOf_10 rfl (lv_at hl 0 rfl) ?_
  refine x_get (pc := 11) C I wR_0 rfl inlX6 (k := 5) q_4_14 (by decide) rfl rfl dX6_progressOf_11 ?_
  refine lv_aload_n (pc := 14) hx hb dX6_progressOf_14 rfl (lv_at hl 0 rfl) ?_
  refine x_get (pc := 15) C I wR_0 rfl inlX6 (k := 14) q_4_21 (by decide) rfl rfl dX6_progressOf_15 ?_
  refine lv_iload_n (pc := 18) hx hb dX6_progressOf_18 rfl (lv_at hl 1 rfl) ?_
  obtain ⟨g2, h⟩ := h
  refine x_ald (pc := 19) C I wR_7 g2 dX6_progressOf_19 ?_
  obtain ⟨g3, h⟩ := h
  refine x_ald (pc := 20) C I wR_4 g3 dX6_progressOf_20 ?_
  obtain ⟨g4, h⟩ := h
  refine lv_idiv (pc := 21) hx hb dX6_progressOf_21 g4 ?_
  refine lv_topi (fun y5 ey5 => ?_)
  have h := h y5 ey5
  refine lv_istore_n (pc := 22) (lv' := [(2, .int y5), (0, .ref (r 0)), (1, .int x1)]) hx hb dX6_progressOf_22 rfl hl (by decide) rfl (fun ls hl => ?_)
  refine lv_iload_n (pc := 23) hx hb dX6_progressOf_23 rfl (lv_at hl 0 rfl) ?_
  refine lv_sipush (pc := 24) (v := 1000) hx hb dX6_progressOf_24 (by decide) ?_
  refine lv_icmp_le (pc := 27) (tgt := 36) hx hb dX6_progressOf_27 (by decide) (fun g6 => ?_) (fun g6 => ?_)
  · have h := h.1 g6
    refine lv_iload_n (pc := 36) hx hb dX6_progressOf_36 rfl (lv_at hl 0 rfl) ?_
    exact x_ireti (pc := 37) C I hr hlocks h dX6_progressOf_37
  · have h := h.2 g6
    refine lv_sipush (pc := 30) (v := 1000) hx hb dX6_progressOf_30 (by decide) ?_
    refine lv_goto (pc := 33) (tgt := 37) hx hb dX6_progressOf_33 (by decide) ?_
    exact x_ireti (pc := 37) C I hr hlocks h dX6_progressOf_37
def V_X6_rateOf (N : xM) (x1 : Int32) (post : Int32 → xM → Prop) : Prop := (vp_in x1 400 ∧ (((N 9 (x1).toNatClampNeg) = 0 → post 0 N) ∧ (¬ (N 9 (x1).toNatClampNeg) = 0 → (V_X6_progressOf N x1 (fun r4 N3 => (vp_in x1 400 ∧ (¬ (N3 9 (x1).toNatClampNeg) = 0 ∧ post (r4 / (N3 9 (x1).toNatClampNeg)) N3)))))))
set_option maxHeartbeats 4000000 in
set_option maxRecDepth 100000 in
theorem m_X6_rateOf {l : Launch} {D : va_G} {cI cZ : ClassId} {r : Nat → Nat} {N : xM} {x1 : Int32} {post : Int32 → xM → Prop} (h : V_X6_rateOf N x1 post) : xMi l yX6_rateOf cX6_rateOf 2 (some .int) { frames := 1, cells := 0, slots := 0, locals := 22 } D cI cZ (wR cI cZ r) N [.ref (r 0), .int x1] post := by
  refine x_bodyi (own := RX6) (by decide) rfl (Nat.le_of_ble_eq_true rfl) ?_
  intro p e s m below meth c A ls C hr hlocks hA I hl
  have hx := C.1.1
  have hb := C.1.2.1
  have hl : lv_has ls 2 [(0, .ref (r 0)), (1, .int x1)] := hl
  unfold V_X6_rateOf at h
  refine lv_aload_n (pc := 0) hx hb dX6_rateOf_0 rfl (lv_at hl 0 rfl) ?_
  refine x_get (pc := 1) C I wR_0 rfl inlX6 (k := 16) q_4_23 (by decide) rfl rfl dX6_rateOf_1 ?_
  refine lv_iload_n (pc := 4) hx hb dX6_rateOf_4 rfl (lv_at hl 1 rfl) ?_
  obtain ⟨g1, h⟩ := h
  refine x_ald (pc := 5) C I wR_9 g1 dX6_rateOf_5 ?_
  refine lv_if_ne (pc := 6) (tgt := 13) hx hb dX6_rateOf_6 (by decide) (fun g2 => ?_) (fun g2 => ?_)
  · have h := h.2 g2
    refine lv_aload_n (pc := 13) hx hb dX6_rateOf_13 rfl (lv_at hl 0 rfl) ?_
    refine lv_iload_n (pc := 14) hx hb dX6_rateOf_14 rfl (lv_at hl 1 rfl) ?_
    refine x_calli (pc := 15) C I hA (m_X6_progressOf h) c_RX6_102 wR_0 rfl ⟨Nat.le_of_ble_eq_true rfl, Nat.le_of_ble_eq_true rfl⟩ ⟨rfl, rfl⟩ ⟨Nat.le_of_ble_eq_true rfl, Nat.le_of_ble_eq_true rfl⟩ (As := [.int x1]) rfl hl.1 rfl (Nat.le_of_ble_eq_true rfl) dX6_rateOf_15 (fun r4 N3 H locs h I => ?_)
    refine lv_aload_n (pc := 18) hx hb dX6_rateOf_18 rfl (lv_at hl 0 rfl) ?_
    refine x_get (pc := 19) C I wR_0 rfl inlX6 (k := 16) q_4_23 (by decide) rfl rfl dX6_rateOf_19 ?_
    refine lv_iload_n (pc := 22) hx hb dX6_rateOf_22 rfl (lv_at hl 1 rfl) ?_
    obtain ⟨g5, h⟩ := h
    refine x_ald (pc := 23) C I wR_9 g5 dX6_rateOf_23 ?_
    obtain ⟨g6, h⟩ := h
    refine lv_idiv (pc := 24) hx hb dX6_rateOf_24 g6 ?_
    exact x_ireti (pc := 25) C I hr hlocks h dX6_rateOf_25
  · have h := h.1 g2
    refine lv_iconst (pc := 9) (v := 0) hx hb dX6_rateOf_9 (by decide) ?_
    refine lv_goto (pc := 10) (tgt := 25) hx hb dX6_rateOf_10 (by decide) ?_
    exact x_ireti (pc := 25) C I hr hlocks h dX6_rateOf_25
def V_X6_remainingOf (N : xM) (x1 : Int32) (post : Int32 → xM → Prop) : Prop := (V_X6_progressOf N x1 (fun r2 N1 => ((r2 = 0 → post 1000000 N1) ∧ (¬ r2 = 0 → (vp_in x1 400 ∧ (¬ (r2).toInt64 = 0 ∧ post (((((1000 - (r2).toInt64) * ((N1 9 (x1).toNatClampNeg)).toInt64) / (r2).toInt64)).toInt32) N1))))))
set_option maxHeartbeats 4000000 in
set_option maxRecDepth 100000 in
theorem m_X6_remainingOf {l : Launch} {D : va_G} {cI cZ : ClassId} {r : Nat → Nat} {N : xM} {x1 : Int32} {post : Int32 → xM → Prop} (h : V_X6_remainingOf N x1 post) : xMi l yX6_remainingOf cX6_remainingOf 3 (some .int) { frames := 1, cells := 0, slots := 0, locals := 22 } D cI cZ (wR cI cZ r) N [.ref (r 0), .int x1] post := by
  refine x_bodyi (own := RX6) (by decide) rfl (Nat.le_of_ble_eq_true rfl) ?_
  intro p e s m below meth c A ls C hr hlocks hA I hl
  have hx := C.1.1
  have hb := C.1.2.1
  have hl : lv_has ls 3 [(0, .ref (r 0)), (1, .int x1)] := hl
  unfold V_X6_remainingOf at h
  refine lv_aload_n (pc := 0) hx hb dX6_remainingOf_0 rfl (lv_at hl 0 rfl) ?_
  refine lv_iload_n (pc := 1) hx hb dX6_remainingOf_1 rfl (lv_at hl 1 rfl) ?_
  refine x_calli (pc := 2) C I hA (m_X6_progressOf h) c_RX6_102 wR_0 rfl ⟨Nat.le_of_ble_eq_true rfl, Nat.le_of_ble_eq_true rfl⟩ ⟨rfl, rfl⟩ ⟨Nat.le_of_ble_eq_true rfl, Nat.le_of_ble_eq_true rfl⟩ (As := [.int x1]) rfl hl.1 rfl (Nat.le_of_ble_eq_true rfl) dX6_remainingOf_2 (fun r2 N1 H locs h I => ?_)
  refine lv_istore_n (pc := 5) (lv' := [(2, .int r2), (0, .ref (r 0)), (1, .int x1)]) hx hb dX6_remainingOf_5 rfl hl (by decide) rfl (fun ls hl => ?_)
  refine lv_iload_n (pc := 6) hx hb dX6_remainingOf_6 rfl (lv_at hl 0 rfl) ?_
  refine lv_if_ne (pc := 7) (tgt := 15) hx hb dX6_remainingOf_7 (by decide) (fun g3 => ?_) (fun g3 => ?_)
  · have h := h.2 g3
    refine x_ldc2 (pc := 15) C q_18_10 dX6_remainingOf_15 ?_
    refine lv_iload_n (pc := 18) hx hb dX6_remainingOf_18 rfl (lv_at hl 0 rfl) ?_
    refine lv_i2l (pc := 19) hx hb dX6_remainingOf_19 rfl ?_
    refine lv_lsub (pc := 20) hx hb dX6_remainingOf_20 ?_
    refine lv_aload_n (pc := 21) hx hb dX6_remainingOf_21 rfl (lv_at hl 1 rfl) ?_
    refine x_get (pc := 22) C I wR_0 rfl inlX6 (k := 16) q_4_23 (by decide) rfl rfl dX6_remainingOf_22 ?_
    refine lv_iload_n (pc := 25) hx hb dX6_remainingOf_25 rfl (lv_at hl 2 rfl) ?_
    obtain ⟨g4, h⟩ := h
    refine x_ald (pc := 26) C I wR_9 g4 dX6_remainingOf_26 ?_
    refine lv_i2l (pc := 27) hx hb dX6_remainingOf_27 rfl ?_
    refine lv_lmul (pc := 28) hx hb dX6_remainingOf_28 ?_
    refine lv_iload_n (pc := 29) hx hb dX6_remainingOf_29 rfl (lv_at hl 0 rfl) ?_
    refine lv_i2l (pc := 30) hx hb dX6_remainingOf_30 rfl ?_
    obtain ⟨g5, h⟩ := h
    refine lv_ldiv (pc := 31) hx hb dX6_remainingOf_31 g5 ?_
    refine lv_l2i (pc := 32) hx hb dX6_remainingOf_32 rfl ?_
    exact x_ireti (pc := 33) C I hr hlocks h dX6_remainingOf_33
  · have h := h.1 g3
    refine x_ldc (pc := 10) C q_18_9 dX6_remainingOf_10 ?_
    refine lv_goto (pc := 12) (tgt := 33) hx hb dX6_remainingOf_12 (by decide) ?_
    exact x_ireti (pc := 33) C I hr hlocks h dX6_remainingOf_33
def V_X6_scoreOf (N : xM) (x1 : Int32) (post : Int32 → xM → Prop) : Prop := (vp_in ((8 * (N 0 11)) + x1) 16 ∧ (∀ y2 : Int32, y2 = (N 17 (((8 * (N 0 11)) + x1)).toNatClampNeg) → ((y2 = 0 → post 0 N) ∧ (¬ y2 = 0 → (vp_in ((8 * (N 0 11)) + x1) 16 ∧ (¬ y2 = 0 ∧ post ((N 18 (((8 * (N 0 11)) + x1)).toNatClampNeg) / y2) N))))))
set_option maxHeartbeats 4000000 in
set_option maxRecDepth 100000 in
theorem m_X6_scoreOf {l : Launch} {D : va_G} {cI cZ : ClassId} {r : Nat → Nat} {N : xM} {x1 : Int32} {post : Int32 → xM → Prop} (h : V_X6_scoreOf N x1 post) : xMi l yX6_scoreOf cX6_scoreOf 3 (some .int) { frames := 0, cells := 0, slots := 0, locals := 0 } D cI cZ (wR cI cZ r) N [.ref (r 0), .int x1] post := by
  refine x_bodyi (own := RX6) (by decide) rfl (Nat.le_of_ble_eq_true rfl) ?_
  intro p e s m below meth c A ls C hr hlocks hA I hl
  have hx := C.1.1
  have hb := C.1.2.1
  have hl : lv_has ls 3 [(0, .ref (r 0)), (1, .int x1)] := hl
  unfold V_X6_scoreOf at h
  refine lv_aload_n (pc := 0) hx hb dX6_scoreOf_0 rfl (lv_at hl 0 rfl) ?_
  refine x_get (pc := 1) C I wR_0 rfl inlX6 (k := 24) q_5_7 (by decide) rfl rfl dX6_scoreOf_1 ?_
  refine lv_bipush (pc := 4) (v := 8) hx hb dX6_scoreOf_4 (by decide) ?_
  refine lv_aload_n (pc := 6) hx hb dX6_scoreOf_6 rfl (lv_at hl 0 rfl) ?_
  refine x_get (pc := 7) C I wR_0 rfl inlX6 (k := 11) q_8_7 (by decide) rfl rfl dX6_scoreOf_7 ?_
  refine lv_imul (pc := 10) hx hb dX6_scoreOf_10 ?_
  refine lv_iload_n (pc := 11) hx hb dX6_scoreOf_11 rfl (lv_at hl 1 rfl) ?_
  refine lv_iadd (pc := 12) hx hb dX6_scoreOf_12 ?_
  obtain ⟨g1, h⟩ := h
  refine x_ald (pc := 13) C I wR_17 g1 dX6_scoreOf_13 ?_
  refine lv_topi (fun y2 ey2 => ?_)
  have h := h y2 ey2
  refine lv_istore_n (pc := 14) (lv' := [(2, .int y2), (0, .ref (r 0)), (1, .int x1)]) hx hb dX6_scoreOf_14 rfl hl (by decide) rfl (fun ls hl => ?_)
  refine lv_iload_n (pc := 15) hx hb dX6_scoreOf_15 rfl (lv_at hl 0 rfl) ?_
  refine lv_if_ne (pc := 16) (tgt := 23) hx hb dX6_scoreOf_16 (by decide) (fun g3 => ?_) (fun g3 => ?_)
  · have h := h.2 g3
    refine lv_aload_n (pc := 23) hx hb dX6_scoreOf_23 rfl (lv_at hl 1 rfl) ?_
    refine x_get (pc := 24) C I wR_0 rfl inlX6 (k := 25) q_5_8 (by decide) rfl rfl dX6_scoreOf_24 ?_
    refine lv_bipush (pc := 27) (v := 8) hx hb dX6_scoreOf_27 (by decide) ?_
    refine lv_aload_n (pc := 29) hx hb dX6_scoreOf_29 rfl (lv_at hl 1 rfl) ?_
    refine x_get (pc := 30) C I wR_0 rfl inlX6 (k := 11) q_8_7 (by decide) rfl rfl dX6_scoreOf_30 ?_
    refine lv_imul (pc := 33) hx hb dX6_scoreOf_33 ?_
    refine lv_iload_n (pc := 34) hx hb dX6_scoreOf_34 rfl (lv_at hl 2 rfl) ?_
    refine lv_iadd (pc := 35) hx hb dX6_scoreOf_35 ?_
    obtain ⟨g4, h⟩ := h
    refine x_ald (pc := 36) C I wR_18 g4 dX6_scoreOf_36 ?_
    refine lv_iload_n (pc := 37) hx hb dX6_scoreOf_37 rfl (lv_at hl 0 rfl) ?_
    obtain ⟨g5, h⟩ := h
    refine lv_idiv (pc := 38) hx hb dX6_scoreOf_38 g5 ?_
    exact x_ireti (pc := 39) C I hr hlocks h dX6_scoreOf_39
  · have h := h.1 g3
    refine lv_iconst (pc := 19) (v := 0) hx hb dX6_scoreOf_19 (by decide) ?_
    refine lv_goto (pc := 20) (tgt := 39) hx hb dX6_scoreOf_20 (by decide) ?_
    exact x_ireti (pc := 39) C I hr hlocks h dX6_scoreOf_39
def V_X6_meanRate_L9 (post : Int32 → xM → Prop) : Nat → xM → Int32 → Int32 → Int32 → Prop
  | 0, _, _, _, _ => False
  | n + 1, N0, x1, x2, x3 => (V_X6_last N0  (fun r4 N3 => ((r4 ≤ x3 → ((x2 = 0 → post 0 N3) ∧ (¬ x2 = 0 → (¬ x2 = 0 ∧ post (x1 / x2) N3)))) ∧ (¬ r4 ≤ x3 → (vp_in x3 400 ∧ (((N3 11 (x3).toNatClampNeg) = 1 → (V_X6_rateOf N3 x3 (fun r12 N11 => (∀ y13 : Int32, y13 = (x1 + r12) → (∀ y14 : Int32, y14 = (x2 + 1) → (∀ y15 : Int32, y15 = (x3 + 1) → (V_X6_meanRate_L9 post n N11 y13 y14 y15))))))) ∧ (¬ (N3 11 (x3).toNatClampNeg) = 1 → (∀ y10 : Int32, y10 = (x3 + 1) → (V_X6_meanRate_L9 post n N3 x1 x2 y10)))))))))
def V_X6_meanRate (N : xM) (post : Int32 → xM → Prop) : Prop := (V_X6_first N  (fun r2 N1 => (∃ n16 : Nat, V_X6_meanRate_L9 post n16 N1 0 0 r2)))
set_option maxHeartbeats 4000000 in
set_option maxRecDepth 100000 in
theorem k_X6_meanRate_L9 {l : Launch} {D : va_G} {cI cZ : ClassId} {r : Nat → Nat} {p : Program} {e : Env} {s : State} {m : MethodId} {below : List Frame} {meth : Method} {c : Code} {A : Nat → Prop} {args : Array Value} {post : Int32 → xM → Prop} (C : xC p s m args c cX6_meanRate 4 RX6 D cI cZ) (hr : meth.sig.returnType = (some .int)) (hlocks : meth.locks = false) (hA : ∀ q : Nat, s.heap.size ≤ q → A q) (n : Nat) : ∀ (N0 : xM) (x1 x2 x3 : Int32) (H : Heap) (locs : List Loc) (ls : Array Slot), V_X6_meanRate_L9 post n N0 x1 x2 x3 → xI D (wR cI cZ r N0) A s.heap H locs → lv_has ls 4 [(0, .ref (r 0)), (1, .int x1), (2, .int x2), (3, .int x3)] → W p l e { frames := 2, cells := 0, slots := 0, locals := 43 } s m args below meth c H locs 0 0 (MQ below (va_Qi post (xPost D cI cZ A (wR cI cZ r)) A) args s 0 0 A) (F0 m 9 ls []) := by
  have hx := C.1.1
  have hb := C.1.2.1
  induction n with
  | zero =>
    intro N0 x1 x2 x3 H locs ls h I hl
    exact absurd h id
  | succ n ih9 =>
    intro N0 x1 x2 x3 H locs ls h I hl
    rw [V_X6_meanRate_L9] at h
    refine lv_iload_n (pc := 9) hx hb dX6_meanRate_9 rfl (lv_at hl 3 rfl) ?_
    refine lv_aload_n (pc := 10) hx hb dX6_meanRate_10 rfl (lv_at hl 0 rfl) ?_
    refine x_calli (pc := 11) C I hA (m_X6_last h) c_RX6_113 wR_0 rfl ⟨Nat.le_of_ble_eq_true rfl, Nat.le_of_ble_eq_true rfl⟩ ⟨rfl, rfl⟩ ⟨Nat.le_of_ble_eq_true rfl, Nat.le_of_ble_eq_true rfl⟩ (As := []) rfl hl.1 rfl (Nat.le_of_ble_eq_true rfl) dX6_meanRate_11 (fun r4 N3 H locs h I => ?_)
    refine lv_icmp_ge (pc := 14) (tgt := 44) hx hb dX6_meanRate_14 (by decide) (fun g5 => ?_) (fun g5 => ?_)
    · have h := h.1 g5
      refine lv_iload_n (pc := 44) hx hb dX6_meanRate_44 rfl (lv_at hl 2 rfl) ?_
      refine lv_if_ne (pc := 45) (tgt := 52) hx hb dX6_meanRate_45 (by decide) (fun g6 => ?_) (fun g6 => ?_)
      · have h := h.2 g6
        refine lv_iload_n (pc := 52) hx hb dX6_meanRate_52 rfl (lv_at hl 1 rfl) ?_
        refine lv_iload_n (pc := 53) hx hb dX6_meanRate_53 rfl (lv_at hl 2 rfl) ?_
        obtain ⟨g7, h⟩ := h
        refine lv_idiv (pc := 54) hx hb dX6_meanRate_54 g7 ?_
        exact x_ireti (pc := 55) C I hr hlocks h dX6_meanRate_55
      · have h := h.1 g6
        refine lv_iconst (pc := 48) (v := 0) hx hb dX6_meanRate_48 (by decide) ?_
        refine lv_goto (pc := 49) (tgt := 55) hx hb dX6_meanRate_49 (by decide) ?_
        exact x_ireti (pc := 55) C I hr hlocks h dX6_meanRate_55
    · have h := h.2 g5
      refine lv_aload_n (pc := 17) hx hb dX6_meanRate_17 rfl (lv_at hl 0 rfl) ?_
      refine x_get (pc := 18) C I wR_0 rfl inlX6 (k := 18) q_5_1 (by decide) rfl rfl dX6_meanRate_18 ?_
      refine lv_iload_n (pc := 21) hx hb dX6_meanRate_21 rfl (lv_at hl 3 rfl) ?_
      obtain ⟨g8, h⟩ := h
      refine x_ald (pc := 22) C I wR_11 g8 dX6_meanRate_22 ?_
      refine lv_iconst (pc := 23) (v := 1) hx hb dX6_meanRate_23 (by decide) ?_
      refine lv_icmp_ne (pc := 24) (tgt := 38) hx hb dX6_meanRate_24 (by decide) (fun g9 => ?_) (fun g9 => ?_)
      · have h := h.2 g9
        obtain ⟨y10, ey10⟩ : ∃ y : Int32, y = (x3 + 1) := ⟨_, rfl⟩
        have h := h y10 ey10
        refine lv_iinc (pc := 38) (v := y10) (lv' := [(3, .int y10), (0, .ref (r 0)), (1, .int x1), (2, .int x2)]) hx hb dX6_meanRate_38 hl (k := 3) rfl (by rw [ey10]; rfl) (by decide) rfl (fun ls hl => ?_)
        refine lv_goto (pc := 41) (tgt := 9) hx hb dX6_meanRate_41 (by decide) ?_
        exact ih9 N3 x1 x2 y10 _ _ _ h I (lv_sub hl [1, 2, 3, 0] rfl)
      · have h := h.1 g9
        refine lv_iload_n (pc := 27) hx hb dX6_meanRate_27 rfl (lv_at hl 1 rfl) ?_
        refine lv_aload_n (pc := 28) hx hb dX6_meanRate_28 rfl (lv_at hl 0 rfl) ?_
        refine lv_iload_n (pc := 29) hx hb dX6_meanRate_29 rfl (lv_at hl 3 rfl) ?_
        refine x_calli (pc := 30) C I hA (m_X6_rateOf h) c_RX6_116 wR_0 rfl ⟨Nat.le_of_ble_eq_true rfl, Nat.le_of_ble_eq_true rfl⟩ ⟨rfl, rfl⟩ ⟨Nat.le_of_ble_eq_true rfl, Nat.le_of_ble_eq_true rfl⟩ (As := [.int x3]) rfl hl.1 rfl (Nat.le_of_ble_eq_true rfl) dX6_meanRate_30 (fun r12 N11 H locs h I => ?_)
        refine lv_iadd (pc := 33) hx hb dX6_meanRate_33 ?_
        refine lv_topi (fun y13 ey13 => ?_)
        have h := h y13 ey13
        refine lv_istore_n (pc := 34) (lv' := [(1, .int y13), (0, .ref (r 0)), (2, .int x2), (3, .int x3)]) hx hb dX6_meanRate_34 rfl hl (by decide) rfl (fun ls hl => ?_)
        obtain ⟨y14, ey14⟩ : ∃ y : Int32, y = (x2 + 1) := ⟨_, rfl⟩
        have h := h y14 ey14
        refine lv_iinc (pc := 35) (v := y14) (lv' := [(2, .int y14), (1, .int y13), (0, .ref (r 0)), (3, .int x3)]) hx hb dX6_meanRate_35 hl (k := 2) rfl (by rw [ey14]; rfl) (by decide) rfl (fun ls hl => ?_)
        obtain ⟨y15, ey15⟩ : ∃ y : Int32, y = (x3 + 1) := ⟨_, rfl⟩
        have h := h y15 ey15
        refine lv_iinc (pc := 38) (v := y15) (lv' := [(3, .int y15), (2, .int y14), (1, .int y13), (0, .ref (r 0))]) hx hb dX6_meanRate_38 hl (k := 3) rfl (by rw [ey15]; rfl) (by decide) rfl (fun ls hl => ?_)
        refine lv_goto (pc := 41) (tgt := 9) hx hb dX6_meanRate_41 (by decide) ?_
        exact ih9 N11 y13 y14 y15 _ _ _ h I (lv_sub hl [3, 2, 1, 0] rfl)
set_option maxHeartbeats 4000000 in
set_option maxRecDepth 100000 in
theorem m_X6_meanRate {l : Launch} {D : va_G} {cI cZ : ClassId} {r : Nat → Nat} {N : xM} {post : Int32 → xM → Prop} (h : V_X6_meanRate N post) : xMi l yX6_meanRate cX6_meanRate 4 (some .int) { frames := 2, cells := 0, slots := 0, locals := 43 } D cI cZ (wR cI cZ r) N [.ref (r 0)] post := by
  refine x_bodyi (own := RX6) (by decide) rfl (Nat.le_of_ble_eq_true rfl) ?_
  intro p e s m below meth c A ls C hr hlocks hA I hl
  have hx := C.1.1
  have hb := C.1.2.1
  have hl : lv_has ls 4 [(0, .ref (r 0))] := hl
  unfold V_X6_meanRate at h
  refine lv_iconst (pc := 0) (v := 0) hx hb dX6_meanRate_0 (by decide) ?_
  refine lv_istore_n (pc := 1) (lv' := [(1, .int 0), (0, .ref (r 0))]) hx hb dX6_meanRate_1 rfl hl (by decide) rfl (fun ls hl => ?_)
  refine lv_iconst (pc := 2) (v := 0) hx hb dX6_meanRate_2 (by decide) ?_
  refine lv_istore_n (pc := 3) (lv' := [(2, .int 0), (1, .int 0), (0, .ref (r 0))]) hx hb dX6_meanRate_3 rfl hl (by decide) rfl (fun ls hl => ?_)
  refine lv_aload_n (pc := 4) hx hb dX6_meanRate_4 rfl (lv_at hl 2 rfl) ?_
  refine x_calli (pc := 5) C I hA (m_X6_first h) c_RX6_109 wR_0 rfl ⟨Nat.le_of_ble_eq_true rfl, Nat.le_of_ble_eq_true rfl⟩ ⟨rfl, rfl⟩ ⟨Nat.le_of_ble_eq_true rfl, Nat.le_of_ble_eq_true rfl⟩ (As := []) rfl hl.1 rfl (Nat.le_of_ble_eq_true rfl) dX6_meanRate_5 (fun r2 N1 H locs h I => ?_)
  refine lv_istore_n (pc := 8) (lv' := [(3, .int r2), (2, .int 0), (1, .int 0), (0, .ref (r 0))]) hx hb dX6_meanRate_8 rfl hl (by decide) rfl (fun ls hl => ?_)
  obtain ⟨n16, h⟩ := h
  exact k_X6_meanRate_L9 C hr hlocks hA n16 N1 0 0 r2 _ _ _ h I (lv_sub hl [3, 2, 1, 0] rfl)
def V_X6_meanProgress_L9 (post : Int32 → xM → Prop) : Nat → xM → Int32 → Int32 → Int32 → Prop
  | 0, _, _, _, _ => False
  | n + 1, N0, x1, x2, x3 => (V_X6_last N0  (fun r4 N3 => ((r4 ≤ x3 → ((x2 = 0 → post 0 N3) ∧ (¬ x2 = 0 → (¬ x2 = 0 ∧ post (x1 / x2) N3)))) ∧ (¬ r4 ≤ x3 → (vp_in x3 400 ∧ (((N3 11 (x3).toNatClampNeg) = 1 → (V_X6_progressOf N3 x3 (fun r12 N11 => (∀ y13 : Int32, y13 = (x1 + r12) → (∀ y14 : Int32, y14 = (x2 + 1) → (∀ y15 : Int32, y15 = (x3 + 1) → (V_X6_meanProgress_L9 post n N11 y13 y14 y15))))))) ∧ (¬ (N3 11 (x3).toNatClampNeg) = 1 → (∀ y10 : Int32, y10 = (x3 + 1) → (V_X6_meanProgress_L9 post n N3 x1 x2 y10)))))))))
def V_X6_meanProgress (N : xM) (post : Int32 → xM → Prop) : Prop := (V_X6_first N  (fun r2 N1 => (∃ n16 : Nat, V_X6_meanProgress_L9 post n16 N1 0 0 r2)))
set_option maxHeartbeats 4000000 in
set_option maxRecDepth 100000 in
theorem k_X6_meanProgress_L9 {l : Launch} {D : va_G} {cI cZ : ClassId} {r : Nat → Nat} {p : Program} {e : Env} {s : State} {m : MethodId} {below : List Frame} {meth : Method} {c : Code} {A : Nat → Prop} {args : Array Value} {post : Int32 → xM → Prop} (C : xC p s m args c cX6_meanProgress 4 RX6 D cI cZ) (hr : meth.sig.returnType = (some .int)) (hlocks : meth.locks = false) (hA : ∀ q : Nat, s.heap.size ≤ q → A q) (n : Nat) : ∀ (N0 : xM) (x1 x2 x3 : Int32) (H : Heap) (locs : List Loc) (ls : Array Slot), V_X6_meanProgress_L9 post n N0 x1 x2 x3 → xI D (wR cI cZ r N0) A s.heap H locs → lv_has ls 4 [(0, .ref (r 0)), (1, .int x1), (2, .int x2), (3, .int x3)] → W p l e { frames := 1, cells := 0, slots := 0, locals := 22 } s m args below meth c H locs 0 0 (MQ below (va_Qi post (xPost D cI cZ A (wR cI cZ r)) A) args s 0 0 A) (F0 m 9 ls []) := by
  have hx := C.1.1
  have hb := C.1.2.1
  induction n with
  | zero =>
    intro N0 x1 x2 x3 H locs ls h I hl
    exact absurd h id
  | succ n ih9 =>
    intro N0 x1 x2 x3 H locs ls h I hl
    rw [V_X6_meanProgress_L9] at h
    refine lv_iload_n (pc := 9) hx hb dX6_meanProgress_9 rfl (lv_at hl 3 rfl) ?_
    refine lv_aload_n (pc := 10) hx hb dX6_meanProgress_10 rfl (lv_at hl 0 rfl) ?_
    refine x_calli (pc := 11) C I hA (m_X6_last h) c_RX6_113 wR_0 rfl ⟨Nat.le_of_ble_eq_true rfl, Nat.le_of_ble_eq_true rfl⟩ ⟨rfl, rfl⟩ ⟨Nat.le_of_ble_eq_true rfl, Nat.le_of_ble_eq_true rfl⟩ (As := []) rfl hl.1 rfl (Nat.le_of_ble_eq_true rfl) dX6_meanProgress_11 (fun r4 N3 H locs h I => ?_)
    refine lv_icmp_ge (pc := 14) (tgt := 44) hx hb dX6_meanProgress_14 (by decide) (fun g5 => ?_) (fun g5 => ?_)
    · have h := h.1 g5
      refine lv_iload_n (pc := 44) hx hb dX6_meanProgress_44 rfl (lv_at hl 2 rfl) ?_
      refine lv_if_ne (pc := 45) (tgt := 52) hx hb dX6_meanProgress_45 (by decide) (fun g6 => ?_) (fun g6 => ?_)
      · have h := h.2 g6
        refine lv_iload_n (pc := 52) hx hb dX6_meanProgress_52 rfl (lv_at hl 1 rfl) ?_
        refine lv_iload_n (pc := 53) hx hb dX6_meanProgress_53 rfl (lv_at hl 2 rfl) ?_
        obtain ⟨g7, h⟩ := h
        refine lv_idiv (pc := 54) hx hb dX6_meanProgress_54 g7 ?_
        exact x_ireti (pc := 55) C I hr hlocks h dX6_meanProgress_55
      · have h := h.1 g6
        refine lv_iconst (pc := 48) (v := 0) hx hb dX6_meanProgress_48 (by decide) ?_
        refine lv_goto (pc := 49) (tgt := 55) hx hb dX6_meanProgress_49 (by decide) ?_
        exact x_ireti (pc := 55) C I hr hlocks h dX6_meanProgress_55
    · have h := h.2 g5
      refine lv_aload_n (pc := 17) hx hb dX6_meanProgress_17 rfl (lv_at hl 0 rfl) ?_
      refine x_get (pc := 18) C I wR_0 rfl inlX6 (k := 18) q_5_1 (by decide) rfl rfl dX6_meanProgress_18 ?_
      refine lv_iload_n (pc := 21) hx hb dX6_meanProgress_21 rfl (lv_at hl 3 rfl) ?_
      obtain ⟨g8, h⟩ := h
      refine x_ald (pc := 22) C I wR_11 g8 dX6_meanProgress_22 ?_
      refine lv_iconst (pc := 23) (v := 1) hx hb dX6_meanProgress_23 (by decide) ?_
      refine lv_icmp_ne (pc := 24) (tgt := 38) hx hb dX6_meanProgress_24 (by decide) (fun g9 => ?_) (fun g9 => ?_)
      · have h := h.2 g9
        obtain ⟨y10, ey10⟩ : ∃ y : Int32, y = (x3 + 1) := ⟨_, rfl⟩
        have h := h y10 ey10
        refine lv_iinc (pc := 38) (v := y10) (lv' := [(3, .int y10), (0, .ref (r 0)), (1, .int x1), (2, .int x2)]) hx hb dX6_meanProgress_38 hl (k := 3) rfl (by rw [ey10]; rfl) (by decide) rfl (fun ls hl => ?_)
        refine lv_goto (pc := 41) (tgt := 9) hx hb dX6_meanProgress_41 (by decide) ?_
        exact ih9 N3 x1 x2 y10 _ _ _ h I (lv_sub hl [1, 2, 3, 0] rfl)
      · have h := h.1 g9
        refine lv_iload_n (pc := 27) hx hb dX6_meanProgress_27 rfl (lv_at hl 1 rfl) ?_
        refine lv_aload_n (pc := 28) hx hb dX6_meanProgress_28 rfl (lv_at hl 0 rfl) ?_
        refine lv_iload_n (pc := 29) hx hb dX6_meanProgress_29 rfl (lv_at hl 3 rfl) ?_
        refine x_calli (pc := 30) C I hA (m_X6_progressOf h) c_RX6_102 wR_0 rfl ⟨Nat.le_of_ble_eq_true rfl, Nat.le_of_ble_eq_true rfl⟩ ⟨rfl, rfl⟩ ⟨Nat.le_of_ble_eq_true rfl, Nat.le_of_ble_eq_true rfl⟩ (As := [.int x3]) rfl hl.1 rfl (Nat.le_of_ble_eq_true rfl) dX6_meanProgress_30 (fun r12 N11 H locs h I => ?_)
        refine lv_iadd (pc := 33) hx hb dX6_meanProgress_33 ?_
        refine lv_topi (fun y13 ey13 => ?_)
        have h := h y13 ey13
        refine lv_istore_n (pc := 34) (lv' := [(1, .int y13), (0, .ref (r 0)), (2, .int x2), (3, .int x3)]) hx hb dX6_meanProgress_34 rfl hl (by decide) rfl (fun ls hl => ?_)
        obtain ⟨y14, ey14⟩ : ∃ y : Int32, y = (x2 + 1) := ⟨_, rfl⟩
        have h := h y14 ey14
        refine lv_iinc (pc := 35) (v := y14) (lv' := [(2, .int y14), (1, .int y13), (0, .ref (r 0)), (3, .int x3)]) hx hb dX6_meanProgress_35 hl (k := 2) rfl (by rw [ey14]; rfl) (by decide) rfl (fun ls hl => ?_)
        obtain ⟨y15, ey15⟩ : ∃ y : Int32, y = (x3 + 1) := ⟨_, rfl⟩
        have h := h y15 ey15
        refine lv_iinc (pc := 38) (v := y15) (lv' := [(3, .int y15), (2, .int y14), (1, .int y13), (0, .ref (r 0))]) hx hb dX6_meanProgress_38 hl (k := 3) rfl (by rw [ey15]; rfl) (by decide) rfl (fun ls hl => ?_)
        refine lv_goto (pc := 41) (tgt := 9) hx hb dX6_meanProgress_41 (by decide) ?_
        exact ih9 N11 y13 y14 y15 _ _ _ h I (lv_sub hl [3, 2, 1, 0] rfl)
set_option maxHeartbeats 4000000 in
set_option maxRecDepth 100000 in
theorem m_X6_meanProgress {l : Launch} {D : va_G} {cI cZ : ClassId} {r : Nat → Nat} {N : xM} {post : Int32 → xM → Prop} (h : V_X6_meanProgress N post) : xMi l yX6_meanProgress cX6_meanProgress 4 (some .int) { frames := 1, cells := 0, slots := 0, locals := 22 } D cI cZ (wR cI cZ r) N [.ref (r 0)] post := by
  refine x_bodyi (own := RX6) (by decide) rfl (Nat.le_of_ble_eq_true rfl) ?_
  intro p e s m below meth c A ls C hr hlocks hA I hl
  have hx := C.1.1
  have hb := C.1.2.1
  have hl : lv_has ls 4 [(0, .ref (r 0))] := hl
  unfold V_X6_meanProgress at h
  refine lv_iconst (pc := 0) (v := 0) hx hb dX6_meanProgress_0 (by decide) ?_
  refine lv_istore_n (pc := 1) (lv' := [(1, .int 0), (0, .ref (r 0))]) hx hb dX6_meanProgress_1 rfl hl (by decide) rfl (fun ls hl => ?_)
  refine lv_iconst (pc := 2) (v := 0) hx hb dX6_meanProgress_2 (by decide) ?_
  refine lv_istore_n (pc := 3) (lv' := [(2, .int 0), (1, .int 0), (0, .ref (r 0))]) hx hb dX6_meanProgress_3 rfl hl (by decide) rfl (fun ls hl => ?_)
  refine lv_aload_n (pc := 4) hx hb dX6_meanProgress_4 rfl (lv_at hl 2 rfl) ?_
  refine x_calli (pc := 5) C I hA (m_X6_first h) c_RX6_109 wR_0 rfl ⟨Nat.le_of_ble_eq_true rfl, Nat.le_of_ble_eq_true rfl⟩ ⟨rfl, rfl⟩ ⟨Nat.le_of_ble_eq_true rfl, Nat.le_of_ble_eq_true rfl⟩ (As := []) rfl hl.1 rfl (Nat.le_of_ble_eq_true rfl) dX6_meanProgress_5 (fun r2 N1 H locs h I => ?_)
  refine lv_istore_n (pc := 8) (lv' := [(3, .int r2), (2, .int 0), (1, .int 0), (0, .ref (r 0))]) hx hb dX6_meanProgress_8 rfl hl (by decide) rfl (fun ls hl => ?_)
  obtain ⟨n16, h⟩ := h
  exact k_X6_meanProgress_L9 C hr hlocks hA n16 N1 0 0 r2 _ _ _ h I (lv_sub hl [3, 2, 1, 0] rfl)
def V_X6_meanScore_L6 (post : Int32 → xM → Prop) : Nat → xM → Int32 → Int32 → Int32 → Prop
  | 0, _, _, _, _ => False
  | n + 1, N0, x1, x2, x3 => (((N0 0 0) ≤ x3 → ((x2 = 0 → post 0 N0) ∧ (¬ x2 = 0 → (¬ x2 = 0 ∧ post (x1 / x2) N0)))) ∧ (¬ (N0 0 0) ≤ x3 → (vp_in x3 8 ∧ (((N0 3 (x3).toNatClampNeg) = 0 → (∀ y6 : Int32, y6 = (x3 + 1) → (V_X6_meanScore_L6 post n N0 x1 x2 y6))) ∧ (¬ (N0 3 (x3).toNatClampNeg) = 0 → (vp_in ((8 * (N0 0 11)) + x3) 16 ∧ (((N0 17 (((8 * (N0 0 11)) + x3)).toNatClampNeg) ≤ 0 → (∀ y9 : Int32, y9 = (x3 + 1) → (V_X6_meanScore_L6 post n N0 x1 x2 y9))) ∧ (¬ (N0 17 (((8 * (N0 0 11)) + x3)).toNatClampNeg) ≤ 0 → (V_X6_scoreOf N0 x3 (fun r11 N10 => (∀ y12 : Int32, y12 = (x1 + r11) → (∀ y13 : Int32, y13 = (x2 + 1) → (∀ y14 : Int32, y14 = (x3 + 1) → (V_X6_meanScore_L6 post n N10 y12 y13 y14))))))))))))))
def V_X6_meanScore (N : xM) (post : Int32 → xM → Prop) : Prop := (∃ n15 : Nat, V_X6_meanScore_L6 post n15 N 0 0 0)
set_option maxHeartbeats 4000000 in
set_option maxRecDepth 100000 in
theorem k_X6_meanScore_L6 {l : Launch} {D : va_G} {cI cZ : ClassId} {r : Nat → Nat} {p : Program} {e : Env} {s : State} {m : MethodId} {below : List Frame} {meth : Method} {c : Code} {A : Nat → Prop} {args : Array Value} {post : Int32 → xM → Prop} (C : xC p s m args c cX6_meanScore 4 RX6 D cI cZ) (hr : meth.sig.returnType = (some .int)) (hlocks : meth.locks = false) (hA : ∀ q : Nat, s.heap.size ≤ q → A q) (n : Nat) : ∀ (N0 : xM) (x1 x2 x3 : Int32) (H : Heap) (locs : List Loc) (ls : Array Slot), V_X6_meanScore_L6 post n N0 x1 x2 x3 → xI D (wR cI cZ r N0) A s.heap H locs → lv_has ls 4 [(0, .ref (r 0)), (1, .int x1), (2, .int x2), (3, .int x3)] → W p l e { frames := 1, cells := 0, slots := 0, locals := 22 } s m args below meth c H locs 0 0 (MQ below (va_Qi post (xPost D cI cZ A (wR cI cZ r)) A) args s 0 0 A) (F0 m 6 ls []) := by
  have hx := C.1.1
  have hb := C.1.2.1
  induction n with
  | zero =>
    intro N0 x1 x2 x3 H locs ls h I hl
    exact absurd h id
  | succ n ih6 =>
    intro N0 x1 x2 x3 H locs ls h I hl
    rw [V_X6_meanScore_L6] at h
    refine lv_iload_n (pc := 6) hx hb dX6_meanScore_6 rfl (lv_at hl 3 rfl) ?_
    refine lv_aload_n (pc := 7) hx hb dX6_meanScore_7 rfl (lv_at hl 0 rfl) ?_
    refine x_get (pc := 8) C I wR_0 rfl inlX6 (k := 0) q_6_2 (by decide) rfl rfl dX6_meanScore_8 ?_
    refine lv_icmp_ge (pc := 11) (tgt := 57) hx hb dX6_meanScore_11 (by decide) (fun g1 => ?_) (fun g1 => ?_)
    · have h := h.1 g1
      refine lv_iload_n (pc := 57) hx hb dX6_meanScore_57 rfl (lv_at hl 2 rfl) ?_
      refine lv_if_ne (pc := 58) (tgt := 65) hx hb dX6_meanScore_58 (by decide) (fun g2 => ?_) (fun g2 => ?_)
      · have h := h.2 g2
        refine lv_iload_n (pc := 65) hx hb dX6_meanScore_65 rfl (lv_at hl 1 rfl) ?_
        refine lv_iload_n (pc := 66) hx hb dX6_meanScore_66 rfl (lv_at hl 2 rfl) ?_
        obtain ⟨g3, h⟩ := h
        refine lv_idiv (pc := 67) hx hb dX6_meanScore_67 g3 ?_
        exact x_ireti (pc := 68) C I hr hlocks h dX6_meanScore_68
      · have h := h.1 g2
        refine lv_iconst (pc := 61) (v := 0) hx hb dX6_meanScore_61 (by decide) ?_
        refine lv_goto (pc := 62) (tgt := 68) hx hb dX6_meanScore_62 (by decide) ?_
        exact x_ireti (pc := 68) C I hr hlocks h dX6_meanScore_68
    · have h := h.2 g1
      refine lv_aload_n (pc := 14) hx hb dX6_meanScore_14 rfl (lv_at hl 0 rfl) ?_
      refine x_get (pc := 15) C I wR_0 rfl inlX6 (k := 3) q_4_13 (by decide) rfl rfl dX6_meanScore_15 ?_
      refine lv_iload_n (pc := 18) hx hb dX6_meanScore_18 rfl (lv_at hl 3 rfl) ?_
      obtain ⟨g4, h⟩ := h
      refine x_zld (pc := 19) C I wR_3 g4 dX6_meanScore_19 ?_
      refine lv_if_eq (pc := 20) (tgt := 51) hx hb dX6_meanScore_20 (by decide) (fun g5 => ?_) (fun g5 => ?_)
      · have h := h.1 g5
        obtain ⟨y6, ey6⟩ : ∃ y : Int32, y = (x3 + 1) := ⟨_, rfl⟩
        have h := h y6 ey6
        refine lv_iinc (pc := 51) (v := y6) (lv' := [(3, .int y6), (0, .ref (r 0)), (1, .int x1), (2, .int x2)]) hx hb dX6_meanScore_51 hl (k := 3) rfl (by rw [ey6]; rfl) (by decide) rfl (fun ls hl => ?_)
        refine lv_goto (pc := 54) (tgt := 6) hx hb dX6_meanScore_54 (by decide) ?_
        exact ih6 N0 x1 x2 y6 _ _ _ h I (lv_sub hl [1, 2, 3, 0] rfl)
      · have h := h.2 g5
        refine lv_aload_n (pc := 23) hx hb dX6_meanScore_23 rfl (lv_at hl 0 rfl) ?_
        refine x_get (pc := 24) C I wR_0 rfl inlX6 (k := 24) q_5_7 (by decide) rfl rfl dX6_meanScore_24 ?_
        refine lv_bipush (pc := 27) (v := 8) hx hb dX6_meanScore_27 (by decide) ?_
        refine lv_aload_n (pc := 29) hx hb dX6_meanScore_29 rfl (lv_at hl 0 rfl) ?_
        refine x_get (pc := 30) C I wR_0 rfl inlX6 (k := 11) q_8_7 (by decide) rfl rfl dX6_meanScore_30 ?_
        refine lv_imul (pc := 33) hx hb dX6_meanScore_33 ?_
        refine lv_iload_n (pc := 34) hx hb dX6_meanScore_34 rfl (lv_at hl 3 rfl) ?_
        refine lv_iadd (pc := 35) hx hb dX6_meanScore_35 ?_
        obtain ⟨g7, h⟩ := h
        refine x_ald (pc := 36) C I wR_17 g7 dX6_meanScore_36 ?_
        refine lv_if_le (pc := 37) (tgt := 51) hx hb dX6_meanScore_37 (by decide) (fun g8 => ?_) (fun g8 => ?_)
        · have h := h.1 g8
          obtain ⟨y9, ey9⟩ : ∃ y : Int32, y = (x3 + 1) := ⟨_, rfl⟩
          have h := h y9 ey9
          refine lv_iinc (pc := 51) (v := y9) (lv' := [(3, .int y9), (0, .ref (r 0)), (1, .int x1), (2, .int x2)]) hx hb dX6_meanScore_51 hl (k := 3) rfl (by rw [ey9]; rfl) (by decide) rfl (fun ls hl => ?_)
          refine lv_goto (pc := 54) (tgt := 6) hx hb dX6_meanScore_54 (by decide) ?_
          exact ih6 N0 x1 x2 y9 _ _ _ h I (lv_sub hl [1, 2, 3, 0] rfl)
        · have h := h.2 g8
          refine lv_iload_n (pc := 40) hx hb dX6_meanScore_40 rfl (lv_at hl 1 rfl) ?_
          refine lv_aload_n (pc := 41) hx hb dX6_meanScore_41 rfl (lv_at hl 0 rfl) ?_
          refine lv_iload_n (pc := 42) hx hb dX6_meanScore_42 rfl (lv_at hl 3 rfl) ?_
          refine x_calli (pc := 43) C I hA (m_X6_scoreOf h) c_RX6_119 wR_0 rfl ⟨Nat.le_of_ble_eq_true rfl, Nat.le_of_ble_eq_true rfl⟩ ⟨rfl, rfl⟩ ⟨Nat.le_of_ble_eq_true rfl, Nat.le_of_ble_eq_true rfl⟩ (As := [.int x3]) rfl hl.1 rfl (Nat.le_of_ble_eq_true rfl) dX6_meanScore_43 (fun r11 N10 H locs h I => ?_)
          refine lv_iadd (pc := 46) hx hb dX6_meanScore_46 ?_
          refine lv_topi (fun y12 ey12 => ?_)
          have h := h y12 ey12
          refine lv_istore_n (pc := 47) (lv' := [(1, .int y12), (0, .ref (r 0)), (2, .int x2), (3, .int x3)]) hx hb dX6_meanScore_47 rfl hl (by decide) rfl (fun ls hl => ?_)
          obtain ⟨y13, ey13⟩ : ∃ y : Int32, y = (x2 + 1) := ⟨_, rfl⟩
          have h := h y13 ey13
          refine lv_iinc (pc := 48) (v := y13) (lv' := [(2, .int y13), (1, .int y12), (0, .ref (r 0)), (3, .int x3)]) hx hb dX6_meanScore_48 hl (k := 2) rfl (by rw [ey13]; rfl) (by decide) rfl (fun ls hl => ?_)
          obtain ⟨y14, ey14⟩ : ∃ y : Int32, y = (x3 + 1) := ⟨_, rfl⟩
          have h := h y14 ey14
          refine lv_iinc (pc := 51) (v := y14) (lv' := [(3, .int y14), (2, .int y13), (1, .int y12), (0, .ref (r 0))]) hx hb dX6_meanScore_51 hl (k := 3) rfl (by rw [ey14]; rfl) (by decide) rfl (fun ls hl => ?_)
          refine lv_goto (pc := 54) (tgt := 6) hx hb dX6_meanScore_54 (by decide) ?_
          exact ih6 N10 y12 y13 y14 _ _ _ h I (lv_sub hl [3, 2, 1, 0] rfl)
set_option maxHeartbeats 4000000 in
set_option maxRecDepth 100000 in
theorem m_X6_meanScore {l : Launch} {D : va_G} {cI cZ : ClassId} {r : Nat → Nat} {N : xM} {post : Int32 → xM → Prop} (h : V_X6_meanScore N post) : xMi l yX6_meanScore cX6_meanScore 4 (some .int) { frames := 1, cells := 0, slots := 0, locals := 22 } D cI cZ (wR cI cZ r) N [.ref (r 0)] post := by
  refine x_bodyi (own := RX6) (by decide) rfl (Nat.le_of_ble_eq_true rfl) ?_
  intro p e s m below meth c A ls C hr hlocks hA I hl
  have hx := C.1.1
  have hb := C.1.2.1
  have hl : lv_has ls 4 [(0, .ref (r 0))] := hl
  unfold V_X6_meanScore at h
  refine lv_iconst (pc := 0) (v := 0) hx hb dX6_meanScore_0 (by decide) ?_
  refine lv_istore_n (pc := 1) (lv' := [(1, .int 0), (0, .ref (r 0))]) hx hb dX6_meanScore_1 rfl hl (by decide) rfl (fun ls hl => ?_)
  refine lv_iconst (pc := 2) (v := 0) hx hb dX6_meanScore_2 (by decide) ?_
  refine lv_istore_n (pc := 3) (lv' := [(2, .int 0), (1, .int 0), (0, .ref (r 0))]) hx hb dX6_meanScore_3 rfl hl (by decide) rfl (fun ls hl => ?_)
  refine lv_iconst (pc := 4) (v := 0) hx hb dX6_meanScore_4 (by decide) ?_
  refine lv_istore_n (pc := 5) (lv' := [(3, .int 0), (2, .int 0), (1, .int 0), (0, .ref (r 0))]) hx hb dX6_meanScore_5 rfl hl (by decide) rfl (fun ls hl => ?_)
  obtain ⟨n15, h⟩ := h
  exact k_X6_meanScore_L6 C hr hlocks hA n15 N 0 0 0 _ _ _ h I (lv_sub hl [3, 2, 1, 0] rfl)
def V_X6_isSlow (N : xM) (x1 : Int32) (post : Int32 → xM → Prop) : Prop := (vp_in ((8 * (N 0 11)) + x1) 16 ∧ (((N 17 (((8 * (N 0 11)) + x1)).toNatClampNeg) ≤ 0 → post 0 N) ∧ (¬ (N 17 (((8 * (N 0 11)) + x1)).toNatClampNeg) ≤ 0 → (V_X6_scoreOf N x1 (fun r4 N3 => (V_X6_meanScore N3  (fun r6 N5 => (((r6 * (N5 0 10)) ≤ (r4 * 100) → post 0 N5) ∧ (¬ (r6 * (N5 0 10)) ≤ (r4 * 100) → post 1 N5)))))))))
set_option maxHeartbeats 4000000 in
set_option maxRecDepth 100000 in
theorem m_X6_isSlow {l : Launch} {D : va_G} {cI cZ : ClassId} {r : Nat → Nat} {N : xM} {x1 : Int32} {post : Int32 → xM → Prop} (h : V_X6_isSlow N x1 post) : xMi l yX6_isSlow cX6_isSlow 2 (some .boolean) { frames := 2, cells := 0, slots := 0, locals := 45 } D cI cZ (wR cI cZ r) N [.ref (r 0), .int x1] post := by
  refine x_bodyi (own := RX6) (by decide) rfl (Nat.le_of_ble_eq_true rfl) ?_
  intro p e s m below meth c A ls C hr hlocks hA I hl
  have hx := C.1.1
  have hb := C.1.2.1
  have hl : lv_has ls 2 [(0, .ref (r 0)), (1, .int x1)] := hl
  unfold V_X6_isSlow at h
  refine lv_aload_n (pc := 0) hx hb dX6_isSlow_0 rfl (lv_at hl 0 rfl) ?_
  refine x_get (pc := 1) C I wR_0 rfl inlX6 (k := 24) q_5_7 (by decide) rfl rfl dX6_isSlow_1 ?_
  refine lv_bipush (pc := 4) (v := 8) hx hb dX6_isSlow_4 (by decide) ?_
  refine lv_aload_n (pc := 6) hx hb dX6_isSlow_6 rfl (lv_at hl 0 rfl) ?_
  refine x_get (pc := 7) C I wR_0 rfl inlX6 (k := 11) q_8_7 (by decide) rfl rfl dX6_isSlow_7 ?_
  refine lv_imul (pc := 10) hx hb dX6_isSlow_10 ?_
  refine lv_iload_n (pc := 11) hx hb dX6_isSlow_11 rfl (lv_at hl 1 rfl) ?_
  refine lv_iadd (pc := 12) hx hb dX6_isSlow_12 ?_
  obtain ⟨g1, h⟩ := h
  refine x_ald (pc := 13) C I wR_17 g1 dX6_isSlow_13 ?_
  refine lv_if_le (pc := 14) (tgt := 41) hx hb dX6_isSlow_14 (by decide) (fun g2 => ?_) (fun g2 => ?_)
  · have h := h.1 g2
    refine lv_iconst (pc := 41) (v := 0) hx hb dX6_isSlow_41 (by decide) ?_
    exact x_iretz (pc := 42) C I hr hlocks (by decide) h dX6_isSlow_42
  · have h := h.2 g2
    refine lv_aload_n (pc := 17) hx hb dX6_isSlow_17 rfl (lv_at hl 0 rfl) ?_
    refine lv_iload_n (pc := 18) hx hb dX6_isSlow_18 rfl (lv_at hl 1 rfl) ?_
    refine x_calli (pc := 19) C I hA (m_X6_scoreOf h) c_RX6_119 wR_0 rfl ⟨Nat.le_of_ble_eq_true rfl, Nat.le_of_ble_eq_true rfl⟩ ⟨rfl, rfl⟩ ⟨Nat.le_of_ble_eq_true rfl, Nat.le_of_ble_eq_true rfl⟩ (As := [.int x1]) rfl hl.1 rfl (Nat.le_of_ble_eq_true rfl) dX6_isSlow_19 (fun r4 N3 H locs h I => ?_)
    refine lv_bipush (pc := 22) (v := 100) hx hb dX6_isSlow_22 (by decide) ?_
    refine lv_imul (pc := 24) hx hb dX6_isSlow_24 ?_
    refine lv_aload_n (pc := 25) hx hb dX6_isSlow_25 rfl (lv_at hl 0 rfl) ?_
    refine x_calli (pc := 26) C I hA (m_X6_meanScore h) c_RX6_122 wR_0 rfl ⟨Nat.le_of_ble_eq_true rfl, Nat.le_of_ble_eq_true rfl⟩ ⟨rfl, rfl⟩ ⟨Nat.le_of_ble_eq_true rfl, Nat.le_of_ble_eq_true rfl⟩ (As := []) rfl hl.1 rfl (Nat.le_of_ble_eq_true rfl) dX6_isSlow_26 (fun r6 N5 H locs h I => ?_)
    refine lv_aload_n (pc := 29) hx hb dX6_isSlow_29 rfl (lv_at hl 0 rfl) ?_
    refine x_get (pc := 30) C I wR_0 rfl inlX6 (k := 10) q_4_18 (by decide) rfl rfl dX6_isSlow_30 ?_
    refine lv_imul (pc := 33) hx hb dX6_isSlow_33 ?_
    refine lv_icmp_ge (pc := 34) (tgt := 41) hx hb dX6_isSlow_34 (by decide) (fun g7 => ?_) (fun g7 => ?_)
    · have h := h.1 g7
      refine lv_iconst (pc := 41) (v := 0) hx hb dX6_isSlow_41 (by decide) ?_
      exact x_iretz (pc := 42) C I hr hlocks (by decide) h dX6_isSlow_42
    · have h := h.2 g7
      refine lv_iconst (pc := 37) (v := 1) hx hb dX6_isSlow_37 (by decide) ?_
      refine lv_goto (pc := 38) (tgt := 42) hx hb dX6_isSlow_38 (by decide) ?_
      exact x_iretz (pc := 42) C I hr hlocks (by decide) h dX6_isSlow_42
def V_X6_isCandidate (N : xM) (x1 : Int32) (post : Int32 → xM → Prop) : Prop := (vp_in x1 400 ∧ (((N 11 (x1).toNatClampNeg) = 1 → (vp_in x1 400 ∧ (vp_in ((24 * (N 0 11)) + (N 7 (x1).toNatClampNeg)) 48 ∧ (((N 15 (((24 * (N 0 11)) + (N 7 (x1).toNatClampNeg))).toNatClampNeg) = 1 → (vp_in x1 400 ∧ (((N 9 (x1).toNatClampNeg) < (N 0 8) → post 0 N) ∧ (¬ (N 9 (x1).toNatClampNeg) < (N 0 8) → post 1 N)))) ∧ (¬ (N 15 (((24 * (N 0 11)) + (N 7 (x1).toNatClampNeg))).toNatClampNeg) = 1 → post 0 N))))) ∧ (¬ (N 11 (x1).toNatClampNeg) = 1 → post 0 N)))
set_option maxHeartbeats 4000000 in
set_option maxRecDepth 100000 in
theorem m_X6_isCandidate {l : Launch} {D : va_G} {cI cZ : ClassId} {r : Nat → Nat} {N : xM} {x1 : Int32} {post : Int32 → xM → Prop} (h : V_X6_isCandidate N x1 post) : xMi l yX6_isCandidate cX6_isCandidate 2 (some .boolean) { frames := 0, cells := 0, slots := 0, locals := 0 } D cI cZ (wR cI cZ r) N [.ref (r 0), .int x1] post := by
  refine x_bodyi (own := RX6) (by decide) rfl (Nat.le_of_ble_eq_true rfl) ?_
  intro p e s m below meth c A ls C hr hlocks hA I hl
  have hx := C.1.1
  have hb := C.1.2.1
  have hl : lv_has ls 2 [(0, .ref (r 0)), (1, .int x1)] := hl
  unfold V_X6_isCandidate at h
  refine lv_aload_n (pc := 0) hx hb dX6_isCandidate_0 rfl (lv_at hl 0 rfl) ?_
  refine x_get (pc := 1) C I wR_0 rfl inlX6 (k := 18) q_5_1 (by decide) rfl rfl dX6_isCandidate_1 ?_
  refine lv_iload_n (pc := 4) hx hb dX6_isCandidate_4 rfl (lv_at hl 1 rfl) ?_
  obtain ⟨g1, h⟩ := h
  refine x_ald (pc := 5) C I wR_11 g1 dX6_isCandidate_5 ?_
  refine lv_iconst (pc := 6) (v := 1) hx hb dX6_isCandidate_6 (by decide) ?_
  refine lv_icmp_ne (pc := 7) (tgt := 50) hx hb dX6_isCandidate_7 (by decide) (fun g2 => ?_) (fun g2 => ?_)
  · have h := h.2 g2
    refine lv_iconst (pc := 50) (v := 0) hx hb dX6_isCandidate_50 (by decide) ?_
    exact x_iretz (pc := 51) C I hr hlocks (by decide) h dX6_isCandidate_51
  · have h := h.1 g2
    refine lv_aload_n (pc := 10) hx hb dX6_isCandidate_10 rfl (lv_at hl 0 rfl) ?_
    refine x_get (pc := 11) C I wR_0 rfl inlX6 (k := 22) q_5_5 (by decide) rfl rfl dX6_isCandidate_11 ?_
    refine lv_bipush (pc := 14) (v := 24) hx hb dX6_isCandidate_14 (by decide) ?_
    refine lv_aload_n (pc := 16) hx hb dX6_isCandidate_16 rfl (lv_at hl 0 rfl) ?_
    refine x_get (pc := 17) C I wR_0 rfl inlX6 (k := 11) q_8_7 (by decide) rfl rfl dX6_isCandidate_17 ?_
    refine lv_imul (pc := 20) hx hb dX6_isCandidate_20 ?_
    refine lv_aload_n (pc := 21) hx hb dX6_isCandidate_21 rfl (lv_at hl 0 rfl) ?_
    refine x_get (pc := 22) C I wR_0 rfl inlX6 (k := 14) q_4_21 (by decide) rfl rfl dX6_isCandidate_22 ?_
    refine lv_iload_n (pc := 25) hx hb dX6_isCandidate_25 rfl (lv_at hl 1 rfl) ?_
    obtain ⟨g3, h⟩ := h
    refine x_ald (pc := 26) C I wR_7 g3 dX6_isCandidate_26 ?_
    refine lv_iadd (pc := 27) hx hb dX6_isCandidate_27 ?_
    obtain ⟨g4, h⟩ := h
    refine x_ald (pc := 28) C I wR_15 g4 dX6_isCandidate_28 ?_
    refine lv_iconst (pc := 29) (v := 1) hx hb dX6_isCandidate_29 (by decide) ?_
    refine lv_icmp_ne (pc := 30) (tgt := 50) hx hb dX6_isCandidate_30 (by decide) (fun g5 => ?_) (fun g5 => ?_)
    · have h := h.2 g5
      refine lv_iconst (pc := 50) (v := 0) hx hb dX6_isCandidate_50 (by decide) ?_
      exact x_iretz (pc := 51) C I hr hlocks (by decide) h dX6_isCandidate_51
    · have h := h.1 g5
      refine lv_aload_n (pc := 33) hx hb dX6_isCandidate_33 rfl (lv_at hl 0 rfl) ?_
      refine x_get (pc := 34) C I wR_0 rfl inlX6 (k := 16) q_4_23 (by decide) rfl rfl dX6_isCandidate_34 ?_
      refine lv_iload_n (pc := 37) hx hb dX6_isCandidate_37 rfl (lv_at hl 1 rfl) ?_
      obtain ⟨g6, h⟩ := h
      refine x_ald (pc := 38) C I wR_9 g6 dX6_isCandidate_38 ?_
      refine lv_aload_n (pc := 39) hx hb dX6_isCandidate_39 rfl (lv_at hl 0 rfl) ?_
      refine x_get (pc := 40) C I wR_0 rfl inlX6 (k := 8) q_4_16 (by decide) rfl rfl dX6_isCandidate_40 ?_
      refine lv_icmp_lt (pc := 43) (tgt := 50) hx hb dX6_isCandidate_43 (by decide) (fun g7 => ?_) (fun g7 => ?_)
      · have h := h.1 g7
        refine lv_iconst (pc := 50) (v := 0) hx hb dX6_isCandidate_50 (by decide) ?_
        exact x_iretz (pc := 51) C I hr hlocks (by decide) h dX6_isCandidate_51
      · have h := h.2 g7
        refine lv_iconst (pc := 46) (v := 1) hx hb dX6_isCandidate_46 (by decide) ?_
        refine lv_goto (pc := 47) (tgt := 51) hx hb dX6_isCandidate_47 (by decide) ?_
        exact x_iretz (pc := 51) C I hr hlocks (by decide) h dX6_isCandidate_51
