def V_X5_addNode (M T : xM) (x1 x2 : Int32) (post : Int32 → xM × xM → Prop) : Prop := (V_X5_inRange x1 0 100 (fun r1 => ((r1 = 0 → post (-4) (M, T)) ∧ (¬ r1 = 0 → (V_X5_inRange x2 1 4 (fun r3 => ((r3 = 0 → post (-4) (M, T)) ∧ (¬ r3 = 0 → (V_X2_add M x1 x2 (fun r6 M5 => post r6 (M5, T)))))))))))
set_option maxHeartbeats 4000000 in
set_option maxRecDepth 100000 in
theorem m_X5_addNode {l : Launch} {D : va_G} {cI cZ : ClassId} {x : Nat} {a b : Nat → Nat} {M T : xM} {x1 x2 : Int32} {post : Int32 → xM × xM → Prop} (h : V_X5_addNode M T x1 x2 post) : xMi l yX5_addNode cX5_addNode 3 (some .int) { frames := 1, cells := 0, slots := 0, locals := 23 } D cI cZ (wO cI cZ x a b) (M, T) [.ref x, .int x1, .int x2] post := by
  refine x_bodyi (own := RX5) (by decide) rfl (Nat.le_of_ble_eq_true rfl) ?_
  intro p e s m below meth c A ls C hr hlocks hA I hl
  have hx := C.1.1
  have hb := C.1.2.1
  have hl : lv_has ls 3 [(0, .ref x), (1, .int x1), (2, .int x2)] := hl
  unfold V_X5_addNode at h
  refine lv_iload_n (pc := 0) hx hb dX5_addNode_0 rfl (lv_at hl 1 rfl) ?_
  refine lv_iconst (pc := 1) (v := 0) hx hb dX5_addNode_1 (by decide) ?_
  refine lv_bipush (pc := 2) (v := 100) hx hb dX5_addNode_2 (by decide) ?_
  refine x_calls (pc := 4) C I hA (m_X5_inRange h) c_RX5_19 ⟨Nat.le_of_ble_eq_true rfl, Nat.le_of_ble_eq_true rfl⟩ ⟨rfl, rfl⟩ ⟨Nat.le_of_ble_eq_true rfl, Nat.le_of_ble_eq_true rfl⟩ (As := [.int x1, .int 0, .int 100]) rfl hl.1 rfl (Nat.le_of_ble_eq_true rfl) dX5_addNode_4 (fun r1 u2 H locs h I => ?_)
  obtain ⟨e9, h⟩ := h
  rw [e9] at I
  refine lv_if_eq (pc := 7) (tgt := 19) hx hb dX5_addNode_7 (by decide) (fun g2 => ?_) (fun g2 => ?_)
  · have h := h.1 g2
    refine lv_bipush (pc := 19) (v := (-4)) hx hb dX5_addNode_19 (by decide) ?_
    exact x_ireti (pc := 21) C I hr hlocks h dX5_addNode_21
  · have h := h.2 g2
    refine lv_iload_n (pc := 10) hx hb dX5_addNode_10 rfl (lv_at hl 2 rfl) ?_
    refine lv_iconst (pc := 11) (v := 1) hx hb dX5_addNode_11 (by decide) ?_
    refine lv_iconst (pc := 12) (v := 4) hx hb dX5_addNode_12 (by decide) ?_
    refine x_calls (pc := 13) C I hA (m_X5_inRange h) c_RX5_19 ⟨Nat.le_of_ble_eq_true rfl, Nat.le_of_ble_eq_true rfl⟩ ⟨rfl, rfl⟩ ⟨Nat.le_of_ble_eq_true rfl, Nat.le_of_ble_eq_true rfl⟩ (As := [.int x2, .int 1, .int 4]) rfl hl.1 rfl (Nat.le_of_ble_eq_true rfl) dX5_addNode_13 (fun r3 u2 H locs h I => ?_)
    obtain ⟨e9, h⟩ := h
    rw [e9] at I
    refine lv_if_ne (pc := 16) (tgt := 22) hx hb dX5_addNode_16 (by decide) (fun g4 => ?_) (fun g4 => ?_)
    · have h := h.2 g4
      refine lv_aload_n (pc := 22) hx hb dX5_addNode_22 rfl (lv_at hl 0 rfl) ?_
      refine x_get (pc := 23) C I wO_0 rfl inlX5 (k := 0) q_1_15 (by decide) rfl rfl dX5_addNode_23 ?_
      refine x_get (pc := 26) C I wO_1 rfl inlX1 (k := 1) q_5_14 (by decide) rfl rfl dX5_addNode_26 ?_
      refine lv_iload_n (pc := 29) hx hb dX5_addNode_29 rfl (lv_at hl 1 rfl) ?_
      refine lv_iload_n (pc := 30) hx hb dX5_addNode_30 rfl (lv_at hl 2 rfl) ?_
      refine x_calli (pc := 31) C I hA (x_liftiX [(x, .inr (5, [.ref (a 0), .ref (b 0)]))] (wC cI cZ b T) (fun v => (v, T)) (fun v => rfl) rfl (m_X2_add h)) c_RX5_27 wO_3 rfl ⟨Nat.le_of_ble_eq_true rfl, Nat.le_of_ble_eq_true rfl⟩ ⟨rfl, rfl⟩ ⟨Nat.le_of_ble_eq_true rfl, Nat.le_of_ble_eq_true rfl⟩ (As := [.int x1, .int x2]) rfl hl.1 rfl (Nat.le_of_ble_eq_true rfl) dX5_addNode_31 (fun r6 u2 H locs h I => ?_)
      obtain ⟨M5, rfl, h⟩ := h
      exact x_ireti (pc := 34) C I hr hlocks h dX5_addNode_34
    · have h := h.1 g4
      refine lv_bipush (pc := 19) (v := (-4)) hx hb dX5_addNode_19 (by decide) ?_
      exact x_ireti (pc := 21) C I hr hlocks h dX5_addNode_21
def V_X5_setSpeed (M T : xM) (x1 x2 : Int32) (post : Int32 → xM × xM → Prop) : Prop := (V_X2_has M x1 (fun r2 M1 => ((r2 = 0 → post (-1) (M1, T)) ∧ (¬ r2 = 0 → (V_X5_inRange x2 0 100 (fun r4 => ((r4 = 0 → post (-4) (M1, T)) ∧ (¬ r4 = 0 → (vp_in x1 8 ∧ (∀ y7 : Int32, y7 = (M1 5 (x1).toNatClampNeg) → (vp_in x1 8 ∧ ∀ M9 : xM, M9 = xu M1 5 (x1).toNatClampNeg x2 → post y7 (M9, T))))))))))))
set_option maxHeartbeats 4000000 in
set_option maxRecDepth 100000 in
theorem m_X5_setSpeed {l : Launch} {D : va_G} {cI cZ : ClassId} {x : Nat} {a b : Nat → Nat} {M T : xM} {x1 x2 : Int32} {post : Int32 → xM × xM → Prop} (h : V_X5_setSpeed M T x1 x2 post) : xMi l yX5_setSpeed cX5_setSpeed 4 (some .int) { frames := 1, cells := 0, slots := 0, locals := 22 } D cI cZ (wO cI cZ x a b) (M, T) [.ref x, .int x1, .int x2] post := by
  refine x_bodyi (own := RX5) (by decide) rfl (Nat.le_of_ble_eq_true rfl) ?_
  intro p e s m below meth c A ls C hr hlocks hA I hl
  have hx := C.1.1
  have hb := C.1.2.1
  have hl : lv_has ls 4 [(0, .ref x), (1, .int x1), (2, .int x2)] := hl
  unfold V_X5_setSpeed at h
  refine lv_aload_n (pc := 0) hx hb dX5_setSpeed_0 rfl (lv_at hl 0 rfl) ?_
  refine x_get (pc := 1) C I wO_0 rfl inlX5 (k := 0) q_1_15 (by decide) rfl rfl dX5_setSpeed_1 ?_
  refine x_get (pc := 4) C I wO_1 rfl inlX1 (k := 1) q_5_14 (by decide) rfl rfl dX5_setSpeed_4 ?_
  refine lv_iload_n (pc := 7) hx hb dX5_setSpeed_7 rfl (lv_at hl 1 rfl) ?_
  refine x_calli (pc := 8) C I hA (x_liftiX [(x, .inr (5, [.ref (a 0), .ref (b 0)]))] (wC cI cZ b T) (fun v => (v, T)) (fun v => rfl) rfl (m_X2_has h)) c_RX5_33 wO_3 rfl ⟨Nat.le_of_ble_eq_true rfl, Nat.le_of_ble_eq_true rfl⟩ ⟨rfl, rfl⟩ ⟨Nat.le_of_ble_eq_true rfl, Nat.le_of_ble_eq_true rfl⟩ (As := [.int x1]) rfl hl.1 rfl (Nat.le_of_ble_eq_true rfl) dX5_setSpeed_8 (fun r2 u2 H locs h I => ?_)
  obtain ⟨M1, rfl, h⟩ := h
  refine lv_if_ne (pc := 11) (tgt := 16) hx hb dX5_setSpeed_11 (by decide) (fun g3 => ?_) (fun g3 => ?_)
  · have h := h.2 g3
    refine lv_iload_n (pc := 16) hx hb dX5_setSpeed_16 rfl (lv_at hl 2 rfl) ?_
    refine lv_iconst (pc := 17) (v := 0) hx hb dX5_setSpeed_17 (by decide) ?_
    refine lv_bipush (pc := 18) (v := 100) hx hb dX5_setSpeed_18 (by decide) ?_
    refine x_calls (pc := 20) C I hA (m_X5_inRange h) c_RX5_19 ⟨Nat.le_of_ble_eq_true rfl, Nat.le_of_ble_eq_true rfl⟩ ⟨rfl, rfl⟩ ⟨Nat.le_of_ble_eq_true rfl, Nat.le_of_ble_eq_true rfl⟩ (As := [.int x2, .int 0, .int 100]) rfl hl.1 rfl (Nat.le_of_ble_eq_true rfl) dX5_setSpeed_20 (fun r4 u2 H locs h I => ?_)
    obtain ⟨e9, h⟩ := h
    rw [e9] at I
    refine lv_if_ne (pc := 23) (tgt := 29) hx hb dX5_setSpeed_23 (by decide) (fun g5 => ?_) (fun g5 => ?_)
    · have h := h.2 g5
      refine lv_aload_n (pc := 29) hx hb dX5_setSpeed_29 rfl (lv_at hl 0 rfl) ?_
      refine x_get (pc := 30) C I wO_0 rfl inlX5 (k := 0) q_1_15 (by decide) rfl rfl dX5_setSpeed_30 ?_
      refine x_get (pc := 33) C I wO_1 rfl inlX1 (k := 1) q_5_14 (by decide) rfl rfl dX5_setSpeed_33 ?_
      refine x_get (pc := 36) C I wO_3 rfl inlX2 (k := 1) q_6_10 (by decide) rfl rfl dX5_setSpeed_36 ?_
      refine lv_iload_n (pc := 39) hx hb dX5_setSpeed_39 rfl (lv_at hl 1 rfl) ?_
      obtain ⟨g6, h⟩ := h
      refine x_ald (pc := 40) C I wO_6 g6 dX5_setSpeed_40 ?_
      refine lv_topi (fun y7 ey7 => ?_)
      have h := h y7 ey7
      refine lv_istore_n (pc := 41) (lv' := [(3, .int y7), (0, .ref x), (1, .int x1), (2, .int x2)]) hx hb dX5_setSpeed_41 rfl hl (by decide) rfl (fun ls hl => ?_)
      refine lv_aload_n (pc := 42) hx hb dX5_setSpeed_42 rfl (lv_at hl 1 rfl) ?_
      refine x_get (pc := 43) C I wO_0 rfl inlX5 (k := 0) q_1_15 (by decide) rfl rfl dX5_setSpeed_43 ?_
      refine x_get (pc := 46) C I wO_1 rfl inlX1 (k := 1) q_5_14 (by decide) rfl rfl dX5_setSpeed_46 ?_
      refine x_get (pc := 49) C I wO_3 rfl inlX2 (k := 1) q_6_10 (by decide) rfl rfl dX5_setSpeed_49 ?_
      refine lv_iload_n (pc := 52) hx hb dX5_setSpeed_52 rfl (lv_at hl 2 rfl) ?_
      refine lv_iload_n (pc := 53) hx hb dX5_setSpeed_53 rfl (lv_at hl 3 rfl) ?_
      obtain ⟨g8, h⟩ := h
      refine x_ast (pc := 54) C I wO_6 g8 sO_6 dX5_setSpeed_54 (fun H locs I => ?_)
      obtain ⟨M9, eM9⟩ : ∃ z : xM, z = xu M1 5 (x1).toNatClampNeg x2 := ⟨_, rfl⟩
      have h := h M9 eM9
      rw [← eM9] at I
      refine lv_iload_n (pc := 55) hx hb dX5_setSpeed_55 rfl (lv_at hl 0 rfl) ?_
      exact x_ireti (pc := 56) C I hr hlocks h dX5_setSpeed_56
    · have h := h.1 g5
      refine lv_bipush (pc := 26) (v := (-4)) hx hb dX5_setSpeed_26 (by decide) ?_
      exact x_ireti (pc := 28) C I hr hlocks h dX5_setSpeed_28
  · have h := h.1 g3
    refine lv_iconst (pc := 14) (v := (-1)) hx hb dX5_setSpeed_14 (by decide) ?_
    exact x_ireti (pc := 15) C I hr hlocks h dX5_setSpeed_15
def V_X5_failNode (M T : xM) (x1 : Int32) (post : Int32 → xM × xM → Prop) : Prop := (V_X2_has M x1 (fun r2 M1 => ((r2 = 0 → post (-1) (M1, T)) ∧ (¬ r2 = 0 → (vp_in x1 8 ∧ (((M1 7 (x1).toNatClampNeg) = 0 → post (-6) (M1, T)) ∧ (¬ (M1 7 (x1).toNatClampNeg) = 0 → (vp_in x1 8 ∧ ∀ M7 : xM, M7 = xu M1 7 (x1).toNatClampNeg (vp_nar .boolean 0) → (V_X1_loseAttemptsOn M7 x1 (fun r9 M8 => post r9 (M8, T)))))))))))
set_option maxHeartbeats 4000000 in
set_option maxRecDepth 100000 in
theorem m_X5_failNode {l : Launch} {D : va_G} {cI cZ : ClassId} {x : Nat} {a b : Nat → Nat} {M T : xM} {x1 : Int32} {post : Int32 → xM × xM → Prop} (h : V_X5_failNode M T x1 post) : xMi l yX5_failNode cX5_failNode 2 (some .int) { frames := 2, cells := 0, slots := 0, locals := 47 } D cI cZ (wO cI cZ x a b) (M, T) [.ref x, .int x1] post := by
  refine x_bodyi (own := RX5) (by decide) rfl (Nat.le_of_ble_eq_true rfl) ?_
  intro p e s m below meth c A ls C hr hlocks hA I hl
  have hx := C.1.1
  have hb := C.1.2.1
  have hl : lv_has ls 2 [(0, .ref x), (1, .int x1)] := hl
  unfold V_X5_failNode at h
  refine lv_aload_n (pc := 0) hx hb dX5_failNode_0 rfl (lv_at hl 0 rfl) ?_
  refine x_get (pc := 1) C I wO_0 rfl inlX5 (k := 0) q_1_15 (by decide) rfl rfl dX5_failNode_1 ?_
  refine x_get (pc := 4) C I wO_1 rfl inlX1 (k := 1) q_5_14 (by decide) rfl rfl dX5_failNode_4 ?_
  refine lv_iload_n (pc := 7) hx hb dX5_failNode_7 rfl (lv_at hl 1 rfl) ?_
  refine x_calli (pc := 8) C I hA (x_liftiX [(x, .inr (5, [.ref (a 0), .ref (b 0)]))] (wC cI cZ b T) (fun v => (v, T)) (fun v => rfl) rfl (m_X2_has h)) c_RX5_33 wO_3 rfl ⟨Nat.le_of_ble_eq_true rfl, Nat.le_of_ble_eq_true rfl⟩ ⟨rfl, rfl⟩ ⟨Nat.le_of_ble_eq_true rfl, Nat.le_of_ble_eq_true rfl⟩ (As := [.int x1]) rfl hl.1 rfl (Nat.le_of_ble_eq_true rfl) dX5_failNode_8 (fun r2 u2 H locs h I => ?_)
  obtain ⟨M1, rfl, h⟩ := h
  refine lv_if_ne (pc := 11) (tgt := 16) hx hb dX5_failNode_11 (by decide) (fun g3 => ?_) (fun g3 => ?_)
  · have h := h.2 g3
    refine lv_aload_n (pc := 16) hx hb dX5_failNode_16 rfl (lv_at hl 0 rfl) ?_
    refine x_get (pc := 17) C I wO_0 rfl inlX5 (k := 0) q_1_15 (by decide) rfl rfl dX5_failNode_17 ?_
    refine x_get (pc := 20) C I wO_1 rfl inlX1 (k := 1) q_5_14 (by decide) rfl rfl dX5_failNode_20 ?_
    refine x_get (pc := 23) C I wO_3 rfl inlX2 (k := 3) q_7_3 (by decide) rfl rfl dX5_failNode_23 ?_
    refine lv_iload_n (pc := 26) hx hb dX5_failNode_26 rfl (lv_at hl 1 rfl) ?_
    obtain ⟨g4, h⟩ := h
    refine x_zld (pc := 27) C I wO_8 g4 dX5_failNode_27 ?_
    refine lv_if_ne (pc := 28) (tgt := 34) hx hb dX5_failNode_28 (by decide) (fun g5 => ?_) (fun g5 => ?_)
    · have h := h.2 g5
      refine lv_aload_n (pc := 34) hx hb dX5_failNode_34 rfl (lv_at hl 0 rfl) ?_
      refine x_get (pc := 35) C I wO_0 rfl inlX5 (k := 0) q_1_15 (by decide) rfl rfl dX5_failNode_35 ?_
      refine x_get (pc := 38) C I wO_1 rfl inlX1 (k := 1) q_5_14 (by decide) rfl rfl dX5_failNode_38 ?_
      refine x_get (pc := 41) C I wO_3 rfl inlX2 (k := 3) q_7_3 (by decide) rfl rfl dX5_failNode_41 ?_
      refine lv_iload_n (pc := 44) hx hb dX5_failNode_44 rfl (lv_at hl 1 rfl) ?_
      refine lv_iconst (pc := 45) (v := 0) hx hb dX5_failNode_45 (by decide) ?_
      obtain ⟨g6, h⟩ := h
      refine x_zst (pc := 46) C I wO_8 g6 sO_8 dX5_failNode_46 (fun H locs I => ?_)
      obtain ⟨M7, eM7⟩ : ∃ z : xM, z = xu M1 7 (x1).toNatClampNeg (vp_nar .boolean 0) := ⟨_, rfl⟩
      have h := h M7 eM7
      rw [← eM7] at I
      refine lv_aload_n (pc := 47) hx hb dX5_failNode_47 rfl (lv_at hl 0 rfl) ?_
      refine x_get (pc := 48) C I wO_0 rfl inlX5 (k := 0) q_1_15 (by decide) rfl rfl dX5_failNode_48 ?_
      refine lv_iload_n (pc := 51) hx hb dX5_failNode_51 rfl (lv_at hl 1 rfl) ?_
      refine x_calli (pc := 52) C I hA (x_liftiX [(x, .inr (5, [.ref (a 0), .ref (b 0)]))] (wC cI cZ b T) (fun v => (v, T)) (fun v => rfl) rfl (m_X1_loseAttemptsOn h)) c_RX5_45 wO_1 rfl ⟨Nat.le_of_ble_eq_true rfl, Nat.le_of_ble_eq_true rfl⟩ ⟨rfl, rfl⟩ ⟨Nat.le_of_ble_eq_true rfl, Nat.le_of_ble_eq_true rfl⟩ (As := [.int x1]) rfl hl.1 rfl (Nat.le_of_ble_eq_true rfl) dX5_failNode_52 (fun r9 u2 H locs h I => ?_)
      obtain ⟨M8, rfl, h⟩ := h
      exact x_ireti (pc := 55) C I hr hlocks h dX5_failNode_55
    · have h := h.1 g5
      refine lv_bipush (pc := 31) (v := (-6)) hx hb dX5_failNode_31 (by decide) ?_
      exact x_ireti (pc := 33) C I hr hlocks h dX5_failNode_33
  · have h := h.1 g3
    refine lv_iconst (pc := 14) (v := (-1)) hx hb dX5_failNode_14 (by decide) ?_
    exact x_ireti (pc := 15) C I hr hlocks h dX5_failNode_15
def V_X5_repairNode (M T : xM) (x1 : Int32) (post : Int32 → xM × xM → Prop) : Prop := (V_X2_has M x1 (fun r2 M1 => ((r2 = 0 → post (-1) (M1, T)) ∧ (¬ r2 = 0 → (vp_in x1 8 ∧ (((M1 7 (x1).toNatClampNeg) = 0 → (vp_in x1 8 ∧ ∀ M7 : xM, M7 = xu M1 7 (x1).toNatClampNeg (vp_nar .boolean 1) → post 1 (M7, T))) ∧ (¬ (M1 7 (x1).toNatClampNeg) = 0 → (vp_in x1 8 ∧ ∀ M9 : xM, M9 = xu M1 7 (x1).toNatClampNeg (vp_nar .boolean 1) → post 0 (M9, T)))))))))
set_option maxHeartbeats 4000000 in
set_option maxRecDepth 100000 in
theorem m_X5_repairNode {l : Launch} {D : va_G} {cI cZ : ClassId} {x : Nat} {a b : Nat → Nat} {M T : xM} {x1 : Int32} {post : Int32 → xM × xM → Prop} (h : V_X5_repairNode M T x1 post) : xMi l yX5_repairNode cX5_repairNode 3 (some .int) { frames := 1, cells := 0, slots := 0, locals := 21 } D cI cZ (wO cI cZ x a b) (M, T) [.ref x, .int x1] post := by
  refine x_bodyi (own := RX5) (by decide) rfl (Nat.le_of_ble_eq_true rfl) ?_
  intro p e s m below meth c A ls C hr hlocks hA I hl
  have hx := C.1.1
  have hb := C.1.2.1
  have hl : lv_has ls 3 [(0, .ref x), (1, .int x1)] := hl
  unfold V_X5_repairNode at h
  refine lv_aload_n (pc := 0) hx hb dX5_repairNode_0 rfl (lv_at hl 0 rfl) ?_
  refine x_get (pc := 1) C I wO_0 rfl inlX5 (k := 0) q_1_15 (by decide) rfl rfl dX5_repairNode_1 ?_
  refine x_get (pc := 4) C I wO_1 rfl inlX1 (k := 1) q_5_14 (by decide) rfl rfl dX5_repairNode_4 ?_
  refine lv_iload_n (pc := 7) hx hb dX5_repairNode_7 rfl (lv_at hl 1 rfl) ?_
  refine x_calli (pc := 8) C I hA (x_liftiX [(x, .inr (5, [.ref (a 0), .ref (b 0)]))] (wC cI cZ b T) (fun v => (v, T)) (fun v => rfl) rfl (m_X2_has h)) c_RX5_33 wO_3 rfl ⟨Nat.le_of_ble_eq_true rfl, Nat.le_of_ble_eq_true rfl⟩ ⟨rfl, rfl⟩ ⟨Nat.le_of_ble_eq_true rfl, Nat.le_of_ble_eq_true rfl⟩ (As := [.int x1]) rfl hl.1 rfl (Nat.le_of_ble_eq_true rfl) dX5_repairNode_8 (fun r2 u2 H locs h I => ?_)
  obtain ⟨M1, rfl, h⟩ := h
  refine lv_if_ne (pc := 11) (tgt := 16) hx hb dX5_repairNode_11 (by decide) (fun g3 => ?_) (fun g3 => ?_)
  · have h := h.2 g3
    refine lv_aload_n (pc := 16) hx hb dX5_repairNode_16 rfl (lv_at hl 0 rfl) ?_
    refine x_get (pc := 17) C I wO_0 rfl inlX5 (k := 0) q_1_15 (by decide) rfl rfl dX5_repairNode_17 ?_
    refine x_get (pc := 20) C I wO_1 rfl inlX1 (k := 1) q_5_14 (by decide) rfl rfl dX5_repairNode_20 ?_
    refine x_get (pc := 23) C I wO_3 rfl inlX2 (k := 3) q_7_3 (by decide) rfl rfl dX5_repairNode_23 ?_
    refine lv_iload_n (pc := 26) hx hb dX5_repairNode_26 rfl (lv_at hl 1 rfl) ?_
    obtain ⟨g4, h⟩ := h
    refine x_zld (pc := 27) C I wO_8 g4 dX5_repairNode_27 ?_
    refine lv_if_eq (pc := 28) (tgt := 35) hx hb dX5_repairNode_28 (by decide) (fun g5 => ?_) (fun g5 => ?_)
    · have h := h.1 g5
      refine lv_iconst (pc := 35) (v := 1) hx hb dX5_repairNode_35 (by decide) ?_
      refine lv_istore_n (pc := 36) (lv' := [(2, .int 1), (0, .ref x), (1, .int x1)]) hx hb dX5_repairNode_36 rfl hl (by decide) rfl (fun ls hl => ?_)
      refine lv_aload_n (pc := 37) hx hb dX5_repairNode_37 rfl (lv_at hl 1 rfl) ?_
      refine x_get (pc := 38) C I wO_0 rfl inlX5 (k := 0) q_1_15 (by decide) rfl rfl dX5_repairNode_38 ?_
      refine x_get (pc := 41) C I wO_1 rfl inlX1 (k := 1) q_5_14 (by decide) rfl rfl dX5_repairNode_41 ?_
      refine x_get (pc := 44) C I wO_3 rfl inlX2 (k := 3) q_7_3 (by decide) rfl rfl dX5_repairNode_44 ?_
      refine lv_iload_n (pc := 47) hx hb dX5_repairNode_47 rfl (lv_at hl 2 rfl) ?_
      refine lv_iconst (pc := 48) (v := 1) hx hb dX5_repairNode_48 (by decide) ?_
      obtain ⟨g6, h⟩ := h
      refine x_zst (pc := 49) C I wO_8 g6 sO_8 dX5_repairNode_49 (fun H locs I => ?_)
      obtain ⟨M7, eM7⟩ : ∃ z : xM, z = xu M1 7 (x1).toNatClampNeg (vp_nar .boolean 1) := ⟨_, rfl⟩
      have h := h M7 eM7
      rw [← eM7] at I
      refine lv_iload_n (pc := 50) hx hb dX5_repairNode_50 rfl (lv_at hl 0 rfl) ?_
      exact x_ireti (pc := 51) C I hr hlocks h dX5_repairNode_51
    · have h := h.2 g5
      refine lv_iconst (pc := 31) (v := 0) hx hb dX5_repairNode_31 (by decide) ?_
      refine lv_goto (pc := 32) (tgt := 36) hx hb dX5_repairNode_32 (by decide) ?_
      refine lv_istore_n (pc := 36) (lv' := [(2, .int 0), (0, .ref x), (1, .int x1)]) hx hb dX5_repairNode_36 rfl hl (by decide) rfl (fun ls hl => ?_)
      refine lv_aload_n (pc := 37) hx hb dX5_repairNode_37 rfl (lv_at hl 1 rfl) ?_
      refine x_get (pc := 38) C I wO_0 rfl inlX5 (k := 0) q_1_15 (by decide) rfl rfl dX5_repairNode_38 ?_
      refine x_get (pc := 41) C I wO_1 rfl inlX1 (k := 1) q_5_14 (by decide) rfl rfl dX5_repairNode_41 ?_
      refine x_get (pc := 44) C I wO_3 rfl inlX2 (k := 3) q_7_3 (by decide) rfl rfl dX5_repairNode_44 ?_
      refine lv_iload_n (pc := 47) hx hb dX5_repairNode_47 rfl (lv_at hl 2 rfl) ?_
      refine lv_iconst (pc := 48) (v := 1) hx hb dX5_repairNode_48 (by decide) ?_
      obtain ⟨g8, h⟩ := h
      refine x_zst (pc := 49) C I wO_8 g8 sO_8 dX5_repairNode_49 (fun H locs I => ?_)
      obtain ⟨M9, eM9⟩ : ∃ z : xM, z = xu M1 7 (x1).toNatClampNeg (vp_nar .boolean 1) := ⟨_, rfl⟩
      have h := h M9 eM9
      rw [← eM9] at I
      refine lv_iload_n (pc := 50) hx hb dX5_repairNode_50 rfl (lv_at hl 0 rfl) ?_
      exact x_ireti (pc := 51) C I hr hlocks h dX5_repairNode_51
  · have h := h.1 g3
    refine lv_iconst (pc := 14) (v := (-1)) hx hb dX5_repairNode_14 (by decide) ?_
    exact x_ireti (pc := 15) C I hr hlocks h dX5_repairNode_15
def V_X5_addTask (M T : xM) (x1 : Int32) (post : Int32 → xM × xM → Prop) : Prop := (V_X5_inRange x1 1 10000 (fun r1 => ((r1 = 0 → post (-4) (M, T)) ∧ (¬ r1 = 0 → (V_X4_add M x1 (fun r4 M3 => post r4 (M3, T)))))))
set_option maxHeartbeats 4000000 in
set_option maxRecDepth 100000 in
theorem m_X5_addTask {l : Launch} {D : va_G} {cI cZ : ClassId} {x : Nat} {a b : Nat → Nat} {M T : xM} {x1 : Int32} {post : Int32 → xM × xM → Prop} (h : V_X5_addTask M T x1 post) : xMi l yX5_addTask cX5_addTask 2 (some .int) { frames := 1, cells := 0, slots := 0, locals := 22 } D cI cZ (wO cI cZ x a b) (M, T) [.ref x, .int x1] post := by
  refine x_bodyi (own := RX5) (by decide) rfl (Nat.le_of_ble_eq_true rfl) ?_
  intro p e s m below meth c A ls C hr hlocks hA I hl
  have hx := C.1.1
  have hb := C.1.2.1
  have hl : lv_has ls 2 [(0, .ref x), (1, .int x1)] := hl
  unfold V_X5_addTask at h
  refine lv_iload_n (pc := 0) hx hb dX5_addTask_0 rfl (lv_at hl 1 rfl) ?_
  refine lv_iconst (pc := 1) (v := 1) hx hb dX5_addTask_1 (by decide) ?_
  refine lv_sipush (pc := 2) (v := 10000) hx hb dX5_addTask_2 (by decide) ?_
  refine x_calls (pc := 5) C I hA (m_X5_inRange h) c_RX5_19 ⟨Nat.le_of_ble_eq_true rfl, Nat.le_of_ble_eq_true rfl⟩ ⟨rfl, rfl⟩ ⟨Nat.le_of_ble_eq_true rfl, Nat.le_of_ble_eq_true rfl⟩ (As := [.int x1, .int 1, .int 10000]) rfl hl.1 rfl (Nat.le_of_ble_eq_true rfl) dX5_addTask_5 (fun r1 u2 H locs h I => ?_)
  obtain ⟨e9, h⟩ := h
  rw [e9] at I
  refine lv_if_ne (pc := 8) (tgt := 14) hx hb dX5_addTask_8 (by decide) (fun g2 => ?_) (fun g2 => ?_)
  · have h := h.2 g2
    refine lv_aload_n (pc := 14) hx hb dX5_addTask_14 rfl (lv_at hl 0 rfl) ?_
    refine x_get (pc := 15) C I wO_0 rfl inlX5 (k := 0) q_1_15 (by decide) rfl rfl dX5_addTask_15 ?_
    refine x_get (pc := 18) C I wO_1 rfl inlX1 (k := 2) q_8_20 (by decide) rfl rfl dX5_addTask_18 ?_
    refine lv_iload_n (pc := 21) hx hb dX5_addTask_21 rfl (lv_at hl 1 rfl) ?_
    refine x_calli (pc := 22) C I hA (x_liftiX [(x, .inr (5, [.ref (a 0), .ref (b 0)]))] (wC cI cZ b T) (fun v => (v, T)) (fun v => rfl) rfl (m_X4_add h)) c_RX5_53 wO_4 rfl ⟨Nat.le_of_ble_eq_true rfl, Nat.le_of_ble_eq_true rfl⟩ ⟨rfl, rfl⟩ ⟨Nat.le_of_ble_eq_true rfl, Nat.le_of_ble_eq_true rfl⟩ (As := [.int x1]) rfl hl.1 rfl (Nat.le_of_ble_eq_true rfl) dX5_addTask_22 (fun r4 u2 H locs h I => ?_)
    obtain ⟨M3, rfl, h⟩ := h
    exact x_ireti (pc := 25) C I hr hlocks h dX5_addTask_25
  · have h := h.1 g2
    refine lv_bipush (pc := 11) (v := (-4)) hx hb dX5_addTask_11 (by decide) ?_
    exact x_ireti (pc := 13) C I hr hlocks h dX5_addTask_13
def V_X5_setPolicy (M T : xM) (x1 : Int32) (post : Int32 → xM × xM → Prop) : Prop := (V_X5_isPolicy x1 (fun r1 => ((r1 = 0 → post (-4) (M, T)) ∧ (¬ r1 = 0 → (∀ y3 : Int32, y3 = (M 1 0) → (∀ M4 : xM, M4 = xu M 1 0 x1 → post y3 (M4, T)))))))
set_option maxHeartbeats 4000000 in
set_option maxRecDepth 100000 in
theorem m_X5_setPolicy {l : Launch} {D : va_G} {cI cZ : ClassId} {x : Nat} {a b : Nat → Nat} {M T : xM} {x1 : Int32} {post : Int32 → xM × xM → Prop} (h : V_X5_setPolicy M T x1 post) : xMi l yX5_setPolicy cX5_setPolicy 3 (some .int) { frames := 1, cells := 0, slots := 0, locals := 20 } D cI cZ (wO cI cZ x a b) (M, T) [.ref x, .int x1] post := by
  refine x_bodyi (own := RX5) (by decide) rfl (Nat.le_of_ble_eq_true rfl) ?_
  intro p e s m below meth c A ls C hr hlocks hA I hl
  have hx := C.1.1
  have hb := C.1.2.1
  have hl : lv_has ls 3 [(0, .ref x), (1, .int x1)] := hl
  unfold V_X5_setPolicy at h
  refine lv_iload_n (pc := 0) hx hb dX5_setPolicy_0 rfl (lv_at hl 1 rfl) ?_
  refine x_calls (pc := 1) C I hA (m_X5_isPolicy h) c_RX5_57 ⟨Nat.le_of_ble_eq_true rfl, Nat.le_of_ble_eq_true rfl⟩ ⟨rfl, rfl⟩ ⟨Nat.le_of_ble_eq_true rfl, Nat.le_of_ble_eq_true rfl⟩ (As := [.int x1]) rfl hl.1 rfl (Nat.le_of_ble_eq_true rfl) dX5_setPolicy_1 (fun r1 u2 H locs h I => ?_)
  obtain ⟨e9, h⟩ := h
  rw [e9] at I
  refine lv_if_ne (pc := 4) (tgt := 10) hx hb dX5_setPolicy_4 (by decide) (fun g2 => ?_) (fun g2 => ?_)
  · have h := h.2 g2
    refine lv_aload_n (pc := 10) hx hb dX5_setPolicy_10 rfl (lv_at hl 0 rfl) ?_
    refine x_get (pc := 11) C I wO_0 rfl inlX5 (k := 0) q_1_15 (by decide) rfl rfl dX5_setPolicy_11 ?_
    refine x_get (pc := 14) C I wO_1 rfl inlX1 (k := 0) q_9_10 (by decide) rfl rfl dX5_setPolicy_14 ?_
    refine x_get (pc := 17) C I wO_2 rfl inlX3 (k := 0) q_9_11 (by decide) rfl rfl dX5_setPolicy_17 ?_
    refine lv_topi (fun y3 ey3 => ?_)
    have h := h y3 ey3
    refine lv_istore_n (pc := 20) (lv' := [(2, .int y3), (0, .ref x), (1, .int x1)]) hx hb dX5_setPolicy_20 rfl hl (by decide) rfl (fun ls hl => ?_)
    refine lv_aload_n (pc := 21) hx hb dX5_setPolicy_21 rfl (lv_at hl 1 rfl) ?_
    refine x_get (pc := 22) C I wO_0 rfl inlX5 (k := 0) q_1_15 (by decide) rfl rfl dX5_setPolicy_22 ?_
    refine x_get (pc := 25) C I wO_1 rfl inlX1 (k := 0) q_9_10 (by decide) rfl rfl dX5_setPolicy_25 ?_
    refine lv_iload_n (pc := 28) hx hb dX5_setPolicy_28 rfl (lv_at hl 2 rfl) ?_
    refine x_puti (pc := 29) C I wO_2 rfl inlX3 tyX3_ok nmX3 (k := 0) q_9_11 (by decide) rfl rfl rfl (Nat.le_of_ble_eq_true rfl) sO_2_0 dX5_setPolicy_29 (fun H locs I => ?_)
    obtain ⟨M4, eM4⟩ : ∃ z : xM, z = xu M 1 0 x1 := ⟨_, rfl⟩
    have h := h M4 eM4
    rw [← eM4] at I
    refine lv_iload_n (pc := 32) hx hb dX5_setPolicy_32 rfl (lv_at hl 0 rfl) ?_
    exact x_ireti (pc := 33) C I hr hlocks h dX5_setPolicy_33
  · have h := h.1 g2
    refine lv_bipush (pc := 7) (v := (-4)) hx hb dX5_setPolicy_7 (by decide) ?_
    exact x_ireti (pc := 9) C I hr hlocks h dX5_setPolicy_9
def V_X5_setLimits (M T : xM) (x1 x2 : Int32) (post : Int32 → xM × xM → Prop) : Prop := (V_X5_inRange x1 0 32 (fun r1 => ((r1 = 0 → post (-4) (M, T)) ∧ (¬ r1 = 0 → (V_X5_inRange x2 0 100 (fun r3 => ((r3 = 0 → post (-4) (M, T)) ∧ (¬ r3 = 0 → (((M 1 1) = x1 → (((M 1 2) = x2 → (∀ M9 : xM, M9 = xu M 1 1 x1 → (∀ M10 : xM, M10 = xu M9 1 2 x2 → post 0 (M10, T)))) ∧ (¬ (M 1 2) = x2 → (∀ M11 : xM, M11 = xu M 1 1 x1 → (∀ M12 : xM, M12 = xu M11 1 2 x2 → post 1 (M12, T)))))) ∧ (¬ (M 1 1) = x1 → (∀ M6 : xM, M6 = xu M 1 1 x1 → (∀ M7 : xM, M7 = xu M6 1 2 x2 → post 1 (M7, T)))))))))))))
set_option maxHeartbeats 4000000 in
set_option maxRecDepth 100000 in
theorem m_X5_setLimits {l : Launch} {D : va_G} {cI cZ : ClassId} {x : Nat} {a b : Nat → Nat} {M T : xM} {x1 x2 : Int32} {post : Int32 → xM × xM → Prop} (h : V_X5_setLimits M T x1 x2 post) : xMi l yX5_setLimits cX5_setLimits 5 (some .int) { frames := 1, cells := 0, slots := 0, locals := 22 } D cI cZ (wO cI cZ x a b) (M, T) [.ref x, .int x1, .int x2] post := by
  refine x_bodyi (own := RX5) (by decide) rfl (Nat.le_of_ble_eq_true rfl) ?_
  intro p e s m below meth c A ls C hr hlocks hA I hl
  have hx := C.1.1
  have hb := C.1.2.1
  have hl : lv_has ls 5 [(0, .ref x), (1, .int x1), (2, .int x2)] := hl
  unfold V_X5_setLimits at h
  refine lv_iload_n (pc := 0) hx hb dX5_setLimits_0 rfl (lv_at hl 1 rfl) ?_
  refine lv_iconst (pc := 1) (v := 0) hx hb dX5_setLimits_1 (by decide) ?_
  refine lv_bipush (pc := 2) (v := 32) hx hb dX5_setLimits_2 (by decide) ?_
  refine x_calls (pc := 4) C I hA (m_X5_inRange h) c_RX5_19 ⟨Nat.le_of_ble_eq_true rfl, Nat.le_of_ble_eq_true rfl⟩ ⟨rfl, rfl⟩ ⟨Nat.le_of_ble_eq_true rfl, Nat.le_of_ble_eq_true rfl⟩ (As := [.int x1, .int 0, .int 32]) rfl hl.1 rfl (Nat.le_of_ble_eq_true rfl) dX5_setLimits_4 (fun r1 u2 H locs h I => ?_)
  obtain ⟨e9, h⟩ := h
  rw [e9] at I
  refine lv_if_eq (pc := 7) (tgt := 20) hx hb dX5_setLimits_7 (by decide) (fun g2 => ?_) (fun g2 => ?_)
  · have h := h.1 g2
    refine lv_bipush (pc := 20) (v := (-4)) hx hb dX5_setLimits_20 (by decide) ?_
    exact x_ireti (pc := 22) C I hr hlocks h dX5_setLimits_22
  · have h := h.2 g2
    refine lv_iload_n (pc := 10) hx hb dX5_setLimits_10 rfl (lv_at hl 2 rfl) ?_
    refine lv_iconst (pc := 11) (v := 0) hx hb dX5_setLimits_11 (by decide) ?_
    refine lv_bipush (pc := 12) (v := 100) hx hb dX5_setLimits_12 (by decide) ?_
    refine x_calls (pc := 14) C I hA (m_X5_inRange h) c_RX5_19 ⟨Nat.le_of_ble_eq_true rfl, Nat.le_of_ble_eq_true rfl⟩ ⟨rfl, rfl⟩ ⟨Nat.le_of_ble_eq_true rfl, Nat.le_of_ble_eq_true rfl⟩ (As := [.int x2, .int 0, .int 100]) rfl hl.1 rfl (Nat.le_of_ble_eq_true rfl) dX5_setLimits_14 (fun r3 u2 H locs h I => ?_)
    obtain ⟨e9, h⟩ := h
    rw [e9] at I
    refine lv_if_ne (pc := 17) (tgt := 23) hx hb dX5_setLimits_17 (by decide) (fun g4 => ?_) (fun g4 => ?_)
    · have h := h.2 g4
      refine lv_aload_n (pc := 23) hx hb dX5_setLimits_23 rfl (lv_at hl 0 rfl) ?_
      refine x_get (pc := 24) C I wO_0 rfl inlX5 (k := 0) q_1_15 (by decide) rfl rfl dX5_setLimits_24 ?_
      refine x_get (pc := 27) C I wO_1 rfl inlX1 (k := 0) q_9_10 (by decide) rfl rfl dX5_setLimits_27 ?_
      refine lv_astore_n (pc := 30) (lv' := [(3, .ref (a 1)), (0, .ref x), (1, .int x1), (2, .int x2)]) hx hb dX5_setLimits_30 rfl hl (by decide) rfl (fun ls hl => ?_)
      refine lv_aload_n (pc := 31) hx hb dX5_setLimits_31 rfl (lv_at hl 0 rfl) ?_
      refine x_get (pc := 32) C I wO_2 rfl inlX3 (k := 1) q_9_23 (by decide) rfl rfl dX5_setLimits_32 ?_
      refine lv_iload_n (pc := 35) hx hb dX5_setLimits_35 rfl (lv_at hl 2 rfl) ?_
      refine lv_icmp_ne (pc := 36) (tgt := 47) hx hb dX5_setLimits_36 (by decide) (fun g5 => ?_) (fun g5 => ?_)
      · have h := h.2 g5
        refine lv_iconst (pc := 47) (v := 1) hx hb dX5_setLimits_47 (by decide) ?_
        refine lv_goto (pc := 48) (tgt := 52) hx hb dX5_setLimits_48 (by decide) ?_
        refine lv_istore (pc := 52) (lv' := [(4, .int 1), (3, .ref (a 1)), (0, .ref x), (1, .int x1), (2, .int x2)]) hx hb dX5_setLimits_52 hl (by decide) rfl (fun ls hl => ?_)
        refine lv_aload_n (pc := 54) hx hb dX5_setLimits_54 rfl (lv_at hl 1 rfl) ?_
        refine lv_iload_n (pc := 55) hx hb dX5_setLimits_55 rfl (lv_at hl 3 rfl) ?_
        refine x_puti (pc := 56) C I wO_2 rfl inlX3 tyX3_ok nmX3 (k := 1) q_9_23 (by decide) rfl rfl rfl (Nat.le_of_ble_eq_true rfl) sO_2_1 dX5_setLimits_56 (fun H locs I => ?_)
        obtain ⟨M6, eM6⟩ : ∃ z : xM, z = xu M 1 1 x1 := ⟨_, rfl⟩
        have h := h M6 eM6
        rw [← eM6] at I
        refine lv_aload_n (pc := 59) hx hb dX5_setLimits_59 rfl (lv_at hl 1 rfl) ?_
        refine lv_iload_n (pc := 60) hx hb dX5_setLimits_60 rfl (lv_at hl 4 rfl) ?_
        refine x_puti (pc := 61) C I wO_2 rfl inlX3 tyX3_ok nmX3 (k := 2) q_10_0 (by decide) rfl rfl rfl (Nat.le_of_ble_eq_true rfl) sO_2_2 dX5_setLimits_61 (fun H locs I => ?_)
        obtain ⟨M7, eM7⟩ : ∃ z : xM, z = xu M6 1 2 x2 := ⟨_, rfl⟩
        have h := h M7 eM7
        rw [← eM7] at I
        refine lv_iload (pc := 64) hx hb dX5_setLimits_64 (lv_at hl 0 rfl) ?_
        refine lv_if_eq (pc := 66) (tgt := 73) hx hb dX5_setLimits_66 (by decide) (fun g => absurd g (by decide)) (fun _ => ?_)
        refine lv_iconst (pc := 69) (v := 1) hx hb dX5_setLimits_69 (by decide) ?_
        refine lv_goto (pc := 70) (tgt := 74) hx hb dX5_setLimits_70 (by decide) ?_
        exact x_ireti (pc := 74) C I hr hlocks h dX5_setLimits_74
      · have h := h.1 g5
        refine lv_aload_n (pc := 39) hx hb dX5_setLimits_39 rfl (lv_at hl 0 rfl) ?_
        refine x_get (pc := 40) C I wO_2 rfl inlX3 (k := 2) q_10_0 (by decide) rfl rfl dX5_setLimits_40 ?_
        refine lv_iload_n (pc := 43) hx hb dX5_setLimits_43 rfl (lv_at hl 3 rfl) ?_
        refine lv_icmp_eq (pc := 44) (tgt := 51) hx hb dX5_setLimits_44 (by decide) (fun g8 => ?_) (fun g8 => ?_)
        · have h := h.1 g8
          refine lv_iconst (pc := 51) (v := 0) hx hb dX5_setLimits_51 (by decide) ?_
          refine lv_istore (pc := 52) (lv' := [(4, .int 0), (3, .ref (a 1)), (0, .ref x), (1, .int x1), (2, .int x2)]) hx hb dX5_setLimits_52 hl (by decide) rfl (fun ls hl => ?_)
          refine lv_aload_n (pc := 54) hx hb dX5_setLimits_54 rfl (lv_at hl 1 rfl) ?_
          refine lv_iload_n (pc := 55) hx hb dX5_setLimits_55 rfl (lv_at hl 3 rfl) ?_
          refine x_puti (pc := 56) C I wO_2 rfl inlX3 tyX3_ok nmX3 (k := 1) q_9_23 (by decide) rfl rfl rfl (Nat.le_of_ble_eq_true rfl) sO_2_1 dX5_setLimits_56 (fun H locs I => ?_)
          obtain ⟨M9, eM9⟩ : ∃ z : xM, z = xu M 1 1 x1 := ⟨_, rfl⟩
          have h := h M9 eM9
          rw [← eM9] at I
          refine lv_aload_n (pc := 59) hx hb dX5_setLimits_59 rfl (lv_at hl 1 rfl) ?_
          refine lv_iload_n (pc := 60) hx hb dX5_setLimits_60 rfl (lv_at hl 4 rfl) ?_
          refine x_puti (pc := 61) C I wO_2 rfl inlX3 tyX3_ok nmX3 (k := 2) q_10_0 (by decide) rfl rfl rfl (Nat.le_of_ble_eq_true rfl) sO_2_2 dX5_setLimits_61 (fun H locs I => ?_)
          obtain ⟨M10, eM10⟩ : ∃ z : xM, z = xu M9 1 2 x2 := ⟨_, rfl⟩
          have h := h M10 eM10
          rw [← eM10] at I
          refine lv_iload (pc := 64) hx hb dX5_setLimits_64 (lv_at hl 0 rfl) ?_
          refine lv_if_eq (pc := 66) (tgt := 73) hx hb dX5_setLimits_66 (by decide) (fun _ => ?_) (fun g => absurd g (by decide))
          refine lv_iconst (pc := 73) (v := 0) hx hb dX5_setLimits_73 (by decide) ?_
          exact x_ireti (pc := 74) C I hr hlocks h dX5_setLimits_74
        · have h := h.2 g8
          refine lv_iconst (pc := 47) (v := 1) hx hb dX5_setLimits_47 (by decide) ?_
          refine lv_goto (pc := 48) (tgt := 52) hx hb dX5_setLimits_48 (by decide) ?_
          refine lv_istore (pc := 52) (lv' := [(4, .int 1), (3, .ref (a 1)), (0, .ref x), (1, .int x1), (2, .int x2)]) hx hb dX5_setLimits_52 hl (by decide) rfl (fun ls hl => ?_)
          refine lv_aload_n (pc := 54) hx hb dX5_setLimits_54 rfl (lv_at hl 1 rfl) ?_
          refine lv_iload_n (pc := 55) hx hb dX5_setLimits_55 rfl (lv_at hl 3 rfl) ?_
          refine x_puti (pc := 56) C I wO_2 rfl inlX3 tyX3_ok nmX3 (k := 1) q_9_23 (by decide) rfl rfl rfl (Nat.le_of_ble_eq_true rfl) sO_2_1 dX5_setLimits_56 (fun H locs I => ?_)
          obtain ⟨M11, eM11⟩ : ∃ z : xM, z = xu M 1 1 x1 := ⟨_, rfl⟩
          have h := h M11 eM11
          rw [← eM11] at I
          refine lv_aload_n (pc := 59) hx hb dX5_setLimits_59 rfl (lv_at hl 1 rfl) ?_
          refine lv_iload_n (pc := 60) hx hb dX5_setLimits_60 rfl (lv_at hl 4 rfl) ?_
          refine x_puti (pc := 61) C I wO_2 rfl inlX3 tyX3_ok nmX3 (k := 2) q_10_0 (by decide) rfl rfl rfl (Nat.le_of_ble_eq_true rfl) sO_2_2 dX5_setLimits_61 (fun H locs I => ?_)
          obtain ⟨M12, eM12⟩ : ∃ z : xM, z = xu M11 1 2 x2 := ⟨_, rfl⟩
          have h := h M12 eM12
          rw [← eM12] at I
          refine lv_iload (pc := 64) hx hb dX5_setLimits_64 (lv_at hl 0 rfl) ?_
          refine lv_if_eq (pc := 66) (tgt := 73) hx hb dX5_setLimits_66 (by decide) (fun g => absurd g (by decide)) (fun _ => ?_)
          refine lv_iconst (pc := 69) (v := 1) hx hb dX5_setLimits_69 (by decide) ?_
          refine lv_goto (pc := 70) (tgt := 74) hx hb dX5_setLimits_70 (by decide) ?_
          exact x_ireti (pc := 74) C I hr hlocks h dX5_setLimits_74
    · have h := h.1 g4
      refine lv_bipush (pc := 20) (v := (-4)) hx hb dX5_setLimits_20 (by decide) ?_
      exact x_ireti (pc := 22) C I hr hlocks h dX5_setLimits_22
def V_X5_setThresholds (M T : xM) (x1 x2 : Int32) (post : Int32 → xM × xM → Prop) : Prop := (V_X5_inRange x1 1 200 (fun r1 => ((r1 = 0 → post (-4) (M, T)) ∧ (¬ r1 = 0 → (V_X5_inRange x2 1 200 (fun r3 => ((r3 = 0 → post (-4) (M, T)) ∧ (¬ r3 = 0 → (((M 1 3) = x1 → (((M 1 4) = x2 → (∀ M9 : xM, M9 = xu M 1 3 x1 → (∀ M10 : xM, M10 = xu M9 1 4 x2 → post 0 (M10, T)))) ∧ (¬ (M 1 4) = x2 → (∀ M11 : xM, M11 = xu M 1 3 x1 → (∀ M12 : xM, M12 = xu M11 1 4 x2 → post 1 (M12, T)))))) ∧ (¬ (M 1 3) = x1 → (∀ M6 : xM, M6 = xu M 1 3 x1 → (∀ M7 : xM, M7 = xu M6 1 4 x2 → post 1 (M7, T)))))))))))))
set_option maxHeartbeats 4000000 in
set_option maxRecDepth 100000 in
theorem m_X5_setThresholds {l : Launch} {D : va_G} {cI cZ : ClassId} {x : Nat} {a b : Nat → Nat} {M T : xM} {x1 x2 : Int32} {post : Int32 → xM × xM → Prop} (h : V_X5_setThresholds M T x1 x2 post) : xMi l yX5_setThresholds cX5_setThresholds 5 (some .int) { frames := 1, cells := 0, slots := 0, locals := 22 } D cI cZ (wO cI cZ x a b) (M, T) [.ref x, .int x1, .int x2] post := by
  refine x_bodyi (own := RX5) (by decide) rfl (Nat.le_of_ble_eq_true rfl) ?_
  intro p e s m below meth c A ls C hr hlocks hA I hl
  have hx := C.1.1
  have hb := C.1.2.1
  have hl : lv_has ls 5 [(0, .ref x), (1, .int x1), (2, .int x2)] := hl
  unfold V_X5_setThresholds at h
  refine lv_iload_n (pc := 0) hx hb dX5_setThresholds_0 rfl (lv_at hl 1 rfl) ?_
  refine lv_iconst (pc := 1) (v := 1) hx hb dX5_setThresholds_1 (by decide) ?_
  refine lv_sipush (pc := 2) (v := 200) hx hb dX5_setThresholds_2 (by decide) ?_
  refine x_calls (pc := 5) C I hA (m_X5_inRange h) c_RX5_19 ⟨Nat.le_of_ble_eq_true rfl, Nat.le_of_ble_eq_true rfl⟩ ⟨rfl, rfl⟩ ⟨Nat.le_of_ble_eq_true rfl, Nat.le_of_ble_eq_true rfl⟩ (As := [.int x1, .int 1, .int 200]) rfl hl.1 rfl (Nat.le_of_ble_eq_true rfl) dX5_setThresholds_5 (fun r1 u2 H locs h I => ?_)
  obtain ⟨e9, h⟩ := h
  rw [e9] at I
  refine lv_if_eq (pc := 8) (tgt := 22) hx hb dX5_setThresholds_8 (by decide) (fun g2 => ?_) (fun g2 => ?_)
  · have h := h.1 g2
    refine lv_bipush (pc := 22) (v := (-4)) hx hb dX5_setThresholds_22 (by decide) ?_
    exact x_ireti (pc := 24) C I hr hlocks h dX5_setThresholds_24
  · have h := h.2 g2
    refine lv_iload_n (pc := 11) hx hb dX5_setThresholds_11 rfl (lv_at hl 2 rfl) ?_
    refine lv_iconst (pc := 12) (v := 1) hx hb dX5_setThresholds_12 (by decide) ?_
    refine lv_sipush (pc := 13) (v := 200) hx hb dX5_setThresholds_13 (by decide) ?_
    refine x_calls (pc := 16) C I hA (m_X5_inRange h) c_RX5_19 ⟨Nat.le_of_ble_eq_true rfl, Nat.le_of_ble_eq_true rfl⟩ ⟨rfl, rfl⟩ ⟨Nat.le_of_ble_eq_true rfl, Nat.le_of_ble_eq_true rfl⟩ (As := [.int x2, .int 1, .int 200]) rfl hl.1 rfl (Nat.le_of_ble_eq_true rfl) dX5_setThresholds_16 (fun r3 u2 H locs h I => ?_)
    obtain ⟨e9, h⟩ := h
    rw [e9] at I
    refine lv_if_ne (pc := 19) (tgt := 25) hx hb dX5_setThresholds_19 (by decide) (fun g4 => ?_) (fun g4 => ?_)
    · have h := h.2 g4
      refine lv_aload_n (pc := 25) hx hb dX5_setThresholds_25 rfl (lv_at hl 0 rfl) ?_
      refine x_get (pc := 26) C I wO_0 rfl inlX5 (k := 0) q_1_15 (by decide) rfl rfl dX5_setThresholds_26 ?_
      refine x_get (pc := 29) C I wO_1 rfl inlX1 (k := 0) q_9_10 (by decide) rfl rfl dX5_setThresholds_29 ?_
      refine lv_astore_n (pc := 32) (lv' := [(3, .ref (a 1)), (0, .ref x), (1, .int x1), (2, .int x2)]) hx hb dX5_setThresholds_32 rfl hl (by decide) rfl (fun ls hl => ?_)
      refine lv_aload_n (pc := 33) hx hb dX5_setThresholds_33 rfl (lv_at hl 0 rfl) ?_
      refine x_get (pc := 34) C I wO_2 rfl inlX3 (k := 3) q_10_9 (by decide) rfl rfl dX5_setThresholds_34 ?_
      refine lv_iload_n (pc := 37) hx hb dX5_setThresholds_37 rfl (lv_at hl 2 rfl) ?_
      refine lv_icmp_ne (pc := 38) (tgt := 49) hx hb dX5_setThresholds_38 (by decide) (fun g5 => ?_) (fun g5 => ?_)
      · have h := h.2 g5
        refine lv_iconst (pc := 49) (v := 1) hx hb dX5_setThresholds_49 (by decide) ?_
        refine lv_goto (pc := 50) (tgt := 54) hx hb dX5_setThresholds_50 (by decide) ?_
        refine lv_istore (pc := 54) (lv' := [(4, .int 1), (3, .ref (a 1)), (0, .ref x), (1, .int x1), (2, .int x2)]) hx hb dX5_setThresholds_54 hl (by decide) rfl (fun ls hl => ?_)
        refine lv_aload_n (pc := 56) hx hb dX5_setThresholds_56 rfl (lv_at hl 1 rfl) ?_
        refine lv_iload_n (pc := 57) hx hb dX5_setThresholds_57 rfl (lv_at hl 3 rfl) ?_
        refine x_puti (pc := 58) C I wO_2 rfl inlX3 tyX3_ok nmX3 (k := 3) q_10_9 (by decide) rfl rfl rfl (Nat.le_of_ble_eq_true rfl) sO_2_3 dX5_setThresholds_58 (fun H locs I => ?_)
        obtain ⟨M6, eM6⟩ : ∃ z : xM, z = xu M 1 3 x1 := ⟨_, rfl⟩
        have h := h M6 eM6
        rw [← eM6] at I
        refine lv_aload_n (pc := 61) hx hb dX5_setThresholds_61 rfl (lv_at hl 1 rfl) ?_
        refine lv_iload_n (pc := 62) hx hb dX5_setThresholds_62 rfl (lv_at hl 4 rfl) ?_
        refine x_puti (pc := 63) C I wO_2 rfl inlX3 tyX3_ok nmX3 (k := 4) q_10_10 (by decide) rfl rfl rfl (Nat.le_of_ble_eq_true rfl) sO_2_4 dX5_setThresholds_63 (fun H locs I => ?_)
        obtain ⟨M7, eM7⟩ : ∃ z : xM, z = xu M6 1 4 x2 := ⟨_, rfl⟩
        have h := h M7 eM7
        rw [← eM7] at I
        refine lv_iload (pc := 66) hx hb dX5_setThresholds_66 (lv_at hl 0 rfl) ?_
        refine lv_if_eq (pc := 68) (tgt := 75) hx hb dX5_setThresholds_68 (by decide) (fun g => absurd g (by decide)) (fun _ => ?_)
        refine lv_iconst (pc := 71) (v := 1) hx hb dX5_setThresholds_71 (by decide) ?_
        refine lv_goto (pc := 72) (tgt := 76) hx hb dX5_setThresholds_72 (by decide) ?_
        exact x_ireti (pc := 76) C I hr hlocks h dX5_setThresholds_76
      · have h := h.1 g5
        refine lv_aload_n (pc := 41) hx hb dX5_setThresholds_41 rfl (lv_at hl 0 rfl) ?_
        refine x_get (pc := 42) C I wO_2 rfl inlX3 (k := 4) q_10_10 (by decide) rfl rfl dX5_setThresholds_42 ?_
        refine lv_iload_n (pc := 45) hx hb dX5_setThresholds_45 rfl (lv_at hl 3 rfl) ?_
        refine lv_icmp_eq (pc := 46) (tgt := 53) hx hb dX5_setThresholds_46 (by decide) (fun g8 => ?_) (fun g8 => ?_)
        · have h := h.1 g8
          refine lv_iconst (pc := 53) (v := 0) hx hb dX5_setThresholds_53 (by decide) ?_
          refine lv_istore (pc := 54) (lv' := [(4, .int 0), (3, .ref (a 1)), (0, .ref x), (1, .int x1), (2, .int x2)]) hx hb dX5_setThresholds_54 hl (by decide) rfl (fun ls hl => ?_)
          refine lv_aload_n (pc := 56) hx hb dX5_setThresholds_56 rfl (lv_at hl 1 rfl) ?_
          refine lv_iload_n (pc := 57) hx hb dX5_setThresholds_57 rfl (lv_at hl 3 rfl) ?_
          refine x_puti (pc := 58) C I wO_2 rfl inlX3 tyX3_ok nmX3 (k := 3) q_10_9 (by decide) rfl rfl rfl (Nat.le_of_ble_eq_true rfl) sO_2_3 dX5_setThresholds_58 (fun H locs I => ?_)
          obtain ⟨M9, eM9⟩ : ∃ z : xM, z = xu M 1 3 x1 := ⟨_, rfl⟩
          have h := h M9 eM9
          rw [← eM9] at I
          refine lv_aload_n (pc := 61) hx hb dX5_setThresholds_61 rfl (lv_at hl 1 rfl) ?_
          refine lv_iload_n (pc := 62) hx hb dX5_setThresholds_62 rfl (lv_at hl 4 rfl) ?_
          refine x_puti (pc := 63) C I wO_2 rfl inlX3 tyX3_ok nmX3 (k := 4) q_10_10 (by decide) rfl rfl rfl (Nat.le_of_ble_eq_true rfl) sO_2_4 dX5_setThresholds_63 (fun H locs I => ?_)
          obtain ⟨M10, eM10⟩ : ∃ z : xM, z = xu M9 1 4 x2 := ⟨_, rfl⟩
          have h := h M10 eM10
          rw [← eM10] at I
          refine lv_iload (pc := 66) hx hb dX5_setThresholds_66 (lv_at hl 0 rfl) ?_
          refine lv_if_eq (pc := 68) (tgt := 75) hx hb dX5_setThresholds_68 (by decide) (fun _ => ?_) (fun g => absurd g (by decide))
          refine lv_iconst (pc := 75) (v := 0) hx hb dX5_setThresholds_75 (by decide) ?_
          exact x_ireti (pc := 76) C I hr hlocks h dX5_setThresholds_76
        · have h := h.2 g8
          refine lv_iconst (pc := 49) (v := 1) hx hb dX5_setThresholds_49 (by decide) ?_
          refine lv_goto (pc := 50) (tgt := 54) hx hb dX5_setThresholds_50 (by decide) ?_
          refine lv_istore (pc := 54) (lv' := [(4, .int 1), (3, .ref (a 1)), (0, .ref x), (1, .int x1), (2, .int x2)]) hx hb dX5_setThresholds_54 hl (by decide) rfl (fun ls hl => ?_)
          refine lv_aload_n (pc := 56) hx hb dX5_setThresholds_56 rfl (lv_at hl 1 rfl) ?_
          refine lv_iload_n (pc := 57) hx hb dX5_setThresholds_57 rfl (lv_at hl 3 rfl) ?_
          refine x_puti (pc := 58) C I wO_2 rfl inlX3 tyX3_ok nmX3 (k := 3) q_10_9 (by decide) rfl rfl rfl (Nat.le_of_ble_eq_true rfl) sO_2_3 dX5_setThresholds_58 (fun H locs I => ?_)
          obtain ⟨M11, eM11⟩ : ∃ z : xM, z = xu M 1 3 x1 := ⟨_, rfl⟩
          have h := h M11 eM11
          rw [← eM11] at I
          refine lv_aload_n (pc := 61) hx hb dX5_setThresholds_61 rfl (lv_at hl 1 rfl) ?_
          refine lv_iload_n (pc := 62) hx hb dX5_setThresholds_62 rfl (lv_at hl 4 rfl) ?_
          refine x_puti (pc := 63) C I wO_2 rfl inlX3 tyX3_ok nmX3 (k := 4) q_10_10 (by decide) rfl rfl rfl (Nat.le_of_ble_eq_true rfl) sO_2_4 dX5_setThresholds_63 (fun H locs I => ?_)
          obtain ⟨M12, eM12⟩ : ∃ z : xM, z = xu M11 1 4 x2 := ⟨_, rfl⟩
          have h := h M12 eM12
          rw [← eM12] at I
          refine lv_iload (pc := 66) hx hb dX5_setThresholds_66 (lv_at hl 0 rfl) ?_
          refine lv_if_eq (pc := 68) (tgt := 75) hx hb dX5_setThresholds_68 (by decide) (fun g => absurd g (by decide)) (fun _ => ?_)
          refine lv_iconst (pc := 71) (v := 1) hx hb dX5_setThresholds_71 (by decide) ?_
          refine lv_goto (pc := 72) (tgt := 76) hx hb dX5_setThresholds_72 (by decide) ?_
          exact x_ireti (pc := 76) C I hr hlocks h dX5_setThresholds_76
    · have h := h.1 g4
      refine lv_bipush (pc := 22) (v := (-4)) hx hb dX5_setThresholds_22 (by decide) ?_
      exact x_ireti (pc := 24) C I hr hlocks h dX5_setThresholds_24
def V_X5_tick_L18 (post : Int32 → xM × xM → Prop) : Nat → xM → xM → Int32 → Int32 → Int32 → Prop
  | 0, _, _, _, _, _ => False
  | n + 1, M0, T0, x1, x2, x3 => ((x1 ≤ x3 → post x2 (M0, T0)) ∧ (¬ x1 ≤ x3 → (V_X1_runOneTick M0  (fun r5 M4 => (∀ y6 : Int32, y6 = (x2 + r5) → (∀ y7 : Int32, y7 = (x3 + 1) → (V_X5_tick_L18 post n M4 T0 x1 y6 y7)))))))
def V_X5_tick (M T : xM) (x1 : Int32) (post : Int32 → xM × xM → Prop) : Prop := (V_X5_inRange x1 1 500 (fun r1 => ((r1 = 0 → post (-4) (M, T)) ∧ (¬ r1 = 0 → (∃ n8 : Nat, V_X5_tick_L18 post n8 M T x1 0 0)))))
set_option maxHeartbeats 4000000 in
set_option maxRecDepth 100000 in
theorem k_X5_tick_L18 {l : Launch} {D : va_G} {cI cZ : ClassId} {x : Nat} {a b : Nat → Nat} {p : Program} {e : Env} {s : State} {m : MethodId} {below : List Frame} {meth : Method} {c : Code} {A : Nat → Prop} {args : Array Value} {post : Int32 → xM × xM → Prop} (C : xC p s m args c cX5_tick 4 RX5 D cI cZ) (hr : meth.sig.returnType = (some .int)) (hlocks : meth.locks = false) (hA : ∀ q : Nat, s.heap.size ≤ q → A q) (n : Nat) : ∀ (M0 T0 : xM) (x1 x2 x3 : Int32) (H : Heap) (locs : List Loc) (ls : Array Slot), V_X5_tick_L18 post n M0 T0 x1 x2 x3 → xI D (wO cI cZ x a b (M0, T0)) A s.heap H locs → lv_has ls 4 [(0, .ref x), (1, .int x1), (2, .int x2), (3, .int x3)] → W p l e { frames := 6, cells := 0, slots := 0, locals := 134 } s m args below meth c H locs 0 0 (MQ below (va_Qi post (xPost D cI cZ A (wO cI cZ x a b)) A) args s 0 0 A) (F0 m 18 ls []) := by
  have hx := C.1.1
  have hb := C.1.2.1
  induction n with
  | zero =>
    intro M0 T0 x1 x2 x3 H locs ls h I hl
    exact absurd h id
  | succ n ih18 =>
    intro M0 T0 x1 x2 x3 H locs ls h I hl
    rw [V_X5_tick_L18] at h
    refine lv_iload_n (pc := 18) hx hb dX5_tick_18 rfl (lv_at hl 3 rfl) ?_
    refine lv_iload_n (pc := 19) hx hb dX5_tick_19 rfl (lv_at hl 1 rfl) ?_
    refine lv_icmp_ge (pc := 20) (tgt := 39) hx hb dX5_tick_20 (by decide) (fun g3 => ?_) (fun g3 => ?_)
    · have h := h.1 g3
      refine lv_iload_n (pc := 39) hx hb dX5_tick_39 rfl (lv_at hl 2 rfl) ?_
      exact x_ireti (pc := 40) C I hr hlocks h dX5_tick_40
    · have h := h.2 g3
      refine lv_iload_n (pc := 23) hx hb dX5_tick_23 rfl (lv_at hl 2 rfl) ?_
      refine lv_aload_n (pc := 24) hx hb dX5_tick_24 rfl (lv_at hl 0 rfl) ?_
      refine x_get (pc := 25) C I wO_0 rfl inlX5 (k := 0) q_1_15 (by decide) rfl rfl dX5_tick_25 ?_
      refine x_calli (pc := 28) C I hA (x_liftiX [(x, .inr (5, [.ref (a 0), .ref (b 0)]))] (wC cI cZ b T0) (fun v => (v, T0)) (fun v => rfl) rfl (m_X1_runOneTick h)) c_RX5_82 wO_1 rfl ⟨Nat.le_of_ble_eq_true rfl, Nat.le_of_ble_eq_true rfl⟩ ⟨rfl, rfl⟩ ⟨Nat.le_of_ble_eq_true rfl, Nat.le_of_ble_eq_true rfl⟩ (As := []) rfl hl.1 rfl (Nat.le_of_ble_eq_true rfl) dX5_tick_28 (fun r5 u2 H locs h I => ?_)
      obtain ⟨M4, rfl, h⟩ := h
      refine lv_iadd (pc := 31) hx hb dX5_tick_31 ?_
      refine lv_topi (fun y6 ey6 => ?_)
      have h := h y6 ey6
      refine lv_istore_n (pc := 32) (lv' := [(2, .int y6), (0, .ref x), (1, .int x1), (3, .int x3)]) hx hb dX5_tick_32 rfl hl (by decide) rfl (fun ls hl => ?_)
      obtain ⟨y7, ey7⟩ : ∃ y : Int32, y = (x3 + 1) := ⟨_, rfl⟩
      have h := h y7 ey7
      refine lv_iinc (pc := 33) (v := y7) (lv' := [(3, .int y7), (2, .int y6), (0, .ref x), (1, .int x1)]) hx hb dX5_tick_33 hl (k := 3) rfl (by rw [ey7]; rfl) (by decide) rfl (fun ls hl => ?_)
      refine lv_goto (pc := 36) (tgt := 18) hx hb dX5_tick_36 (by decide) ?_
      exact ih18 M4 T0 x1 y6 y7 _ _ _ h I (lv_sub hl [2, 3, 1, 0] rfl)
set_option maxHeartbeats 4000000 in
set_option maxRecDepth 100000 in
theorem m_X5_tick {l : Launch} {D : va_G} {cI cZ : ClassId} {x : Nat} {a b : Nat → Nat} {M T : xM} {x1 : Int32} {post : Int32 → xM × xM → Prop} (h : V_X5_tick M T x1 post) : xMi l yX5_tick cX5_tick 4 (some .int) { frames := 6, cells := 0, slots := 0, locals := 134 } D cI cZ (wO cI cZ x a b) (M, T) [.ref x, .int x1] post := by
  refine x_bodyi (own := RX5) (by decide) rfl (Nat.le_of_ble_eq_true rfl) ?_
  intro p e s m below meth c A ls C hr hlocks hA I hl
  have hx := C.1.1
  have hb := C.1.2.1
  have hl : lv_has ls 4 [(0, .ref x), (1, .int x1)] := hl
  unfold V_X5_tick at h
  refine lv_iload_n (pc := 0) hx hb dX5_tick_0 rfl (lv_at hl 1 rfl) ?_
  refine lv_iconst (pc := 1) (v := 1) hx hb dX5_tick_1 (by decide) ?_
  refine lv_sipush (pc := 2) (v := 500) hx hb dX5_tick_2 (by decide) ?_
  refine x_calls (pc := 5) C I hA (m_X5_inRange h) c_RX5_19 ⟨Nat.le_of_ble_eq_true rfl, Nat.le_of_ble_eq_true rfl⟩ ⟨rfl, rfl⟩ ⟨Nat.le_of_ble_eq_true rfl, Nat.le_of_ble_eq_true rfl⟩ (As := [.int x1, .int 1, .int 500]) rfl hl.1 rfl (Nat.le_of_ble_eq_true rfl) dX5_tick_5 (fun r1 u2 H locs h I => ?_)
  obtain ⟨e9, h⟩ := h
  rw [e9] at I
  refine lv_if_ne (pc := 8) (tgt := 14) hx hb dX5_tick_8 (by decide) (fun g2 => ?_) (fun g2 => ?_)
  · have h := h.2 g2
    refine lv_iconst (pc := 14) (v := 0) hx hb dX5_tick_14 (by decide) ?_
    refine lv_istore_n (pc := 15) (lv' := [(2, .int 0), (0, .ref x), (1, .int x1)]) hx hb dX5_tick_15 rfl hl (by decide) rfl (fun ls hl => ?_)
    refine lv_iconst (pc := 16) (v := 0) hx hb dX5_tick_16 (by decide) ?_
    refine lv_istore_n (pc := 17) (lv' := [(3, .int 0), (2, .int 0), (0, .ref x), (1, .int x1)]) hx hb dX5_tick_17 rfl hl (by decide) rfl (fun ls hl => ?_)
    obtain ⟨n8, h⟩ := h
    exact k_X5_tick_L18 C hr hlocks hA n8 M T x1 0 0 _ _ _ h I (lv_sub hl [2, 3, 1, 0] rfl)
  · have h := h.1 g2
    refine lv_bipush (pc := 11) (v := (-4)) hx hb dX5_tick_11 (by decide) ?_
    exact x_ireti (pc := 13) C I hr hlocks h dX5_tick_13
def V_X5_time (M T : xM) (post : Int32 → xM × xM → Prop) : Prop := post (M 0 4) (M, T)
set_option maxHeartbeats 4000000 in
set_option maxRecDepth 100000 in
theorem m_X5_time {l : Launch} {D : va_G} {cI cZ : ClassId} {x : Nat} {a b : Nat → Nat} {M T : xM} {post : Int32 → xM × xM → Prop} (h : V_X5_time M T post) : xMi l yX5_time cX5_time 1 (some .int) { frames := 0, cells := 0, slots := 0, locals := 0 } D cI cZ (wO cI cZ x a b) (M, T) [.ref x] post := by
  refine x_bodyi (own := RX5) (by decide) rfl (Nat.le_of_ble_eq_true rfl) ?_
  intro p e s m below meth c A ls C hr hlocks hA I hl
  have hx := C.1.1
  have hb := C.1.2.1
  have hl : lv_has ls 1 [(0, .ref x)] := hl
  unfold V_X5_time at h
  refine lv_aload_n (pc := 0) hx hb dX5_time_0 rfl (lv_at hl 0 rfl) ?_
  refine x_get (pc := 1) C I wO_0 rfl inlX5 (k := 0) q_1_15 (by decide) rfl rfl dX5_time_1 ?_
  refine x_get (pc := 4) C I wO_1 rfl inlX1 (k := 4) q_19_23 (by decide) rfl rfl dX5_time_4 ?_
  exact x_ireti (pc := 7) C I hr hlocks h dX5_time_7
def V_X5_taskState (M T : xM) (x1 : Int32) (post : Int32 → xM × xM → Prop) : Prop := (V_X4_has M x1 (fun r2 M1 => ((r2 = 0 → post (-2) (M1, T)) ∧ (¬ r2 = 0 → (V_X4_stateOf M1 x1 (fun r5 M4 => post r5 (M4, T)))))))
set_option maxHeartbeats 4000000 in
set_option maxRecDepth 100000 in
theorem m_X5_taskState {l : Launch} {D : va_G} {cI cZ : ClassId} {x : Nat} {a b : Nat → Nat} {M T : xM} {x1 : Int32} {post : Int32 → xM × xM → Prop} (h : V_X5_taskState M T x1 post) : xMi l yX5_taskState cX5_taskState 2 (some .int) { frames := 1, cells := 0, slots := 0, locals := 21 } D cI cZ (wO cI cZ x a b) (M, T) [.ref x, .int x1] post := by
  refine x_bodyi (own := RX5) (by decide) rfl (Nat.le_of_ble_eq_true rfl) ?_
  intro p e s m below meth c A ls C hr hlocks hA I hl
  have hx := C.1.1
  have hb := C.1.2.1
  have hl : lv_has ls 2 [(0, .ref x), (1, .int x1)] := hl
  unfold V_X5_taskState at h
  refine lv_aload_n (pc := 0) hx hb dX5_taskState_0 rfl (lv_at hl 0 rfl) ?_
  refine x_get (pc := 1) C I wO_0 rfl inlX5 (k := 0) q_1_15 (by decide) rfl rfl dX5_taskState_1 ?_
  refine x_get (pc := 4) C I wO_1 rfl inlX1 (k := 2) q_8_20 (by decide) rfl rfl dX5_taskState_4 ?_
  refine lv_iload_n (pc := 7) hx hb dX5_taskState_7 rfl (lv_at hl 1 rfl) ?_
  refine x_calli (pc := 8) C I hA (x_liftiX [(x, .inr (5, [.ref (a 0), .ref (b 0)]))] (wC cI cZ b T) (fun v => (v, T)) (fun v => rfl) rfl (m_X4_has h)) c_RX5_89 wO_4 rfl ⟨Nat.le_of_ble_eq_true rfl, Nat.le_of_ble_eq_true rfl⟩ ⟨rfl, rfl⟩ ⟨Nat.le_of_ble_eq_true rfl, Nat.le_of_ble_eq_true rfl⟩ (As := [.int x1]) rfl hl.1 rfl (Nat.le_of_ble_eq_true rfl) dX5_taskState_8 (fun r2 u2 H locs h I => ?_)
  obtain ⟨M1, rfl, h⟩ := h
  refine lv_if_eq (pc := 11) (tgt := 28) hx hb dX5_taskState_11 (by decide) (fun g3 => ?_) (fun g3 => ?_)
  · have h := h.1 g3
    refine lv_bipush (pc := 28) (v := (-2)) hx hb dX5_taskState_28 (by decide) ?_
    exact x_ireti (pc := 30) C I hr hlocks h dX5_taskState_30
  · have h := h.2 g3
    refine lv_aload_n (pc := 14) hx hb dX5_taskState_14 rfl (lv_at hl 0 rfl) ?_
    refine x_get (pc := 15) C I wO_0 rfl inlX5 (k := 0) q_1_15 (by decide) rfl rfl dX5_taskState_15 ?_
    refine x_get (pc := 18) C I wO_1 rfl inlX1 (k := 2) q_8_20 (by decide) rfl rfl dX5_taskState_18 ?_
    refine lv_iload_n (pc := 21) hx hb dX5_taskState_21 rfl (lv_at hl 1 rfl) ?_
    refine x_calli (pc := 22) C I hA (x_liftiX [(x, .inr (5, [.ref (a 0), .ref (b 0)]))] (wC cI cZ b T) (fun v => (v, T)) (fun v => rfl) rfl (m_X4_stateOf h)) c_RX5_90 wO_4 rfl ⟨Nat.le_of_ble_eq_true rfl, Nat.le_of_ble_eq_true rfl⟩ ⟨rfl, rfl⟩ ⟨Nat.le_of_ble_eq_true rfl, Nat.le_of_ble_eq_true rfl⟩ (As := [.int x1]) rfl hl.1 rfl (Nat.le_of_ble_eq_true rfl) dX5_taskState_22 (fun r5 u2 H locs h I => ?_)
    obtain ⟨M4, rfl, h⟩ := h
    refine lv_goto (pc := 25) (tgt := 30) hx hb dX5_taskState_25 (by decide) ?_
    exact x_ireti (pc := 30) C I hr hlocks h dX5_taskState_30
def V_X5_committedAttempt (M T : xM) (x1 : Int32) (post : Int32 → xM × xM → Prop) : Prop := (V_X4_has M x1 (fun r2 M1 => ((r2 = 0 → post (-2) (M1, T)) ∧ (¬ r2 = 0 → (vp_in x1 24 ∧ post (M1 13 (x1).toNatClampNeg) (M1, T))))))
set_option maxHeartbeats 4000000 in
set_option maxRecDepth 100000 in
theorem m_X5_committedAttempt {l : Launch} {D : va_G} {cI cZ : ClassId} {x : Nat} {a b : Nat → Nat} {M T : xM} {x1 : Int32} {post : Int32 → xM × xM → Prop} (h : V_X5_committedAttempt M T x1 post) : xMi l yX5_committedAttempt cX5_committedAttempt 2 (some .int) { frames := 1, cells := 0, slots := 0, locals := 21 } D cI cZ (wO cI cZ x a b) (M, T) [.ref x, .int x1] post := by
  refine x_bodyi (own := RX5) (by decide) rfl (Nat.le_of_ble_eq_true rfl) ?_
  intro p e s m below meth c A ls C hr hlocks hA I hl
  have hx := C.1.1
  have hb := C.1.2.1
  have hl : lv_has ls 2 [(0, .ref x), (1, .int x1)] := hl
  unfold V_X5_committedAttempt at h
  refine lv_aload_n (pc := 0) hx hb dX5_committedAttempt_0 rfl (lv_at hl 0 rfl) ?_
  refine x_get (pc := 1) C I wO_0 rfl inlX5 (k := 0) q_1_15 (by decide) rfl rfl dX5_committedAttempt_1 ?_
  refine x_get (pc := 4) C I wO_1 rfl inlX1 (k := 2) q_8_20 (by decide) rfl rfl dX5_committedAttempt_4 ?_
  refine lv_iload_n (pc := 7) hx hb dX5_committedAttempt_7 rfl (lv_at hl 1 rfl) ?_
  refine x_calli (pc := 8) C I hA (x_liftiX [(x, .inr (5, [.ref (a 0), .ref (b 0)]))] (wC cI cZ b T) (fun v => (v, T)) (fun v => rfl) rfl (m_X4_has h)) c_RX5_89 wO_4 rfl ⟨Nat.le_of_ble_eq_true rfl, Nat.le_of_ble_eq_true rfl⟩ ⟨rfl, rfl⟩ ⟨Nat.le_of_ble_eq_true rfl, Nat.le_of_ble_eq_true rfl⟩ (As := [.int x1]) rfl hl.1 rfl (Nat.le_of_ble_eq_true rfl) dX5_committedAttempt_8 (fun r2 u2 H locs h I => ?_)
  obtain ⟨M1, rfl, h⟩ := h
  refine lv_if_eq (pc := 11) (tgt := 29) hx hb dX5_committedAttempt_11 (by decide) (fun g3 => ?_) (fun g3 => ?_)
  · have h := h.1 g3
    refine lv_bipush (pc := 29) (v := (-2)) hx hb dX5_committedAttempt_29 (by decide) ?_
    exact x_ireti (pc := 31) C I hr hlocks h dX5_committedAttempt_31
  · have h := h.2 g3
    refine lv_aload_n (pc := 14) hx hb dX5_committedAttempt_14 rfl (lv_at hl 0 rfl) ?_
    refine x_get (pc := 15) C I wO_0 rfl inlX5 (k := 0) q_1_15 (by decide) rfl rfl dX5_committedAttempt_15 ?_
    refine x_get (pc := 18) C I wO_1 rfl inlX1 (k := 2) q_8_20 (by decide) rfl rfl dX5_committedAttempt_18 ?_
    refine x_get (pc := 21) C I wO_4 rfl inlX4 (k := 3) q_21_1 (by decide) rfl rfl dX5_committedAttempt_21 ?_
    refine lv_iload_n (pc := 24) hx hb dX5_committedAttempt_24 rfl (lv_at hl 1 rfl) ?_
    obtain ⟨g4, h⟩ := h
    refine x_ald (pc := 25) C I wO_14 g4 dX5_committedAttempt_25 ?_
    refine lv_goto (pc := 26) (tgt := 31) hx hb dX5_committedAttempt_26 (by decide) ?_
    exact x_ireti (pc := 31) C I hr hlocks h dX5_committedAttempt_31
def V_X5_finishTime (M T : xM) (x1 : Int32) (post : Int32 → xM × xM → Prop) : Prop := (V_X4_has M x1 (fun r2 M1 => ((r2 = 0 → post (-2) (M1, T)) ∧ (¬ r2 = 0 → (vp_in x1 24 ∧ post (M1 14 (x1).toNatClampNeg) (M1, T))))))
set_option maxHeartbeats 4000000 in
set_option maxRecDepth 100000 in
theorem m_X5_finishTime {l : Launch} {D : va_G} {cI cZ : ClassId} {x : Nat} {a b : Nat → Nat} {M T : xM} {x1 : Int32} {post : Int32 → xM × xM → Prop} (h : V_X5_finishTime M T x1 post) : xMi l yX5_finishTime cX5_finishTime 2 (some .int) { frames := 1, cells := 0, slots := 0, locals := 21 } D cI cZ (wO cI cZ x a b) (M, T) [.ref x, .int x1] post := by
  refine x_bodyi (own := RX5) (by decide) rfl (Nat.le_of_ble_eq_true rfl) ?_
  intro p e s m below meth c A ls C hr hlocks hA I hl
  have hx := C.1.1
  have hb := C.1.2.1
  have hl : lv_has ls 2 [(0, .ref x), (1, .int x1)] := hl
  unfold V_X5_finishTime at h
  refine lv_aload_n (pc := 0) hx hb dX5_finishTime_0 rfl (lv_at hl 0 rfl) ?_
  refine x_get (pc := 1) C I wO_0 rfl inlX5 (k := 0) q_1_15 (by decide) rfl rfl dX5_finishTime_1 ?_
  refine x_get (pc := 4) C I wO_1 rfl inlX1 (k := 2) q_8_20 (by decide) rfl rfl dX5_finishTime_4 ?_
  refine lv_iload_n (pc := 7) hx hb dX5_finishTime_7 rfl (lv_at hl 1 rfl) ?_
  refine x_calli (pc := 8) C I hA (x_liftiX [(x, .inr (5, [.ref (a 0), .ref (b 0)]))] (wC cI cZ b T) (fun v => (v, T)) (fun v => rfl) rfl (m_X4_has h)) c_RX5_89 wO_4 rfl ⟨Nat.le_of_ble_eq_true rfl, Nat.le_of_ble_eq_true rfl⟩ ⟨rfl, rfl⟩ ⟨Nat.le_of_ble_eq_true rfl, Nat.le_of_ble_eq_true rfl⟩ (As := [.int x1]) rfl hl.1 rfl (Nat.le_of_ble_eq_true rfl) dX5_finishTime_8 (fun r2 u2 H locs h I => ?_)
  obtain ⟨M1, rfl, h⟩ := h
  refine lv_if_eq (pc := 11) (tgt := 29) hx hb dX5_finishTime_11 (by decide) (fun g3 => ?_) (fun g3 => ?_)
  · have h := h.1 g3
    refine lv_bipush (pc := 29) (v := (-2)) hx hb dX5_finishTime_29 (by decide) ?_
    exact x_ireti (pc := 31) C I hr hlocks h dX5_finishTime_31
  · have h := h.2 g3
    refine lv_aload_n (pc := 14) hx hb dX5_finishTime_14 rfl (lv_at hl 0 rfl) ?_
    refine x_get (pc := 15) C I wO_0 rfl inlX5 (k := 0) q_1_15 (by decide) rfl rfl dX5_finishTime_15 ?_
    refine x_get (pc := 18) C I wO_1 rfl inlX1 (k := 2) q_8_20 (by decide) rfl rfl dX5_finishTime_18 ?_
    refine x_get (pc := 21) C I wO_4 rfl inlX4 (k := 4) q_21_10 (by decide) rfl rfl dX5_finishTime_21 ?_
    refine lv_iload_n (pc := 24) hx hb dX5_finishTime_24 rfl (lv_at hl 1 rfl) ?_
    obtain ⟨g4, h⟩ := h
    refine x_ald (pc := 25) C I wO_15 g4 dX5_finishTime_25 ?_
    refine lv_goto (pc := 26) (tgt := 31) hx hb dX5_finishTime_26 (by decide) ?_
    exact x_ireti (pc := 31) C I hr hlocks h dX5_finishTime_31
def V_X5_makespan (M T : xM) (post : Int32 → xM × xM → Prop) : Prop := (V_X4_lastFinish M  (fun r2 M1 => post r2 (M1, T)))
set_option maxHeartbeats 4000000 in
set_option maxRecDepth 100000 in
theorem m_X5_makespan {l : Launch} {D : va_G} {cI cZ : ClassId} {x : Nat} {a b : Nat → Nat} {M T : xM} {post : Int32 → xM × xM → Prop} (h : V_X5_makespan M T post) : xMi l yX5_makespan cX5_makespan 1 (some .int) { frames := 2, cells := 0, slots := 0, locals := 43 } D cI cZ (wO cI cZ x a b) (M, T) [.ref x] post := by
  refine x_bodyi (own := RX5) (by decide) rfl (Nat.le_of_ble_eq_true rfl) ?_
  intro p e s m below meth c A ls C hr hlocks hA I hl
  have hx := C.1.1
  have hb := C.1.2.1
  have hl : lv_has ls 1 [(0, .ref x)] := hl
  unfold V_X5_makespan at h
  refine lv_aload_n (pc := 0) hx hb dX5_makespan_0 rfl (lv_at hl 0 rfl) ?_
  refine x_get (pc := 1) C I wO_0 rfl inlX5 (k := 0) q_1_15 (by decide) rfl rfl dX5_makespan_1 ?_
  refine x_get (pc := 4) C I wO_1 rfl inlX1 (k := 2) q_8_20 (by decide) rfl rfl dX5_makespan_4 ?_
  refine x_calli (pc := 7) C I hA (x_liftiX [(x, .inr (5, [.ref (a 0), .ref (b 0)]))] (wC cI cZ b T) (fun v => (v, T)) (fun v => rfl) rfl (m_X4_lastFinish h)) c_RX5_99 wO_4 rfl ⟨Nat.le_of_ble_eq_true rfl, Nat.le_of_ble_eq_true rfl⟩ ⟨rfl, rfl⟩ ⟨Nat.le_of_ble_eq_true rfl, Nat.le_of_ble_eq_true rfl⟩ (As := []) rfl hl.1 rfl (Nat.le_of_ble_eq_true rfl) dX5_makespan_7 (fun r2 u2 H locs h I => ?_)
  obtain ⟨M1, rfl, h⟩ := h
  exact x_ireti (pc := 10) C I hr hlocks h dX5_makespan_10
def V_X5_attemptCount (M T : xM) (post : Int32 → xM × xM → Prop) : Prop := post (M 4 0) (M, T)
set_option maxHeartbeats 4000000 in
set_option maxRecDepth 100000 in
theorem m_X5_attemptCount {l : Launch} {D : va_G} {cI cZ : ClassId} {x : Nat} {a b : Nat → Nat} {M T : xM} {post : Int32 → xM × xM → Prop} (h : V_X5_attemptCount M T post) : xMi l yX5_attemptCount cX5_attemptCount 1 (some .int) { frames := 0, cells := 0, slots := 0, locals := 0 } D cI cZ (wO cI cZ x a b) (M, T) [.ref x] post := by
  refine x_bodyi (own := RX5) (by decide) rfl (Nat.le_of_ble_eq_true rfl) ?_
  intro p e s m below meth c A ls C hr hlocks hA I hl
  have hx := C.1.1
  have hb := C.1.2.1
  have hl : lv_has ls 1 [(0, .ref x)] := hl
  unfold V_X5_attemptCount at h
  refine lv_aload_n (pc := 0) hx hb dX5_attemptCount_0 rfl (lv_at hl 0 rfl) ?_
  refine x_get (pc := 1) C I wO_0 rfl inlX5 (k := 0) q_1_15 (by decide) rfl rfl dX5_attemptCount_1 ?_
  refine x_get (pc := 4) C I wO_1 rfl inlX1 (k := 3) q_22_14 (by decide) rfl rfl dX5_attemptCount_4 ?_
  refine x_get (pc := 7) C I wO_5 rfl inlX0 (k := 0) q_22_15 (by decide) rfl rfl dX5_attemptCount_7 ?_
  exact x_ireti (pc := 10) C I hr hlocks h dX5_attemptCount_10
def V_X5_attemptTask (M T : xM) (x1 : Int32) (post : Int32 → xM × xM → Prop) : Prop := (V_X0_has M x1 (fun r2 M1 => ((r2 = 0 → post (-3) (M1, T)) ∧ (¬ r2 = 0 → (vp_in x1 200 ∧ post (M1 15 (x1).toNatClampNeg) (M1, T))))))
set_option maxHeartbeats 4000000 in
set_option maxRecDepth 100000 in
theorem m_X5_attemptTask {l : Launch} {D : va_G} {cI cZ : ClassId} {x : Nat} {a b : Nat → Nat} {M T : xM} {x1 : Int32} {post : Int32 → xM × xM → Prop} (h : V_X5_attemptTask M T x1 post) : xMi l yX5_attemptTask cX5_attemptTask 2 (some .int) { frames := 1, cells := 0, slots := 0, locals := 21 } D cI cZ (wO cI cZ x a b) (M, T) [.ref x, .int x1] post := by
  refine x_bodyi (own := RX5) (by decide) rfl (Nat.le_of_ble_eq_true rfl) ?_
  intro p e s m below meth c A ls C hr hlocks hA I hl
  have hx := C.1.1
  have hb := C.1.2.1
  have hl : lv_has ls 2 [(0, .ref x), (1, .int x1)] := hl
  unfold V_X5_attemptTask at h
  refine lv_aload_n (pc := 0) hx hb dX5_attemptTask_0 rfl (lv_at hl 0 rfl) ?_
  refine x_get (pc := 1) C I wO_0 rfl inlX5 (k := 0) q_1_15 (by decide) rfl rfl dX5_attemptTask_1 ?_
  refine x_get (pc := 4) C I wO_1 rfl inlX1 (k := 3) q_22_14 (by decide) rfl rfl dX5_attemptTask_4 ?_
  refine lv_iload_n (pc := 7) hx hb dX5_attemptTask_7 rfl (lv_at hl 1 rfl) ?_
  refine x_calli (pc := 8) C I hA (x_liftiX [(x, .inr (5, [.ref (a 0), .ref (b 0)]))] (wC cI cZ b T) (fun v => (v, T)) (fun v => rfl) rfl (m_X0_has h)) c_RX5_111 wO_5 rfl ⟨Nat.le_of_ble_eq_true rfl, Nat.le_of_ble_eq_true rfl⟩ ⟨rfl, rfl⟩ ⟨Nat.le_of_ble_eq_true rfl, Nat.le_of_ble_eq_true rfl⟩ (As := [.int x1]) rfl hl.1 rfl (Nat.le_of_ble_eq_true rfl) dX5_attemptTask_8 (fun r2 u2 H locs h I => ?_)
  obtain ⟨M1, rfl, h⟩ := h
  refine lv_if_eq (pc := 11) (tgt := 29) hx hb dX5_attemptTask_11 (by decide) (fun g3 => ?_) (fun g3 => ?_)
  · have h := h.1 g3
    refine lv_bipush (pc := 29) (v := (-3)) hx hb dX5_attemptTask_29 (by decide) ?_
    exact x_ireti (pc := 31) C I hr hlocks h dX5_attemptTask_31
  · have h := h.2 g3
    refine lv_aload_n (pc := 14) hx hb dX5_attemptTask_14 rfl (lv_at hl 0 rfl) ?_
    refine x_get (pc := 15) C I wO_0 rfl inlX5 (k := 0) q_1_15 (by decide) rfl rfl dX5_attemptTask_15 ?_
    refine x_get (pc := 18) C I wO_1 rfl inlX1 (k := 3) q_22_14 (by decide) rfl rfl dX5_attemptTask_18 ?_
    refine x_get (pc := 21) C I wO_5 rfl inlX0 (k := 1) q_23_0 (by decide) rfl rfl dX5_attemptTask_21 ?_
    refine lv_iload_n (pc := 24) hx hb dX5_attemptTask_24 rfl (lv_at hl 1 rfl) ?_
    obtain ⟨g4, h⟩ := h
    refine x_ald (pc := 25) C I wO_16 g4 dX5_attemptTask_25 ?_
    refine lv_goto (pc := 26) (tgt := 31) hx hb dX5_attemptTask_26 (by decide) ?_
    exact x_ireti (pc := 31) C I hr hlocks h dX5_attemptTask_31
def V_X5_attemptNode (M T : xM) (x1 : Int32) (post : Int32 → xM × xM → Prop) : Prop := (V_X0_has M x1 (fun r2 M1 => ((r2 = 0 → post (-3) (M1, T)) ∧ (¬ r2 = 0 → (vp_in x1 200 ∧ post (M1 16 (x1).toNatClampNeg) (M1, T))))))
set_option maxHeartbeats 4000000 in
set_option maxRecDepth 100000 in
theorem m_X5_attemptNode {l : Launch} {D : va_G} {cI cZ : ClassId} {x : Nat} {a b : Nat → Nat} {M T : xM} {x1 : Int32} {post : Int32 → xM × xM → Prop} (h : V_X5_attemptNode M T x1 post) : xMi l yX5_attemptNode cX5_attemptNode 2 (some .int) { frames := 1, cells := 0, slots := 0, locals := 21 } D cI cZ (wO cI cZ x a b) (M, T) [.ref x, .int x1] post := by
  refine x_bodyi (own := RX5) (by decide) rfl (Nat.le_of_ble_eq_true rfl) ?_
  intro p e s m below meth c A ls C hr hlocks hA I hl
  have hx := C.1.1
  have hb := C.1.2.1
  have hl : lv_has ls 2 [(0, .ref x), (1, .int x1)] := hl
  unfold V_X5_attemptNode at h
  refine lv_aload_n (pc := 0) hx hb dX5_attemptNode_0 rfl (lv_at hl 0 rfl) ?_
  refine x_get (pc := 1) C I wO_0 rfl inlX5 (k := 0) q_1_15 (by decide) rfl rfl dX5_attemptNode_1 ?_
  refine x_get (pc := 4) C I wO_1 rfl inlX1 (k := 3) q_22_14 (by decide) rfl rfl dX5_attemptNode_4 ?_
  refine lv_iload_n (pc := 7) hx hb dX5_attemptNode_7 rfl (lv_at hl 1 rfl) ?_
  refine x_calli (pc := 8) C I hA (x_liftiX [(x, .inr (5, [.ref (a 0), .ref (b 0)]))] (wC cI cZ b T) (fun v => (v, T)) (fun v => rfl) rfl (m_X0_has h)) c_RX5_111 wO_5 rfl ⟨Nat.le_of_ble_eq_true rfl, Nat.le_of_ble_eq_true rfl⟩ ⟨rfl, rfl⟩ ⟨Nat.le_of_ble_eq_true rfl, Nat.le_of_ble_eq_true rfl⟩ (As := [.int x1]) rfl hl.1 rfl (Nat.le_of_ble_eq_true rfl) dX5_attemptNode_8 (fun r2 u2 H locs h I => ?_)
  obtain ⟨M1, rfl, h⟩ := h
  refine lv_if_eq (pc := 11) (tgt := 29) hx hb dX5_attemptNode_11 (by decide) (fun g3 => ?_) (fun g3 => ?_)
  · have h := h.1 g3
    refine lv_bipush (pc := 29) (v := (-3)) hx hb dX5_attemptNode_29 (by decide) ?_
    exact x_ireti (pc := 31) C I hr hlocks h dX5_attemptNode_31
  · have h := h.2 g3
    refine lv_aload_n (pc := 14) hx hb dX5_attemptNode_14 rfl (lv_at hl 0 rfl) ?_
    refine x_get (pc := 15) C I wO_0 rfl inlX5 (k := 0) q_1_15 (by decide) rfl rfl dX5_attemptNode_15 ?_
    refine x_get (pc := 18) C I wO_1 rfl inlX1 (k := 3) q_22_14 (by decide) rfl rfl dX5_attemptNode_18 ?_
    refine x_get (pc := 21) C I wO_5 rfl inlX0 (k := 2) q_23_17 (by decide) rfl rfl dX5_attemptNode_21 ?_
    refine lv_iload_n (pc := 24) hx hb dX5_attemptNode_24 rfl (lv_at hl 1 rfl) ?_
    obtain ⟨g4, h⟩ := h
    refine x_ald (pc := 25) C I wO_17 g4 dX5_attemptNode_25 ?_
    refine lv_goto (pc := 26) (tgt := 31) hx hb dX5_attemptNode_26 (by decide) ?_
    exact x_ireti (pc := 31) C I hr hlocks h dX5_attemptNode_31
def V_X5_attemptState (M T : xM) (x1 : Int32) (post : Int32 → xM × xM → Prop) : Prop := (V_X0_has M x1 (fun r2 M1 => ((r2 = 0 → post (-3) (M1, T)) ∧ (¬ r2 = 0 → (vp_in x1 200 ∧ post (M1 17 (x1).toNatClampNeg) (M1, T))))))
set_option maxHeartbeats 4000000 in
set_option maxRecDepth 100000 in
theorem m_X5_attemptState {l : Launch} {D : va_G} {cI cZ : ClassId} {x : Nat} {a b : Nat → Nat} {M T : xM} {x1 : Int32} {post : Int32 → xM × xM → Prop} (h : V_X5_attemptState M T x1 post) : xMi l yX5_attemptState cX5_attemptState 2 (some .int) { frames := 1, cells := 0, slots := 0, locals := 21 } D cI cZ (wO cI cZ x a b) (M, T) [.ref x, .int x1] post := by
  refine x_bodyi (own := RX5) (by decide) rfl (Nat.le_of_ble_eq_true rfl) ?_
  intro p e s m below meth c A ls C hr hlocks hA I hl
  have hx := C.1.1
  have hb := C.1.2.1
  have hl : lv_has ls 2 [(0, .ref x), (1, .int x1)] := hl
  unfold V_X5_attemptState at h
  refine lv_aload_n (pc := 0) hx hb dX5_attemptState_0 rfl (lv_at hl 0 rfl) ?_
  refine x_get (pc := 1) C I wO_0 rfl inlX5 (k := 0) q_1_15 (by decide) rfl rfl dX5_attemptState_1 ?_
  refine x_get (pc := 4) C I wO_1 rfl inlX1 (k := 3) q_22_14 (by decide) rfl rfl dX5_attemptState_4 ?_
  refine lv_iload_n (pc := 7) hx hb dX5_attemptState_7 rfl (lv_at hl 1 rfl) ?_
  refine x_calli (pc := 8) C I hA (x_liftiX [(x, .inr (5, [.ref (a 0), .ref (b 0)]))] (wC cI cZ b T) (fun v => (v, T)) (fun v => rfl) rfl (m_X0_has h)) c_RX5_111 wO_5 rfl ⟨Nat.le_of_ble_eq_true rfl, Nat.le_of_ble_eq_true rfl⟩ ⟨rfl, rfl⟩ ⟨Nat.le_of_ble_eq_true rfl, Nat.le_of_ble_eq_true rfl⟩ (As := [.int x1]) rfl hl.1 rfl (Nat.le_of_ble_eq_true rfl) dX5_attemptState_8 (fun r2 u2 H locs h I => ?_)
  obtain ⟨M1, rfl, h⟩ := h
  refine lv_if_eq (pc := 11) (tgt := 29) hx hb dX5_attemptState_11 (by decide) (fun g3 => ?_) (fun g3 => ?_)
  · have h := h.1 g3
    refine lv_bipush (pc := 29) (v := (-3)) hx hb dX5_attemptState_29 (by decide) ?_
    exact x_ireti (pc := 31) C I hr hlocks h dX5_attemptState_31
  · have h := h.2 g3
    refine lv_aload_n (pc := 14) hx hb dX5_attemptState_14 rfl (lv_at hl 0 rfl) ?_
    refine x_get (pc := 15) C I wO_0 rfl inlX5 (k := 0) q_1_15 (by decide) rfl rfl dX5_attemptState_15 ?_
    refine x_get (pc := 18) C I wO_1 rfl inlX1 (k := 3) q_22_14 (by decide) rfl rfl dX5_attemptState_18 ?_
    refine x_get (pc := 21) C I wO_5 rfl inlX0 (k := 3) q_24_2 (by decide) rfl rfl dX5_attemptState_21 ?_
    refine lv_iload_n (pc := 24) hx hb dX5_attemptState_24 rfl (lv_at hl 1 rfl) ?_
    obtain ⟨g4, h⟩ := h
    refine x_ald (pc := 25) C I wO_18 g4 dX5_attemptState_25 ?_
    refine lv_goto (pc := 26) (tgt := 31) hx hb dX5_attemptState_26 (by decide) ?_
    exact x_ireti (pc := 31) C I hr hlocks h dX5_attemptState_31
def V_X5_isSpeculative (M T : xM) (x1 : Int32) (post : Int32 → xM × xM → Prop) : Prop := (V_X0_has M x1 (fun r2 M1 => ((r2 = 0 → post (-3) (M1, T)) ∧ (¬ r2 = 0 → (vp_in x1 200 ∧ (((M1 18 (x1).toNatClampNeg) = 0 → post 0 (M1, T)) ∧ (¬ (M1 18 (x1).toNatClampNeg) = 0 → post 1 (M1, T))))))))
set_option maxHeartbeats 4000000 in
set_option maxRecDepth 100000 in
theorem m_X5_isSpeculative {l : Launch} {D : va_G} {cI cZ : ClassId} {x : Nat} {a b : Nat → Nat} {M T : xM} {x1 : Int32} {post : Int32 → xM × xM → Prop} (h : V_X5_isSpeculative M T x1 post) : xMi l yX5_isSpeculative cX5_isSpeculative 2 (some .int) { frames := 1, cells := 0, slots := 0, locals := 21 } D cI cZ (wO cI cZ x a b) (M, T) [.ref x, .int x1] post := by
  refine x_bodyi (own := RX5) (by decide) rfl (Nat.le_of_ble_eq_true rfl) ?_
  intro p e s m below meth c A ls C hr hlocks hA I hl
  have hx := C.1.1
  have hb := C.1.2.1
  have hl : lv_has ls 2 [(0, .ref x), (1, .int x1)] := hl
  unfold V_X5_isSpeculative at h
  refine lv_aload_n (pc := 0) hx hb dX5_isSpeculative_0 rfl (lv_at hl 0 rfl) ?_
  refine x_get (pc := 1) C I wO_0 rfl inlX5 (k := 0) q_1_15 (by decide) rfl rfl dX5_isSpeculative_1 ?_
  refine x_get (pc := 4) C I wO_1 rfl inlX1 (k := 3) q_22_14 (by decide) rfl rfl dX5_isSpeculative_4 ?_
  refine lv_iload_n (pc := 7) hx hb dX5_isSpeculative_7 rfl (lv_at hl 1 rfl) ?_
  refine x_calli (pc := 8) C I hA (x_liftiX [(x, .inr (5, [.ref (a 0), .ref (b 0)]))] (wC cI cZ b T) (fun v => (v, T)) (fun v => rfl) rfl (m_X0_has h)) c_RX5_111 wO_5 rfl ⟨Nat.le_of_ble_eq_true rfl, Nat.le_of_ble_eq_true rfl⟩ ⟨rfl, rfl⟩ ⟨Nat.le_of_ble_eq_true rfl, Nat.le_of_ble_eq_true rfl⟩ (As := [.int x1]) rfl hl.1 rfl (Nat.le_of_ble_eq_true rfl) dX5_isSpeculative_8 (fun r2 u2 H locs h I => ?_)
  obtain ⟨M1, rfl, h⟩ := h
  refine lv_if_ne (pc := 11) (tgt := 17) hx hb dX5_isSpeculative_11 (by decide) (fun g3 => ?_) (fun g3 => ?_)
  · have h := h.2 g3
    refine lv_aload_n (pc := 17) hx hb dX5_isSpeculative_17 rfl (lv_at hl 0 rfl) ?_
    refine x_get (pc := 18) C I wO_0 rfl inlX5 (k := 0) q_1_15 (by decide) rfl rfl dX5_isSpeculative_18 ?_
    refine x_get (pc := 21) C I wO_1 rfl inlX1 (k := 3) q_22_14 (by decide) rfl rfl dX5_isSpeculative_21 ?_
    refine x_get (pc := 24) C I wO_5 rfl inlX0 (k := 4) q_24_11 (by decide) rfl rfl dX5_isSpeculative_24 ?_
    refine lv_iload_n (pc := 27) hx hb dX5_isSpeculative_27 rfl (lv_at hl 1 rfl) ?_
    obtain ⟨g4, h⟩ := h
    refine x_zld (pc := 28) C I wO_19 g4 dX5_isSpeculative_28 ?_
    refine lv_if_eq (pc := 29) (tgt := 36) hx hb dX5_isSpeculative_29 (by decide) (fun g5 => ?_) (fun g5 => ?_)
    · have h := h.1 g5
      refine lv_iconst (pc := 36) (v := 0) hx hb dX5_isSpeculative_36 (by decide) ?_
      exact x_ireti (pc := 37) C I hr hlocks h dX5_isSpeculative_37
    · have h := h.2 g5
      refine lv_iconst (pc := 32) (v := 1) hx hb dX5_isSpeculative_32 (by decide) ?_
      refine lv_goto (pc := 33) (tgt := 37) hx hb dX5_isSpeculative_33 (by decide) ?_
      exact x_ireti (pc := 37) C I hr hlocks h dX5_isSpeculative_37
  · have h := h.1 g3
    refine lv_bipush (pc := 14) (v := (-3)) hx hb dX5_isSpeculative_14 (by decide) ?_
    exact x_ireti (pc := 16) C I hr hlocks h dX5_isSpeculative_16
def V_X5_progress (M T : xM) (x1 : Int32) (post : Int32 → xM × xM → Prop) : Prop := (V_X0_has M x1 (fun r2 M1 => ((r2 = 0 → post (-3) (M1, T)) ∧ (¬ r2 = 0 → (vp_in x1 200 ∧ post (M1 21 (x1).toNatClampNeg) (M1, T))))))
set_option maxHeartbeats 4000000 in
set_option maxRecDepth 100000 in
theorem m_X5_progress {l : Launch} {D : va_G} {cI cZ : ClassId} {x : Nat} {a b : Nat → Nat} {M T : xM} {x1 : Int32} {post : Int32 → xM × xM → Prop} (h : V_X5_progress M T x1 post) : xMi l yX5_progress cX5_progress 2 (some .int) { frames := 1, cells := 0, slots := 0, locals := 21 } D cI cZ (wO cI cZ x a b) (M, T) [.ref x, .int x1] post := by
  refine x_bodyi (own := RX5) (by decide) rfl (Nat.le_of_ble_eq_true rfl) ?_
  intro p e s m below meth c A ls C hr hlocks hA I hl
  have hx := C.1.1
  have hb := C.1.2.1
  have hl : lv_has ls 2 [(0, .ref x), (1, .int x1)] := hl
  unfold V_X5_progress at h
  refine lv_aload_n (pc := 0) hx hb dX5_progress_0 rfl (lv_at hl 0 rfl) ?_
  refine x_get (pc := 1) C I wO_0 rfl inlX5 (k := 0) q_1_15 (by decide) rfl rfl dX5_progress_1 ?_
  refine x_get (pc := 4) C I wO_1 rfl inlX1 (k := 3) q_22_14 (by decide) rfl rfl dX5_progress_4 ?_
  refine lv_iload_n (pc := 7) hx hb dX5_progress_7 rfl (lv_at hl 1 rfl) ?_
  refine x_calli (pc := 8) C I hA (x_liftiX [(x, .inr (5, [.ref (a 0), .ref (b 0)]))] (wC cI cZ b T) (fun v => (v, T)) (fun v => rfl) rfl (m_X0_has h)) c_RX5_111 wO_5 rfl ⟨Nat.le_of_ble_eq_true rfl, Nat.le_of_ble_eq_true rfl⟩ ⟨rfl, rfl⟩ ⟨Nat.le_of_ble_eq_true rfl, Nat.le_of_ble_eq_true rfl⟩ (As := [.int x1]) rfl hl.1 rfl (Nat.le_of_ble_eq_true rfl) dX5_progress_8 (fun r2 u2 H locs h I => ?_)
  obtain ⟨M1, rfl, h⟩ := h
  refine lv_if_eq (pc := 11) (tgt := 29) hx hb dX5_progress_11 (by decide) (fun g3 => ?_) (fun g3 => ?_)
  · have h := h.1 g3
    refine lv_bipush (pc := 29) (v := (-3)) hx hb dX5_progress_29 (by decide) ?_
    exact x_ireti (pc := 31) C I hr hlocks h dX5_progress_31
  · have h := h.2 g3
    refine lv_aload_n (pc := 14) hx hb dX5_progress_14 rfl (lv_at hl 0 rfl) ?_
    refine x_get (pc := 15) C I wO_0 rfl inlX5 (k := 0) q_1_15 (by decide) rfl rfl dX5_progress_15 ?_
    refine x_get (pc := 18) C I wO_1 rfl inlX1 (k := 3) q_22_14 (by decide) rfl rfl dX5_progress_18 ?_
    refine x_get (pc := 21) C I wO_5 rfl inlX0 (k := 7) q_24_20 (by decide) rfl rfl dX5_progress_21 ?_
    refine lv_iload_n (pc := 24) hx hb dX5_progress_24 rfl (lv_at hl 1 rfl) ?_
    obtain ⟨g4, h⟩ := h
    refine x_ald (pc := 25) C I wO_22 g4 dX5_progress_25 ?_
    refine lv_goto (pc := 26) (tgt := 31) hx hb dX5_progress_26 (by decide) ?_
    exact x_ireti (pc := 31) C I hr hlocks h dX5_progress_31
def V_X5_remainingTime (M T : xM) (x1 : Int32) (post : Int32 → xM × xM → Prop) : Prop := (V_X0_has M x1 (fun r2 M1 => ((r2 = 0 → post (-3) (M1, T)) ∧ (¬ r2 = 0 → (vp_in x1 200 ∧ (((M1 17 (x1).toNatClampNeg) = 1 → (V_X0_remaining M1 x1 (fun r7 M6 => post r7 (M6, T)))) ∧ (¬ (M1 17 (x1).toNatClampNeg) = 1 → post (-6) (M1, T))))))))
set_option maxHeartbeats 4000000 in
set_option maxRecDepth 100000 in
theorem m_X5_remainingTime {l : Launch} {D : va_G} {cI cZ : ClassId} {x : Nat} {a b : Nat → Nat} {M T : xM} {x1 : Int32} {post : Int32 → xM × xM → Prop} (h : V_X5_remainingTime M T x1 post) : xMi l yX5_remainingTime cX5_remainingTime 2 (some .int) { frames := 1, cells := 0, slots := 0, locals := 22 } D cI cZ (wO cI cZ x a b) (M, T) [.ref x, .int x1] post := by
  refine x_bodyi (own := RX5) (by decide) rfl (Nat.le_of_ble_eq_true rfl) ?_
  intro p e s m below meth c A ls C hr hlocks hA I hl
  have hx := C.1.1
  have hb := C.1.2.1
  have hl : lv_has ls 2 [(0, .ref x), (1, .int x1)] := hl
  unfold V_X5_remainingTime at h
  refine lv_aload_n (pc := 0) hx hb dX5_remainingTime_0 rfl (lv_at hl 0 rfl) ?_
  refine x_get (pc := 1) C I wO_0 rfl inlX5 (k := 0) q_1_15 (by decide) rfl rfl dX5_remainingTime_1 ?_
  refine x_get (pc := 4) C I wO_1 rfl inlX1 (k := 3) q_22_14 (by decide) rfl rfl dX5_remainingTime_4 ?_
  refine lv_iload_n (pc := 7) hx hb dX5_remainingTime_7 rfl (lv_at hl 1 rfl) ?_
  refine x_calli (pc := 8) C I hA (x_liftiX [(x, .inr (5, [.ref (a 0), .ref (b 0)]))] (wC cI cZ b T) (fun v => (v, T)) (fun v => rfl) rfl (m_X0_has h)) c_RX5_111 wO_5 rfl ⟨Nat.le_of_ble_eq_true rfl, Nat.le_of_ble_eq_true rfl⟩ ⟨rfl, rfl⟩ ⟨Nat.le_of_ble_eq_true rfl, Nat.le_of_ble_eq_true rfl⟩ (As := [.int x1]) rfl hl.1 rfl (Nat.le_of_ble_eq_true rfl) dX5_remainingTime_8 (fun r2 u2 H locs h I => ?_)
  obtain ⟨M1, rfl, h⟩ := h
  refine lv_if_ne (pc := 11) (tgt := 17) hx hb dX5_remainingTime_11 (by decide) (fun g3 => ?_) (fun g3 => ?_)
  · have h := h.2 g3
    refine lv_aload_n (pc := 17) hx hb dX5_remainingTime_17 rfl (lv_at hl 0 rfl) ?_
    refine x_get (pc := 18) C I wO_0 rfl inlX5 (k := 0) q_1_15 (by decide) rfl rfl dX5_remainingTime_18 ?_
    refine x_get (pc := 21) C I wO_1 rfl inlX1 (k := 3) q_22_14 (by decide) rfl rfl dX5_remainingTime_21 ?_
    refine x_get (pc := 24) C I wO_5 rfl inlX0 (k := 3) q_24_2 (by decide) rfl rfl dX5_remainingTime_24 ?_
    refine lv_iload_n (pc := 27) hx hb dX5_remainingTime_27 rfl (lv_at hl 1 rfl) ?_
    obtain ⟨g4, h⟩ := h
    refine x_ald (pc := 28) C I wO_18 g4 dX5_remainingTime_28 ?_
    refine lv_iconst (pc := 29) (v := 1) hx hb dX5_remainingTime_29 (by decide) ?_
    refine lv_icmp_ne (pc := 30) (tgt := 47) hx hb dX5_remainingTime_30 (by decide) (fun g5 => ?_) (fun g5 => ?_)
    · have h := h.2 g5
      refine lv_bipush (pc := 47) (v := (-6)) hx hb dX5_remainingTime_47 (by decide) ?_
      exact x_ireti (pc := 49) C I hr hlocks h dX5_remainingTime_49
    · have h := h.1 g5
      refine lv_aload_n (pc := 33) hx hb dX5_remainingTime_33 rfl (lv_at hl 0 rfl) ?_
      refine x_get (pc := 34) C I wO_0 rfl inlX5 (k := 0) q_1_15 (by decide) rfl rfl dX5_remainingTime_34 ?_
      refine x_get (pc := 37) C I wO_1 rfl inlX1 (k := 3) q_22_14 (by decide) rfl rfl dX5_remainingTime_37 ?_
      refine lv_iload_n (pc := 40) hx hb dX5_remainingTime_40 rfl (lv_at hl 1 rfl) ?_
      refine x_calli (pc := 41) C I hA (x_liftiX [(x, .inr (5, [.ref (a 0), .ref (b 0)]))] (wC cI cZ b T) (fun v => (v, T)) (fun v => rfl) rfl (m_X0_remaining h)) c_RX5_127 wO_5 rfl ⟨Nat.le_of_ble_eq_true rfl, Nat.le_of_ble_eq_true rfl⟩ ⟨rfl, rfl⟩ ⟨Nat.le_of_ble_eq_true rfl, Nat.le_of_ble_eq_true rfl⟩ (As := [.int x1]) rfl hl.1 rfl (Nat.le_of_ble_eq_true rfl) dX5_remainingTime_41 (fun r7 u2 H locs h I => ?_)
      obtain ⟨M6, rfl, h⟩ := h
      refine lv_goto (pc := 44) (tgt := 49) hx hb dX5_remainingTime_44 (by decide) ?_
      exact x_ireti (pc := 49) C I hr hlocks h dX5_remainingTime_49
  · have h := h.1 g3
    refine lv_bipush (pc := 14) (v := (-3)) hx hb dX5_remainingTime_14 (by decide) ?_
    exact x_ireti (pc := 16) C I hr hlocks h dX5_remainingTime_16
def V_X5_nodeScore (M T : xM) (x1 : Int32) (post : Int32 → xM × xM → Prop) : Prop := (V_X2_has M x1 (fun r2 M1 => ((r2 = 0 → post (-1) (M1, T)) ∧ (¬ r2 = 0 → (V_X2_score M1 x1 (fun r5 M4 => post r5 (M4, T)))))))
set_option maxHeartbeats 4000000 in
set_option maxRecDepth 100000 in
theorem m_X5_nodeScore {l : Launch} {D : va_G} {cI cZ : ClassId} {x : Nat} {a b : Nat → Nat} {M T : xM} {x1 : Int32} {post : Int32 → xM × xM → Prop} (h : V_X5_nodeScore M T x1 post) : xMi l yX5_nodeScore cX5_nodeScore 2 (some .int) { frames := 1, cells := 0, slots := 0, locals := 21 } D cI cZ (wO cI cZ x a b) (M, T) [.ref x, .int x1] post := by
  refine x_bodyi (own := RX5) (by decide) rfl (Nat.le_of_ble_eq_true rfl) ?_
  intro p e s m below meth c A ls C hr hlocks hA I hl
  have hx := C.1.1
  have hb := C.1.2.1
  have hl : lv_has ls 2 [(0, .ref x), (1, .int x1)] := hl
  unfold V_X5_nodeScore at h
  refine lv_aload_n (pc := 0) hx hb dX5_nodeScore_0 rfl (lv_at hl 0 rfl) ?_
  refine x_get (pc := 1) C I wO_0 rfl inlX5 (k := 0) q_1_15 (by decide) rfl rfl dX5_nodeScore_1 ?_
  refine x_get (pc := 4) C I wO_1 rfl inlX1 (k := 1) q_5_14 (by decide) rfl rfl dX5_nodeScore_4 ?_
  refine lv_iload_n (pc := 7) hx hb dX5_nodeScore_7 rfl (lv_at hl 1 rfl) ?_
  refine x_calli (pc := 8) C I hA (x_liftiX [(x, .inr (5, [.ref (a 0), .ref (b 0)]))] (wC cI cZ b T) (fun v => (v, T)) (fun v => rfl) rfl (m_X2_has h)) c_RX5_33 wO_3 rfl ⟨Nat.le_of_ble_eq_true rfl, Nat.le_of_ble_eq_true rfl⟩ ⟨rfl, rfl⟩ ⟨Nat.le_of_ble_eq_true rfl, Nat.le_of_ble_eq_true rfl⟩ (As := [.int x1]) rfl hl.1 rfl (Nat.le_of_ble_eq_true rfl) dX5_nodeScore_8 (fun r2 u2 H locs h I => ?_)
  obtain ⟨M1, rfl, h⟩ := h
  refine lv_if_eq (pc := 11) (tgt := 28) hx hb dX5_nodeScore_11 (by decide) (fun g3 => ?_) (fun g3 => ?_)
  · have h := h.1 g3
    refine lv_iconst (pc := 28) (v := (-1)) hx hb dX5_nodeScore_28 (by decide) ?_
    exact x_ireti (pc := 29) C I hr hlocks h dX5_nodeScore_29
  · have h := h.2 g3
    refine lv_aload_n (pc := 14) hx hb dX5_nodeScore_14 rfl (lv_at hl 0 rfl) ?_
    refine x_get (pc := 15) C I wO_0 rfl inlX5 (k := 0) q_1_15 (by decide) rfl rfl dX5_nodeScore_15 ?_
    refine x_get (pc := 18) C I wO_1 rfl inlX1 (k := 1) q_5_14 (by decide) rfl rfl dX5_nodeScore_18 ?_
    refine lv_iload_n (pc := 21) hx hb dX5_nodeScore_21 rfl (lv_at hl 1 rfl) ?_
    refine x_calli (pc := 22) C I hA (x_liftiX [(x, .inr (5, [.ref (a 0), .ref (b 0)]))] (wC cI cZ b T) (fun v => (v, T)) (fun v => rfl) rfl (m_X2_score h)) c_RX5_130 wO_3 rfl ⟨Nat.le_of_ble_eq_true rfl, Nat.le_of_ble_eq_true rfl⟩ ⟨rfl, rfl⟩ ⟨Nat.le_of_ble_eq_true rfl, Nat.le_of_ble_eq_true rfl⟩ (As := [.int x1]) rfl hl.1 rfl (Nat.le_of_ble_eq_true rfl) dX5_nodeScore_22 (fun r5 u2 H locs h I => ?_)
    obtain ⟨M4, rfl, h⟩ := h
    refine lv_goto (pc := 25) (tgt := 29) hx hb dX5_nodeScore_25 (by decide) ?_
    exact x_ireti (pc := 29) C I hr hlocks h dX5_nodeScore_29
def V_X5_isSlowNode (M T : xM) (x1 : Int32) (post : Int32 → xM × xM → Prop) : Prop := (V_X2_has M x1 (fun r2 M1 => ((r2 = 0 → post (-1) (M1, T)) ∧ (¬ r2 = 0 → (V_X2_isSlow M1 x1 (M1 1 4) (fun r5 M4 => ((r5 = 0 → post 0 (M4, T)) ∧ (¬ r5 = 0 → post 1 (M4, T)))))))))
set_option maxHeartbeats 4000000 in
set_option maxRecDepth 100000 in
theorem m_X5_isSlowNode {l : Launch} {D : va_G} {cI cZ : ClassId} {x : Nat} {a b : Nat → Nat} {M T : xM} {x1 : Int32} {post : Int32 → xM × xM → Prop} (h : V_X5_isSlowNode M T x1 post) : xMi l yX5_isSlowNode cX5_isSlowNode 2 (some .int) { frames := 3, cells := 0, slots := 0, locals := 66 } D cI cZ (wO cI cZ x a b) (M, T) [.ref x, .int x1] post := by
  refine x_bodyi (own := RX5) (by decide) rfl (Nat.le_of_ble_eq_true rfl) ?_
  intro p e s m below meth c A ls C hr hlocks hA I hl
  have hx := C.1.1
  have hb := C.1.2.1
  have hl : lv_has ls 2 [(0, .ref x), (1, .int x1)] := hl
  unfold V_X5_isSlowNode at h
  refine lv_aload_n (pc := 0) hx hb dX5_isSlowNode_0 rfl (lv_at hl 0 rfl) ?_
  refine x_get (pc := 1) C I wO_0 rfl inlX5 (k := 0) q_1_15 (by decide) rfl rfl dX5_isSlowNode_1 ?_
  refine x_get (pc := 4) C I wO_1 rfl inlX1 (k := 1) q_5_14 (by decide) rfl rfl dX5_isSlowNode_4 ?_
  refine lv_iload_n (pc := 7) hx hb dX5_isSlowNode_7 rfl (lv_at hl 1 rfl) ?_
  refine x_calli (pc := 8) C I hA (x_liftiX [(x, .inr (5, [.ref (a 0), .ref (b 0)]))] (wC cI cZ b T) (fun v => (v, T)) (fun v => rfl) rfl (m_X2_has h)) c_RX5_33 wO_3 rfl ⟨Nat.le_of_ble_eq_true rfl, Nat.le_of_ble_eq_true rfl⟩ ⟨rfl, rfl⟩ ⟨Nat.le_of_ble_eq_true rfl, Nat.le_of_ble_eq_true rfl⟩ (As := [.int x1]) rfl hl.1 rfl (Nat.le_of_ble_eq_true rfl) dX5_isSlowNode_8 (fun r2 u2 H locs h I => ?_)
  obtain ⟨M1, rfl, h⟩ := h
  refine lv_if_ne (pc := 11) (tgt := 16) hx hb dX5_isSlowNode_11 (by decide) (fun g3 => ?_) (fun g3 => ?_)
  · have h := h.2 g3
    refine lv_aload_n (pc := 16) hx hb dX5_isSlowNode_16 rfl (lv_at hl 0 rfl) ?_
    refine x_get (pc := 17) C I wO_0 rfl inlX5 (k := 0) q_1_15 (by decide) rfl rfl dX5_isSlowNode_17 ?_
    refine x_get (pc := 20) C I wO_1 rfl inlX1 (k := 1) q_5_14 (by decide) rfl rfl dX5_isSlowNode_20 ?_
    refine lv_iload_n (pc := 23) hx hb dX5_isSlowNode_23 rfl (lv_at hl 1 rfl) ?_
    refine lv_aload_n (pc := 24) hx hb dX5_isSlowNode_24 rfl (lv_at hl 0 rfl) ?_
    refine x_get (pc := 25) C I wO_0 rfl inlX5 (k := 0) q_1_15 (by decide) rfl rfl dX5_isSlowNode_25 ?_
    refine x_get (pc := 28) C I wO_1 rfl inlX1 (k := 0) q_9_10 (by decide) rfl rfl dX5_isSlowNode_28 ?_
    refine x_get (pc := 31) C I wO_2 rfl inlX3 (k := 4) q_10_10 (by decide) rfl rfl dX5_isSlowNode_31 ?_
    refine x_calli (pc := 34) C I hA (x_liftiX [(x, .inr (5, [.ref (a 0), .ref (b 0)]))] (wC cI cZ b T) (fun v => (v, T)) (fun v => rfl) rfl (m_X2_isSlow h)) c_RX5_133 wO_3 rfl ⟨Nat.le_of_ble_eq_true rfl, Nat.le_of_ble_eq_true rfl⟩ ⟨rfl, rfl⟩ ⟨Nat.le_of_ble_eq_true rfl, Nat.le_of_ble_eq_true rfl⟩ (As := [.int x1, .int (M1 1 4)]) rfl hl.1 rfl (Nat.le_of_ble_eq_true rfl) dX5_isSlowNode_34 (fun r5 u2 H locs h I => ?_)
    obtain ⟨M4, rfl, h⟩ := h
    refine lv_if_eq (pc := 37) (tgt := 44) hx hb dX5_isSlowNode_37 (by decide) (fun g6 => ?_) (fun g6 => ?_)
    · have h := h.1 g6
      refine lv_iconst (pc := 44) (v := 0) hx hb dX5_isSlowNode_44 (by decide) ?_
      exact x_ireti (pc := 45) C I hr hlocks h dX5_isSlowNode_45
    · have h := h.2 g6
      refine lv_iconst (pc := 40) (v := 1) hx hb dX5_isSlowNode_40 (by decide) ?_
      refine lv_goto (pc := 41) (tgt := 45) hx hb dX5_isSlowNode_41 (by decide) ?_
      exact x_ireti (pc := 45) C I hr hlocks h dX5_isSlowNode_45
  · have h := h.1 g3
    refine lv_iconst (pc := 14) (v := (-1)) hx hb dX5_isSlowNode_14 (by decide) ?_
    exact x_ireti (pc := 15) C I hr hlocks h dX5_isSlowNode_15
def V_X5_runningOn (M T : xM) (x1 : Int32) (post : Int32 → xM × xM → Prop) : Prop := (V_X2_has M x1 (fun r2 M1 => ((r2 = 0 → post (-1) (M1, T)) ∧ (¬ r2 = 0 → (vp_in x1 8 ∧ post (M1 8 (x1).toNatClampNeg) (M1, T))))))
set_option maxHeartbeats 4000000 in
set_option maxRecDepth 100000 in
theorem m_X5_runningOn {l : Launch} {D : va_G} {cI cZ : ClassId} {x : Nat} {a b : Nat → Nat} {M T : xM} {x1 : Int32} {post : Int32 → xM × xM → Prop} (h : V_X5_runningOn M T x1 post) : xMi l yX5_runningOn cX5_runningOn 2 (some .int) { frames := 1, cells := 0, slots := 0, locals := 21 } D cI cZ (wO cI cZ x a b) (M, T) [.ref x, .int x1] post := by
  refine x_bodyi (own := RX5) (by decide) rfl (Nat.le_of_ble_eq_true rfl) ?_
  intro p e s m below meth c A ls C hr hlocks hA I hl
  have hx := C.1.1
  have hb := C.1.2.1
  have hl : lv_has ls 2 [(0, .ref x), (1, .int x1)] := hl
  unfold V_X5_runningOn at h
  refine lv_aload_n (pc := 0) hx hb dX5_runningOn_0 rfl (lv_at hl 0 rfl) ?_
  refine x_get (pc := 1) C I wO_0 rfl inlX5 (k := 0) q_1_15 (by decide) rfl rfl dX5_runningOn_1 ?_
  refine x_get (pc := 4) C I wO_1 rfl inlX1 (k := 1) q_5_14 (by decide) rfl rfl dX5_runningOn_4 ?_
  refine lv_iload_n (pc := 7) hx hb dX5_runningOn_7 rfl (lv_at hl 1 rfl) ?_
  refine x_calli (pc := 8) C I hA (x_liftiX [(x, .inr (5, [.ref (a 0), .ref (b 0)]))] (wC cI cZ b T) (fun v => (v, T)) (fun v => rfl) rfl (m_X2_has h)) c_RX5_33 wO_3 rfl ⟨Nat.le_of_ble_eq_true rfl, Nat.le_of_ble_eq_true rfl⟩ ⟨rfl, rfl⟩ ⟨Nat.le_of_ble_eq_true rfl, Nat.le_of_ble_eq_true rfl⟩ (As := [.int x1]) rfl hl.1 rfl (Nat.le_of_ble_eq_true rfl) dX5_runningOn_8 (fun r2 u2 H locs h I => ?_)
  obtain ⟨M1, rfl, h⟩ := h
  refine lv_if_eq (pc := 11) (tgt := 29) hx hb dX5_runningOn_11 (by decide) (fun g3 => ?_) (fun g3 => ?_)
  · have h := h.1 g3
    refine lv_iconst (pc := 29) (v := (-1)) hx hb dX5_runningOn_29 (by decide) ?_
    exact x_ireti (pc := 30) C I hr hlocks h dX5_runningOn_30
  · have h := h.2 g3
    refine lv_aload_n (pc := 14) hx hb dX5_runningOn_14 rfl (lv_at hl 0 rfl) ?_
    refine x_get (pc := 15) C I wO_0 rfl inlX5 (k := 0) q_1_15 (by decide) rfl rfl dX5_runningOn_15 ?_
    refine x_get (pc := 18) C I wO_1 rfl inlX1 (k := 1) q_5_14 (by decide) rfl rfl dX5_runningOn_18 ?_
    refine x_get (pc := 21) C I wO_3 rfl inlX2 (k := 4) q_26_8 (by decide) rfl rfl dX5_runningOn_21 ?_
    refine lv_iload_n (pc := 24) hx hb dX5_runningOn_24 rfl (lv_at hl 1 rfl) ?_
    obtain ⟨g4, h⟩ := h
    refine x_ald (pc := 25) C I wO_9 g4 dX5_runningOn_25 ?_
    refine lv_goto (pc := 26) (tgt := 30) hx hb dX5_runningOn_26 (by decide) ?_
    exact x_ireti (pc := 30) C I hr hlocks h dX5_runningOn_30
def V_X5_straggler (M T : xM) (post : Int32 → xM × xM → Prop) : Prop := (V_X1_findStraggler M  (fun r2 M1 => post r2 (M1, T)))
set_option maxHeartbeats 4000000 in
set_option maxRecDepth 100000 in
theorem m_X5_straggler {l : Launch} {D : va_G} {cI cZ : ClassId} {x : Nat} {a b : Nat → Nat} {M T : xM} {post : Int32 → xM × xM → Prop} (h : V_X5_straggler M T post) : xMi l yX5_straggler cX5_straggler 1 (some .int) { frames := 3, cells := 0, slots := 0, locals := 68 } D cI cZ (wO cI cZ x a b) (M, T) [.ref x] post := by
  refine x_bodyi (own := RX5) (by decide) rfl (Nat.le_of_ble_eq_true rfl) ?_
  intro p e s m below meth c A ls C hr hlocks hA I hl
  have hx := C.1.1
  have hb := C.1.2.1
  have hl : lv_has ls 1 [(0, .ref x)] := hl
  unfold V_X5_straggler at h
  refine lv_aload_n (pc := 0) hx hb dX5_straggler_0 rfl (lv_at hl 0 rfl) ?_
  refine x_get (pc := 1) C I wO_0 rfl inlX5 (k := 0) q_1_15 (by decide) rfl rfl dX5_straggler_1 ?_
  refine x_calli (pc := 4) C I hA (x_liftiX [(x, .inr (5, [.ref (a 0), .ref (b 0)]))] (wC cI cZ b T) (fun v => (v, T)) (fun v => rfl) rfl (m_X1_findStraggler h)) c_RX5_140 wO_1 rfl ⟨Nat.le_of_ble_eq_true rfl, Nat.le_of_ble_eq_true rfl⟩ ⟨rfl, rfl⟩ ⟨Nat.le_of_ble_eq_true rfl, Nat.le_of_ble_eq_true rfl⟩ (As := []) rfl hl.1 rfl (Nat.le_of_ble_eq_true rfl) dX5_straggler_4 (fun r2 u2 H locs h I => ?_)
  obtain ⟨M1, rfl, h⟩ := h
  exact x_ireti (pc := 7) C I hr hlocks h dX5_straggler_7
def V_X5_runningSpeculative (M T : xM) (post : Int32 → xM × xM → Prop) : Prop := (V_X0_countSpeculative M  (fun r2 M1 => post r2 (M1, T)))
set_option maxHeartbeats 4000000 in
set_option maxRecDepth 100000 in
theorem m_X5_runningSpeculative {l : Launch} {D : va_G} {cI cZ : ClassId} {x : Nat} {a b : Nat → Nat} {M T : xM} {post : Int32 → xM × xM → Prop} (h : V_X5_runningSpeculative M T post) : xMi l yX5_runningSpeculative cX5_runningSpeculative 1 (some .int) { frames := 1, cells := 0, slots := 0, locals := 22 } D cI cZ (wO cI cZ x a b) (M, T) [.ref x] post := by
  refine x_bodyi (own := RX5) (by decide) rfl (Nat.le_of_ble_eq_true rfl) ?_
  intro p e s m below meth c A ls C hr hlocks hA I hl
  have hx := C.1.1
  have hb := C.1.2.1
  have hl : lv_has ls 1 [(0, .ref x)] := hl
  unfold V_X5_runningSpeculative at h
  refine lv_aload_n (pc := 0) hx hb dX5_runningSpeculative_0 rfl (lv_at hl 0 rfl) ?_
  refine x_get (pc := 1) C I wO_0 rfl inlX5 (k := 0) q_1_15 (by decide) rfl rfl dX5_runningSpeculative_1 ?_
  refine x_get (pc := 4) C I wO_1 rfl inlX1 (k := 3) q_22_14 (by decide) rfl rfl dX5_runningSpeculative_4 ?_
  refine x_calli (pc := 7) C I hA (x_liftiX [(x, .inr (5, [.ref (a 0), .ref (b 0)]))] (wC cI cZ b T) (fun v => (v, T)) (fun v => rfl) rfl (m_X0_countSpeculative h)) c_RX5_143 wO_5 rfl ⟨Nat.le_of_ble_eq_true rfl, Nat.le_of_ble_eq_true rfl⟩ ⟨rfl, rfl⟩ ⟨Nat.le_of_ble_eq_true rfl, Nat.le_of_ble_eq_true rfl⟩ (As := []) rfl hl.1 rfl (Nat.le_of_ble_eq_true rfl) dX5_runningSpeculative_7 (fun r2 u2 H locs h I => ?_)
  obtain ⟨M1, rfl, h⟩ := h
  exact x_ireti (pc := 10) C I hr hlocks h dX5_runningSpeculative_10
def V_X5_wastedWork (M T : xM) (post : Int32 → xM × xM → Prop) : Prop := (V_X0_wasted M  (fun r2 M1 => post r2 (M1, T)))
set_option maxHeartbeats 4000000 in
set_option maxRecDepth 100000 in
theorem m_X5_wastedWork {l : Launch} {D : va_G} {cI cZ : ClassId} {x : Nat} {a b : Nat → Nat} {M T : xM} {post : Int32 → xM × xM → Prop} (h : V_X5_wastedWork M T post) : xMi l yX5_wastedWork cX5_wastedWork 1 (some .int) { frames := 1, cells := 0, slots := 0, locals := 22 } D cI cZ (wO cI cZ x a b) (M, T) [.ref x] post := by
  refine x_bodyi (own := RX5) (by decide) rfl (Nat.le_of_ble_eq_true rfl) ?_
  intro p e s m below meth c A ls C hr hlocks hA I hl
  have hx := C.1.1
  have hb := C.1.2.1
  have hl : lv_has ls 1 [(0, .ref x)] := hl
  unfold V_X5_wastedWork at h
  refine lv_aload_n (pc := 0) hx hb dX5_wastedWork_0 rfl (lv_at hl 0 rfl) ?_
  refine x_get (pc := 1) C I wO_0 rfl inlX5 (k := 0) q_1_15 (by decide) rfl rfl dX5_wastedWork_1 ?_
  refine x_get (pc := 4) C I wO_1 rfl inlX1 (k := 3) q_22_14 (by decide) rfl rfl dX5_wastedWork_4 ?_
  refine x_calli (pc := 7) C I hA (x_liftiX [(x, .inr (5, [.ref (a 0), .ref (b 0)]))] (wC cI cZ b T) (fun v => (v, T)) (fun v => rfl) rfl (m_X0_wasted h)) c_RX5_146 wO_5 rfl ⟨Nat.le_of_ble_eq_true rfl, Nat.le_of_ble_eq_true rfl⟩ ⟨rfl, rfl⟩ ⟨Nat.le_of_ble_eq_true rfl, Nat.le_of_ble_eq_true rfl⟩ (As := []) rfl hl.1 rfl (Nat.le_of_ble_eq_true rfl) dX5_wastedWork_7 (fun r2 u2 H locs h I => ?_)
  obtain ⟨M1, rfl, h⟩ := h
  exact x_ireti (pc := 10) C I hr hlocks h dX5_wastedWork_10
def V_X5_simulatedMakespan_L35 (post : Int32 → xM × xM → Prop) : Nat → xM → xM → Int32 → Int32 → Prop
  | 0, _, _, _, _ => False
  | n + 1, M0, T0, x2, x3 => ((2000 ≤ x3 → (V_X4_lastFinish T0  (fun r8 T7 => post r8 (M0, T7)))) ∧ (¬ 2000 ≤ x3 → ((x2 ≤ 0 → (V_X4_lastFinish T0  (fun r11 T10 => post r11 (M0, T10)))) ∧ (¬ x2 ≤ 0 → (V_X1_runOneTick T0  (fun r13 T12 => (∀ y14 : Int32, y14 = (x2 - r13) → (∀ y15 : Int32, y15 = (x3 + 1) → (V_X5_simulatedMakespan_L35 post n M0 T12 y14 y15)))))))))
def V_X5_simulatedMakespan (M T : xM) (x1 : Int32) (post : Int32 → xM × xM → Prop) : Prop := (V_X5_isPolicy x1 (fun r1 => ((r1 = 0 → post (-4) (M, T)) ∧ (¬ r1 = 0 → (V_X1_startAfresh M T x1 (fun (u2 : xM × xM) => (∀ y5 : Int32, y5 = (u2.2 3 0) → (∃ n16 : Nat, V_X5_simulatedMakespan_L35 post n16 u2.1 u2.2 y5 0))))))))
set_option maxHeartbeats 4000000 in
set_option maxRecDepth 100000 in
theorem k_X5_simulatedMakespan_L35 {l : Launch} {D : va_G} {cI cZ : ClassId} {x : Nat} {a b : Nat → Nat} {p : Program} {e : Env} {s : State} {m : MethodId} {below : List Frame} {meth : Method} {c : Code} {A : Nat → Prop} {args : Array Value} {post : Int32 → xM × xM → Prop} (C : xC p s m args c cX5_simulatedMakespan 4 RX5 D cI cZ) (hr : meth.sig.returnType = (some .int)) (hlocks : meth.locks = false) (hA : ∀ q : Nat, s.heap.size ≤ q → A q) (n : Nat) : ∀ (M0 T0 : xM) (x2 x3 : Int32) (H : Heap) (locs : List Loc) (ls : Array Slot), V_X5_simulatedMakespan_L35 post n M0 T0 x2 x3 → xI D (wO cI cZ x a b (M0, T0)) A s.heap H locs → lv_has ls 4 [(0, .ref x), (2, .int x2), (3, .int x3)] → W p l e { frames := 6, cells := 0, slots := 0, locals := 134 } s m args below meth c H locs 0 0 (MQ below (va_Qi post (xPost D cI cZ A (wO cI cZ x a b)) A) args s 0 0 A) (F0 m 35 ls []) := by
  have hx := C.1.1
  have hb := C.1.2.1
  induction n with
  | zero =>
    intro M0 T0 x2 x3 H locs ls h I hl
    exact absurd h id
  | succ n ih35 =>
    intro M0 T0 x2 x3 H locs ls h I hl
    rw [V_X5_simulatedMakespan_L35] at h
    refine lv_iload_n (pc := 35) hx hb dX5_simulatedMakespan_35 rfl (lv_at hl 2 rfl) ?_
    refine lv_sipush (pc := 36) (v := 2000) hx hb dX5_simulatedMakespan_36 (by decide) ?_
    refine lv_icmp_ge (pc := 39) (tgt := 62) hx hb dX5_simulatedMakespan_39 (by decide) (fun g6 => ?_) (fun g6 => ?_)
    · have h := h.1 g6
      refine lv_aload_n (pc := 62) hx hb dX5_simulatedMakespan_62 rfl (lv_at hl 0 rfl) ?_
      refine x_get (pc := 63) C I wO_0 rfl inlX5 (k := 1) q_1_16 (by decide) rfl rfl dX5_simulatedMakespan_63 ?_
      refine x_get (pc := 66) C I wO_25 rfl inlX1 (k := 2) q_8_20 (by decide) rfl rfl dX5_simulatedMakespan_66 ?_
      refine x_calli (pc := 69) C I hA (x_liftiX ((x, .inr (5, [.ref (a 0), .ref (b 0)])) :: wC cI cZ a M0) [] (fun v => (M0, v)) (fun v => wO_t) rfl (m_X4_lastFinish h)) c_RX5_99 wO_28 rfl ⟨Nat.le_of_ble_eq_true rfl, Nat.le_of_ble_eq_true rfl⟩ ⟨rfl, rfl⟩ ⟨Nat.le_of_ble_eq_true rfl, Nat.le_of_ble_eq_true rfl⟩ (As := []) rfl hl.1 rfl (Nat.le_of_ble_eq_true rfl) dX5_simulatedMakespan_69 (fun r8 u2 H locs h I => ?_)
      obtain ⟨T7, rfl, h⟩ := h
      exact x_ireti (pc := 72) C I hr hlocks h dX5_simulatedMakespan_72
    · have h := h.2 g6
      refine lv_iload_n (pc := 42) hx hb dX5_simulatedMakespan_42 rfl (lv_at hl 1 rfl) ?_
      refine lv_if_le (pc := 43) (tgt := 62) hx hb dX5_simulatedMakespan_43 (by decide) (fun g9 => ?_) (fun g9 => ?_)
      · have h := h.1 g9
        refine lv_aload_n (pc := 62) hx hb dX5_simulatedMakespan_62 rfl (lv_at hl 0 rfl) ?_
        refine x_get (pc := 63) C I wO_0 rfl inlX5 (k := 1) q_1_16 (by decide) rfl rfl dX5_simulatedMakespan_63 ?_
        refine x_get (pc := 66) C I wO_25 rfl inlX1 (k := 2) q_8_20 (by decide) rfl rfl dX5_simulatedMakespan_66 ?_
        refine x_calli (pc := 69) C I hA (x_liftiX ((x, .inr (5, [.ref (a 0), .ref (b 0)])) :: wC cI cZ a M0) [] (fun v => (M0, v)) (fun v => wO_t) rfl (m_X4_lastFinish h)) c_RX5_99 wO_28 rfl ⟨Nat.le_of_ble_eq_true rfl, Nat.le_of_ble_eq_true rfl⟩ ⟨rfl, rfl⟩ ⟨Nat.le_of_ble_eq_true rfl, Nat.le_of_ble_eq_true rfl⟩ (As := []) rfl hl.1 rfl (Nat.le_of_ble_eq_true rfl) dX5_simulatedMakespan_69 (fun r11 u2 H locs h I => ?_)
        obtain ⟨T10, rfl, h⟩ := h
        exact x_ireti (pc := 72) C I hr hlocks h dX5_simulatedMakespan_72
      · have h := h.2 g9
        refine lv_iload_n (pc := 46) hx hb dX5_simulatedMakespan_46 rfl (lv_at hl 1 rfl) ?_
        refine lv_aload_n (pc := 47) hx hb dX5_simulatedMakespan_47 rfl (lv_at hl 0 rfl) ?_
        refine x_get (pc := 48) C I wO_0 rfl inlX5 (k := 1) q_1_16 (by decide) rfl rfl dX5_simulatedMakespan_48 ?_
        refine x_calli (pc := 51) C I hA (x_liftiX ((x, .inr (5, [.ref (a 0), .ref (b 0)])) :: wC cI cZ a M0) [] (fun v => (M0, v)) (fun v => wO_t) rfl (m_X1_runOneTick h)) c_RX5_82 wO_25 rfl ⟨Nat.le_of_ble_eq_true rfl, Nat.le_of_ble_eq_true rfl⟩ ⟨rfl, rfl⟩ ⟨Nat.le_of_ble_eq_true rfl, Nat.le_of_ble_eq_true rfl⟩ (As := []) rfl hl.1 rfl (Nat.le_of_ble_eq_true rfl) dX5_simulatedMakespan_51 (fun r13 u2 H locs h I => ?_)
        obtain ⟨T12, rfl, h⟩ := h
        refine lv_isub (pc := 54) hx hb dX5_simulatedMakespan_54 ?_
        refine lv_topi (fun y14 ey14 => ?_)
        have h := h y14 ey14
        refine lv_istore_n (pc := 55) (lv' := [(2, .int y14), (0, .ref x), (3, .int x3)]) hx hb dX5_simulatedMakespan_55 rfl hl (by decide) rfl (fun ls hl => ?_)
        obtain ⟨y15, ey15⟩ : ∃ y : Int32, y = (x3 + 1) := ⟨_, rfl⟩
        have h := h y15 ey15
        refine lv_iinc (pc := 56) (v := y15) (lv' := [(3, .int y15), (2, .int y14), (0, .ref x)]) hx hb dX5_simulatedMakespan_56 hl (k := 2) rfl (by rw [ey15]; rfl) (by decide) rfl (fun ls hl => ?_)
        refine lv_goto (pc := 59) (tgt := 35) hx hb dX5_simulatedMakespan_59 (by decide) ?_
        exact ih35 M0 T12 y14 y15 _ _ _ h I (lv_sub hl [2, 1, 0] rfl)
set_option maxHeartbeats 4000000 in
set_option maxRecDepth 100000 in
theorem m_X5_simulatedMakespan {l : Launch} {D : va_G} {cI cZ : ClassId} {x : Nat} {a b : Nat → Nat} {M T : xM} {x1 : Int32} {post : Int32 → xM × xM → Prop} (h : V_X5_simulatedMakespan M T x1 post) : xMi l yX5_simulatedMakespan cX5_simulatedMakespan 4 (some .int) { frames := 6, cells := 0, slots := 0, locals := 134 } D cI cZ (wO cI cZ x a b) (M, T) [.ref x, .int x1] post := by
  refine x_bodyi (own := RX5) (by decide) rfl (Nat.le_of_ble_eq_true rfl) ?_
  intro p e s m below meth c A ls C hr hlocks hA I hl
  have hx := C.1.1
  have hb := C.1.2.1
  have hl : lv_has ls 4 [(0, .ref x), (1, .int x1)] := hl
  unfold V_X5_simulatedMakespan at h
  refine lv_iload_n (pc := 0) hx hb dX5_simulatedMakespan_0 rfl (lv_at hl 1 rfl) ?_
  refine x_calls (pc := 1) C I hA (m_X5_isPolicy h) c_RX5_57 ⟨Nat.le_of_ble_eq_true rfl, Nat.le_of_ble_eq_true rfl⟩ ⟨rfl, rfl⟩ ⟨Nat.le_of_ble_eq_true rfl, Nat.le_of_ble_eq_true rfl⟩ (As := [.int x1]) rfl hl.1 rfl (Nat.le_of_ble_eq_true rfl) dX5_simulatedMakespan_1 (fun r1 u2 H locs h I => ?_)
  obtain ⟨e9, h⟩ := h
  rw [e9] at I
  refine lv_if_ne (pc := 4) (tgt := 10) hx hb dX5_simulatedMakespan_4 (by decide) (fun g2 => ?_) (fun g2 => ?_)
  · have h := h.2 g2
    refine lv_aload_n (pc := 10) hx hb dX5_simulatedMakespan_10 rfl (lv_at hl 0 rfl) ?_
    refine x_get (pc := 11) C I wO_0 rfl inlX5 (k := 1) q_1_16 (by decide) rfl rfl dX5_simulatedMakespan_11 ?_
    refine lv_aload_n (pc := 14) hx hb dX5_simulatedMakespan_14 rfl (lv_at hl 0 rfl) ?_
    refine x_get (pc := 15) C I wO_0 rfl inlX5 (k := 0) q_1_15 (by decide) rfl rfl dX5_simulatedMakespan_15 ?_
    refine lv_iload_n (pc := 18) hx hb dX5_simulatedMakespan_18 rfl (lv_at hl 1 rfl) ?_
    refine x_callv (pc := 19) C I hA (x_liftvX [(x, .inr (5, [.ref (a 0), .ref (b 0)]))] [] (fun v => v) (fun v => wO_d) rfl (m_X1_startAfresh h)) c_RX5_149 wO_25 rfl ⟨Nat.le_of_ble_eq_true rfl, Nat.le_of_ble_eq_true rfl⟩ ⟨rfl, rfl⟩ ⟨Nat.le_of_ble_eq_true rfl, Nat.le_of_ble_eq_true rfl⟩ (As := [.ref (a 0), .int x1]) rfl hl.1 rfl (Nat.le_of_ble_eq_true rfl) dX5_simulatedMakespan_19 (fun u2 H locs h I => ?_)
    obtain ⟨⟨M3, T4⟩, rfl, h⟩ := h
    refine lv_aload_n (pc := 22) hx hb dX5_simulatedMakespan_22 rfl (lv_at hl 0 rfl) ?_
    refine x_get (pc := 23) C I wO_0 rfl inlX5 (k := 1) q_1_16 (by decide) rfl rfl dX5_simulatedMakespan_23 ?_
    refine x_get (pc := 26) C I wO_25 rfl inlX1 (k := 2) q_8_20 (by decide) rfl rfl dX5_simulatedMakespan_26 ?_
    refine x_get (pc := 29) C I wO_28 rfl inlX4 (k := 0) q_27_23 (by decide) rfl rfl dX5_simulatedMakespan_29 ?_
    refine lv_topi (fun y5 ey5 => ?_)
    have h := h y5 ey5
    refine lv_istore_n (pc := 32) (lv' := [(2, .int y5), (0, .ref x), (1, .int x1)]) hx hb dX5_simulatedMakespan_32 rfl hl (by decide) rfl (fun ls hl => ?_)
    refine lv_iconst (pc := 33) (v := 0) hx hb dX5_simulatedMakespan_33 (by decide) ?_
    refine lv_istore_n (pc := 34) (lv' := [(3, .int 0), (2, .int y5), (0, .ref x), (1, .int x1)]) hx hb dX5_simulatedMakespan_34 rfl hl (by decide) rfl (fun ls hl => ?_)
    obtain ⟨n16, h⟩ := h
    exact k_X5_simulatedMakespan_L35 C hr hlocks hA n16 M3 T4 y5 0 _ _ _ h I (lv_sub hl [2, 1, 0] rfl)
  · have h := h.1 g2
    refine lv_bipush (pc := 7) (v := (-4)) hx hb dX5_simulatedMakespan_7 (by decide) ?_
    exact x_ireti (pc := 9) C I hr hlocks h dX5_simulatedMakespan_9
