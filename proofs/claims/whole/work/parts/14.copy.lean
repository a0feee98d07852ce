def V_X3_copyWithPolicy (M T : xM) (x2 : Int32) (post : xM × xM → Prop) : Prop := (∀ T1 : xM, T1 = xu T 1 0 x2 → (∀ T2 : xM, T2 = xu T1 1 1 (M 1 1) → (∀ T3 : xM, T3 = xu T2 1 2 (M 1 2) → (∀ T4 : xM, T4 = xu T3 1 3 (M 1 3) → (∀ T5 : xM, T5 = xu T4 1 4 (M 1 4) → post (M, T5))))))
set_option maxHeartbeats 4000000 in
set_option maxRecDepth 100000 in
theorem m_X3_copyWithPolicy {l : Launch} {D : va_G} {cI cZ : ClassId} {a b : Nat → Nat} {M T : xM} {x2 : Int32} {post : xM × xM → Prop} (h : V_X3_copyWithPolicy M T x2 post) : xMv l yX3_copyWithPolicy cX3_copyWithPolicy 3 none { frames := 0, cells := 0, slots := 0, locals := 0 } D cI cZ (wD cI cZ a b) (M, T) [.ref (b 1), .ref (a 1), .int x2] post := by
  refine x_bodyv (own := RX3) (by decide) rfl (Nat.le_of_ble_eq_true rfl) ?_
  intro p e s m below meth c A ls C hr hlocks hA I hl
  have hx := C.1.1
  have hb := C.1.2.1
  have hl : lv_has ls 3 [(0, .ref (b 1)), (1, .ref (a 1)), (2, .int x2)] := hl
  unfold V_X3_copyWithPolicy at h
  refine lv_aload_n (pc := 0) hx hb dX3_copyWithPolicy_0 rfl (lv_at hl 0 rfl) ?_
  refine lv_iload_n (pc := 1) hx hb dX3_copyWithPolicy_1 rfl (lv_at hl 2 rfl) ?_
  refine x_puti (pc := 2) C I wD_25 rfl inlX3 tyX3_ok nmX3 (k := 0) q_2_16 (by decide) rfl rfl rfl (Nat.le_of_ble_eq_true rfl) sD_25_0 dX3_copyWithPolicy_2 (fun H locs I => ?_)
  obtain ⟨T1, eT1⟩ : ∃ z : xM, z = xu T 1 0 x2 := ⟨_, rfl⟩
  have h := h T1 eT1
  rw [← eT1] at I
  refine lv_aload_n (pc := 5) hx hb dX3_copyWithPolicy_5 rfl (lv_at hl 0 rfl) ?_
  refine lv_aload_n (pc := 6) hx hb dX3_copyWithPolicy_6 rfl (lv_at hl 1 rfl) ?_
  refine x_get (pc := 7) C I wD_1 rfl inlX3 (k := 1) q_2_17 (by decide) rfl rfl dX3_copyWithPolicy_7 ?_
  refine x_puti (pc := 10) C I wD_25 rfl inlX3 tyX3_ok nmX3 (k := 1) q_2_17 (by decide) rfl rfl rfl (Nat.le_of_ble_eq_true rfl) sD_25_1 dX3_copyWithPolicy_10 (fun H locs I => ?_)
  obtain ⟨T2, eT2⟩ : ∃ z : xM, z = xu T1 1 1 (M 1 1) := ⟨_, rfl⟩
  have h := h T2 eT2
  rw [← eT2] at I
  refine lv_aload_n (pc := 13) hx hb dX3_copyWithPolicy_13 rfl (lv_at hl 0 rfl) ?_
  refine lv_aload_n (pc := 14) hx hb dX3_copyWithPolicy_14 rfl (lv_at hl 1 rfl) ?_
  refine x_get (pc := 15) C I wD_1 rfl inlX3 (k := 2) q_2_18 (by decide) rfl rfl dX3_copyWithPolicy_15 ?_
  refine x_puti (pc := 18) C I wD_25 rfl inlX3 tyX3_ok nmX3 (k := 2) q_2_18 (by decide) rfl rfl rfl (Nat.le_of_ble_eq_true rfl) sD_25_2 dX3_copyWithPolicy_18 (fun H locs I => ?_)
  obtain ⟨T3, eT3⟩ : ∃ z : xM, z = xu T2 1 2 (M 1 2) := ⟨_, rfl⟩
  have h := h T3 eT3
  rw [← eT3] at I
  refine lv_aload_n (pc := 21) hx hb dX3_copyWithPolicy_21 rfl (lv_at hl 0 rfl) ?_
  refine lv_aload_n (pc := 22) hx hb dX3_copyWithPolicy_22 rfl (lv_at hl 1 rfl) ?_
  refine x_get (pc := 23) C I wD_1 rfl inlX3 (k := 3) q_2_19 (by decide) rfl rfl dX3_copyWithPolicy_23 ?_
  refine x_puti (pc := 26) C I wD_25 rfl inlX3 tyX3_ok nmX3 (k := 3) q_2_19 (by decide) rfl rfl rfl (Nat.le_of_ble_eq_true rfl) sD_25_3 dX3_copyWithPolicy_26 (fun H locs I => ?_)
  obtain ⟨T4, eT4⟩ : ∃ z : xM, z = xu T3 1 3 (M 1 3) := ⟨_, rfl⟩
  have h := h T4 eT4
  rw [← eT4] at I
  refine lv_aload_n (pc := 29) hx hb dX3_copyWithPolicy_29 rfl (lv_at hl 0 rfl) ?_
  refine lv_aload_n (pc := 30) hx hb dX3_copyWithPolicy_30 rfl (lv_at hl 1 rfl) ?_
  refine x_get (pc := 31) C I wD_1 rfl inlX3 (k := 4) q_2_20 (by decide) rfl rfl dX3_copyWithPolicy_31 ?_
  refine x_puti (pc := 34) C I wD_25 rfl inlX3 tyX3_ok nmX3 (k := 4) q_2_20 (by decide) rfl rfl rfl (Nat.le_of_ble_eq_true rfl) sD_25_4 dX3_copyWithPolicy_34 (fun H locs I => ?_)
  obtain ⟨T5, eT5⟩ : ∃ z : xM, z = xu T4 1 4 (M 1 4) := ⟨_, rfl⟩
  have h := h T5 eT5
  rw [← eT5] at I
  exact x_retv (pc := 37) C I hr hlocks h dX3_copyWithPolicy_37
def V_X2_copyUnused_L7 (post : xM × xM → Prop) : Nat → xM → xM → Int32 → Prop
  | 0, _, _, _ => False
  | n + 1, M0, T0, x2 => (((M0 2 0) ≤ x2 → post (M0, T0)) ∧ (¬ (M0 2 0) ≤ x2 → (vp_in x2 8 ∧ (vp_in x2 8 ∧ (V_X2_add T0 (M0 5 (x2).toNatClampNeg) (M0 6 (x2).toNatClampNeg) (fun r6 T5 => (vp_in x2 8 ∧ (vp_in x2 8 ∧ ∀ T9 : xM, T9 = xu T5 7 (x2).toNatClampNeg (vp_nar .boolean (M0 7 (x2).toNatClampNeg)) → (∀ y10 : Int32, y10 = (x2 + 1) → (V_X2_copyUnused_L7 post n M0 T9 y10))))))))))
def V_X2_copyUnused (M T : xM) (post : xM × xM → Prop) : Prop := (∀ T1 : xM, T1 = xu T 2 0 0 → (∃ n11 : Nat, V_X2_copyUnused_L7 post n11 M T1 0))
set_option maxHeartbeats 4000000 in
set_option maxRecDepth 100000 in
theorem k_X2_copyUnused_L7 {l : Launch} {D : va_G} {cI cZ : ClassId} {a b : Nat → Nat} {p : Program} {e : Env} {s : State} {m : MethodId} {below : List Frame} {meth : Method} {c : Code} {A : Nat → Prop} {args : Array Value} {post : xM × xM → Prop} (C : xC p s m args c cX2_copyUnused 3 RX2 D cI cZ) (hr : meth.sig.returnType = none) (hlocks : meth.locks = false) (hA : ∀ q : Nat, s.heap.size ≤ q → A q) (n : Nat) : ∀ (M0 T0 : xM) (x2 : Int32) (H : Heap) (locs : List Loc) (ls : Array Slot), V_X2_copyUnused_L7 post n M0 T0 x2 → xI D (wD cI cZ a b (M0, T0)) A s.heap H locs → lv_has ls 3 [(0, .ref (b 2)), (1, .ref (a 2)), (2, .int x2)] → W p l e { frames := 1, cells := 0, slots := 0, locals := 23 } s m args below meth c H locs 0 0 (MQ below (va_Qv post (xPost D cI cZ A (wD cI cZ a b)) A) args s 0 0 A) (F0 m 7 ls []) := by
  have hx := C.1.1
  have hb := C.1.2.1
  induction n with
  | zero =>
    intro M0 T0 x2 H locs ls h I hl
    exact absurd h id
  | succ n ih7 =>
    intro M0 T0 x2 H locs ls h I hl
    rw [V_X2_copyUnused_L7] at h
    refine lv_iload_n (pc := 7) hx hb dX2_copyUnused_7 rfl (lv_at hl 2 rfl) ?_
    refine lv_aload_n (pc := 8) hx hb dX2_copyUnused_8 rfl (lv_at hl 1 rfl) ?_
    refine x_get (pc := 9) C I wD_2 rfl inlX2 (k := 0) q_3_0 (by decide) rfl rfl dX2_copyUnused_9 ?_
    refine lv_icmp_ge (pc := 12) (tgt := 50) hx hb dX2_copyUnused_12 (by decide) (fun g2 => ?_) (fun g2 => ?_)
    · have h := h.1 g2
      exact x_retv (pc := 50) C I hr hlocks h dX2_copyUnused_50
    · have h := h.2 g2
      refine lv_aload_n (pc := 15) hx hb dX2_copyUnused_15 rfl (lv_at hl 0 rfl) ?_
      refine lv_aload_n (pc := 16) hx hb dX2_copyUnused_16 rfl (lv_at hl 1 rfl) ?_
      refine x_get (pc := 17) C I wD_2 rfl inlX2 (k := 1) q_3_2 (by decide) rfl rfl dX2_copyUnused_17 ?_
      refine lv_iload_n (pc := 20) hx hb dX2_copyUnused_20 rfl (lv_at hl 2 rfl) ?_
      obtain ⟨g3, h⟩ := h
      refine x_ald (pc := 21) C I wD_5 g3 dX2_copyUnused_21 ?_
      refine lv_aload_n (pc := 22) hx hb dX2_copyUnused_22 rfl (lv_at hl 1 rfl) ?_
      refine x_get (pc := 23) C I wD_2 rfl inlX2 (k := 2) q_3_3 (by decide) rfl rfl dX2_copyUnused_23 ?_
      refine lv_iload_n (pc := 26) hx hb dX2_copyUnused_26 rfl (lv_at hl 2 rfl) ?_
      obtain ⟨g4, h⟩ := h
      refine x_ald (pc := 27) C I wD_6 g4 dX2_copyUnused_27 ?_
      refine x_calli (pc := 28) C I hA (x_liftiX (wC cI cZ a M0) [] (fun v => (M0, v)) (fun v => wD_t) rfl (m_X2_add h)) c_RX2_35 wD_26 rfl ⟨Nat.le_of_ble_eq_true rfl, Nat.le_of_ble_eq_true rfl⟩ ⟨rfl, rfl⟩ ⟨Nat.le_of_ble_eq_true rfl, Nat.le_of_ble_eq_true rfl⟩ (As := [.int (M0 5 (x2).toNatClampNeg), .int (M0 6 (x2).toNatClampNeg)]) rfl hl.1 rfl (Nat.le_of_ble_eq_true rfl) dX2_copyUnused_28 (fun r6 u2 H locs h I => ?_)
      obtain ⟨T5, rfl, h⟩ := h
      refine lv_pop (pc := 31) hx hb dX2_copyUnused_31 rfl ?_
      refine lv_aload_n (pc := 32) hx hb dX2_copyUnused_32 rfl (lv_at hl 0 rfl) ?_
      refine x_get (pc := 33) C I wD_26 rfl inlX2 (k := 3) q_3_5 (by decide) rfl rfl dX2_copyUnused_33 ?_
      refine lv_iload_n (pc := 36) hx hb dX2_copyUnused_36 rfl (lv_at hl 2 rfl) ?_
      refine lv_aload_n (pc := 37) hx hb dX2_copyUnused_37 rfl (lv_at hl 1 rfl) ?_
      refine x_get (pc := 38) C I wD_2 rfl inlX2 (k := 3) q_3_5 (by decide) rfl rfl dX2_copyUnused_38 ?_
      refine lv_iload_n (pc := 41) hx hb dX2_copyUnused_41 rfl (lv_at hl 2 rfl) ?_
      obtain ⟨g7, h⟩ := h
      refine x_zld (pc := 42) C I wD_7 g7 dX2_copyUnused_42 ?_
      obtain ⟨g8, h⟩ := h
      refine x_zst (pc := 43) C I wD_31 g8 sD_31 dX2_copyUnused_43 (fun H locs I => ?_)
      obtain ⟨T9, eT9⟩ : ∃ z : xM, z = xu T5 7 (x2).toNatClampNeg (vp_nar .boolean (M0 7 (x2).toNatClampNeg)) := ⟨_, rfl⟩
      have h := h T9 eT9
      rw [← eT9] at I
      obtain ⟨y10, ey10⟩ : ∃ y : Int32, y = (x2 + 1) := ⟨_, rfl⟩
      have h := h y10 ey10
      refine lv_iinc (pc := 44) (v := y10) (lv' := [(2, .int y10), (0, .ref (b 2)), (1, .ref (a 2))]) hx hb dX2_copyUnused_44 hl (k := 2) rfl (by rw [ey10]; rfl) (by decide) rfl (fun ls hl => ?_)
      refine lv_goto (pc := 47) (tgt := 7) hx hb dX2_copyUnused_47 (by decide) ?_
      exact ih7 M0 T9 y10 _ _ _ h I (lv_sub hl [1, 2, 0] rfl)
set_option maxHeartbeats 4000000 in
set_option maxRecDepth 100000 in
theorem m_X2_copyUnused {l : Launch} {D : va_G} {cI cZ : ClassId} {a b : Nat → Nat} {M T : xM} {post : xM × xM → Prop} (h : V_X2_copyUnused M T post) : xMv l yX2_copyUnused cX2_copyUnused 3 none { frames := 1, cells := 0, slots := 0, locals := 23 } D cI cZ (wD cI cZ a b) (M, T) [.ref (b 2), .ref (a 2)] post := by
  refine x_bodyv (own := RX2) (by decide) rfl (Nat.le_of_ble_eq_true rfl) ?_
  intro p e s m below meth c A ls C hr hlocks hA I hl
  have hx := C.1.1
  have hb := C.1.2.1
  have hl : lv_has ls 3 [(0, .ref (b 2)), (1, .ref (a 2))] := hl
  unfold V_X2_copyUnused at h
  refine lv_aload_n (pc := 0) hx hb dX2_copyUnused_0 rfl (lv_at hl 0 rfl) ?_
  refine lv_iconst (pc := 1) (v := 0) hx hb dX2_copyUnused_1 (by decide) ?_
  refine x_puti (pc := 2) C I wD_26 rfl inlX2 tyX2_ok nmX2 (k := 0) q_3_0 (by decide) rfl rfl rfl (Nat.le_of_ble_eq_true rfl) sD_26_0 dX2_copyUnused_2 (fun H locs I => ?_)
  obtain ⟨T1, eT1⟩ : ∃ z : xM, z = xu T 2 0 0 := ⟨_, rfl⟩
  have h := h T1 eT1
  rw [← eT1] at I
  refine lv_iconst (pc := 5) (v := 0) hx hb dX2_copyUnused_5 (by decide) ?_
  refine lv_istore_n (pc := 6) (lv' := [(2, .int 0), (0, .ref (b 2)), (1, .ref (a 2))]) hx hb dX2_copyUnused_6 rfl hl (by decide) rfl (fun ls hl => ?_)
  obtain ⟨n11, h⟩ := h
  exact k_X2_copyUnused_L7 C hr hlocks hA n11 M T1 0 _ _ _ h I (lv_sub hl [1, 2, 0] rfl)
def V_X4_copyUnused_L7 (post : xM × xM → Prop) : Nat → xM → xM → Int32 → Prop
  | 0, _, _, _ => False
  | n + 1, M0, T0, x2 => (((M0 3 0) ≤ x2 → post (M0, T0)) ∧ (¬ (M0 3 0) ≤ x2 → (vp_in x2 24 ∧ (V_X4_add T0 (M0 11 (x2).toNatClampNeg) (fun r5 T4 => (∀ y6 : Int32, y6 = (x2 + 1) → (V_X4_copyUnused_L7 post n M0 T4 y6)))))))
def V_X4_copyUnused (M T : xM) (post : xM × xM → Prop) : Prop := (∀ T1 : xM, T1 = xu T 3 0 0 → (∃ n7 : Nat, V_X4_copyUnused_L7 post n7 M T1 0))
set_option maxHeartbeats 4000000 in
set_option maxRecDepth 100000 in
theorem k_X4_copyUnused_L7 {l : Launch} {D : va_G} {cI cZ : ClassId} {a b : Nat → Nat} {p : Program} {e : Env} {s : State} {m : MethodId} {below : List Frame} {meth : Method} {c : Code} {A : Nat → Prop} {args : Array Value} {post : xM × xM → Prop} (C : xC p s m args c cX4_copyUnused 3 RX4 D cI cZ) (hr : meth.sig.returnType = none) (hlocks : meth.locks = false) (hA : ∀ q : Nat, s.heap.size ≤ q → A q) (n : Nat) : ∀ (M0 T0 : xM) (x2 : Int32) (H : Heap) (locs : List Loc) (ls : Array Slot), V_X4_copyUnused_L7 post n M0 T0 x2 → xI D (wD cI cZ a b (M0, T0)) A s.heap H locs → lv_has ls 3 [(0, .ref (b 3)), (1, .ref (a 3)), (2, .int x2)] → W p l e { frames := 1, cells := 0, slots := 0, locals := 22 } s m args below meth c H locs 0 0 (MQ below (va_Qv post (xPost D cI cZ A (wD cI cZ a b)) A) args s 0 0 A) (F0 m 7 ls []) := by
  have hx := C.1.1
  have hb := C.1.2.1
  induction n with
  | zero =>
    intro M0 T0 x2 H locs ls h I hl
    exact absurd h id
  | succ n ih7 =>
    intro M0 T0 x2 H locs ls h I hl
    rw [V_X4_copyUnused_L7] at h
    refine lv_iload_n (pc := 7) hx hb dX4_copyUnused_7 rfl (lv_at hl 2 rfl) ?_
    refine lv_aload_n (pc := 8) hx hb dX4_copyUnused_8 rfl (lv_at hl 1 rfl) ?_
    refine x_get (pc := 9) C I wD_3 rfl inlX4 (k := 0) q_3_12 (by decide) rfl rfl dX4_copyUnused_9 ?_
    refine lv_icmp_ge (pc := 12) (tgt := 32) hx hb dX4_copyUnused_12 (by decide) (fun g2 => ?_) (fun g2 => ?_)
    · have h := h.1 g2
      exact x_retv (pc := 32) C I hr hlocks h dX4_copyUnused_32
    · have h := h.2 g2
      refine lv_aload_n (pc := 15) hx hb dX4_copyUnused_15 rfl (lv_at hl 0 rfl) ?_
      refine lv_aload_n (pc := 16) hx hb dX4_copyUnused_16 rfl (lv_at hl 1 rfl) ?_
      refine x_get (pc := 17) C I wD_3 rfl inlX4 (k := 1) q_3_13 (by decide) rfl rfl dX4_copyUnused_17 ?_
      refine lv_iload_n (pc := 20) hx hb dX4_copyUnused_20 rfl (lv_at hl 2 rfl) ?_
      obtain ⟨g3, h⟩ := h
      refine x_ald (pc := 21) C I wD_11 g3 dX4_copyUnused_21 ?_
      refine x_calli (pc := 22) C I hA (x_liftiX (wC cI cZ a M0) [] (fun v => (M0, v)) (fun v => wD_t) rfl (m_X4_add h)) c_RX4_28 wD_27 rfl ⟨Nat.le_of_ble_eq_true rfl, Nat.le_of_ble_eq_true rfl⟩ ⟨rfl, rfl⟩ ⟨Nat.le_of_ble_eq_true rfl, Nat.le_of_ble_eq_true rfl⟩ (As := [.int (M0 11 (x2).toNatClampNeg)]) rfl hl.1 rfl (Nat.le_of_ble_eq_true rfl) dX4_copyUnused_22 (fun r5 u2 H locs h I => ?_)
      obtain ⟨T4, rfl, h⟩ := h
      refine lv_pop (pc := 25) hx hb dX4_copyUnused_25 rfl ?_
      obtain ⟨y6, ey6⟩ : ∃ y : Int32, y = (x2 + 1) := ⟨_, rfl⟩
      have h := h y6 ey6
      refine lv_iinc (pc := 26) (v := y6) (lv' := [(2, .int y6), (0, .ref (b 3)), (1, .ref (a 3))]) hx hb dX4_copyUnused_26 hl (k := 2) rfl (by rw [ey6]; rfl) (by decide) rfl (fun ls hl => ?_)
      refine lv_goto (pc := 29) (tgt := 7) hx hb dX4_copyUnused_29 (by decide) ?_
      exact ih7 M0 T4 y6 _ _ _ h I (lv_sub hl [1, 2, 0] rfl)
set_option maxHeartbeats 4000000 in
set_option maxRecDepth 100000 in
theorem m_X4_copyUnused {l : Launch} {D : va_G} {cI cZ : ClassId} {a b : Nat → Nat} {M T : xM} {post : xM × xM → Prop} (h : V_X4_copyUnused M T post) : xMv l yX4_copyUnused cX4_copyUnused 3 none { frames := 1, cells := 0, slots := 0, locals := 22 } D cI cZ (wD cI cZ a b) (M, T) [.ref (b 3), .ref (a 3)] post := by
  refine x_bodyv (own := RX4) (by decide) rfl (Nat.le_of_ble_eq_true rfl) ?_
  intro p e s m below meth c A ls C hr hlocks hA I hl
  have hx := C.1.1
  have hb := C.1.2.1
  have hl : lv_has ls 3 [(0, .ref (b 3)), (1, .ref (a 3))] := hl
  unfold V_X4_copyUnused at h
  refine lv_aload_n (pc := 0) hx hb dX4_copyUnused_0 rfl (lv_at hl 0 rfl) ?_
  refine lv_iconst (pc := 1) (v := 0) hx hb dX4_copyUnused_1 (by decide) ?_
  refine x_puti (pc := 2) C I wD_27 rfl inlX4 tyX4_ok nmX4 (k := 0) q_3_12 (by decide) rfl rfl rfl (Nat.le_of_ble_eq_true rfl) sD_27_0 dX4_copyUnused_2 (fun H locs I => ?_)
  obtain ⟨T1, eT1⟩ : ∃ z : xM, z = xu T 3 0 0 := ⟨_, rfl⟩
  have h := h T1 eT1
  rw [← eT1] at I
  refine lv_iconst (pc := 5) (v := 0) hx hb dX4_copyUnused_5 (by decide) ?_
  refine lv_istore_n (pc := 6) (lv' := [(2, .int 0), (0, .ref (b 3)), (1, .ref (a 3))]) hx hb dX4_copyUnused_6 rfl hl (by decide) rfl (fun ls hl => ?_)
  obtain ⟨n7, h⟩ := h
  exact k_X4_copyUnused_L7 C hr hlocks hA n7 M T1 0 _ _ _ h I (lv_sub hl [1, 2, 0] rfl)
def V_X1_startAfresh (M T : xM) (x2 : Int32) (post : xM × xM → Prop) : Prop := (V_X3_copyWithPolicy M T x2 (fun (u2 : xM × xM) => (V_X2_copyUnused u2.1 u2.2  (fun (u2 : xM × xM) => (V_X4_copyUnused u2.1 u2.2  (fun (u2 : xM × xM) => (V_X0_clear u2.2  (fun T7 => (∀ T8 : xM, T8 = xu T7 0 4 0 → post (u2.1, T8))))))))))
set_option maxHeartbeats 4000000 in
set_option maxRecDepth 100000 in
theorem m_X1_startAfresh {l : Launch} {D : va_G} {cI cZ : ClassId} {a b : Nat → Nat} {M T : xM} {x2 : Int32} {post : xM × xM → Prop} (h : V_X1_startAfresh M T x2 post) : xMv l yX1_startAfresh cX1_startAfresh 3 none { frames := 2, cells := 0, slots := 0, locals := 45 } D cI cZ (wD cI cZ a b) (M, T) [.ref (b 0), .ref (a 0), .int x2] post := by
  refine x_bodyv (own := RX1) (by decide) rfl (Nat.le_of_ble_eq_true rfl) ?_
  intro p e s m below meth c A ls C hr hlocks hA I hl
  have hx := C.1.1
  have hb := C.1.2.1
  have hl : lv_has ls 3 [(0, .ref (b 0)), (1, .ref (a 0)), (2, .int x2)] := hl
  unfold V_X1_startAfresh at h
  refine lv_aload_n (pc := 0) hx hb dX1_startAfresh_0 rfl (lv_at hl 0 rfl) ?_
  refine x_get (pc := 1) C I wD_24 rfl inlX1 (k := 0) q_1_23 (by decide) rfl rfl dX1_startAfresh_1 ?_
  refine lv_aload_n (pc := 4) hx hb dX1_startAfresh_4 rfl (lv_at hl 1 rfl) ?_
  refine x_get (pc := 5) C I wD_0 rfl inlX1 (k := 0) q_1_23 (by decide) rfl rfl dX1_startAfresh_5 ?_
  refine lv_iload_n (pc := 8) hx hb dX1_startAfresh_8 rfl (lv_at hl 2 rfl) ?_
  refine x_callv (pc := 9) C I hA (m_X3_copyWithPolicy h) c_RX1_43 wD_25 rfl ⟨Nat.le_of_ble_eq_true rfl, Nat.le_of_ble_eq_true rfl⟩ ⟨rfl, rfl⟩ ⟨Nat.le_of_ble_eq_true rfl, Nat.le_of_ble_eq_true rfl⟩ (As := [.ref (a 1), .int x2]) rfl hl.1 rfl (Nat.le_of_ble_eq_true rfl) dX1_startAfresh_9 (fun u2 H locs h I => ?_)
  obtain ⟨M1, T2⟩ := u2
  refine lv_aload_n (pc := 12) hx hb dX1_startAfresh_12 rfl (lv_at hl 0 rfl) ?_
  refine x_get (pc := 13) C I wD_24 rfl inlX1 (k := 1) q_2_3 (by decide) rfl rfl dX1_startAfresh_13 ?_
  refine lv_aload_n (pc := 16) hx hb dX1_startAfresh_16 rfl (lv_at hl 1 rfl) ?_
  refine x_get (pc := 17) C I wD_0 rfl inlX1 (k := 1) q_2_3 (by decide) rfl rfl dX1_startAfresh_17 ?_
  refine x_callv (pc := 20) C I hA (m_X2_copyUnused h) c_RX1_47 wD_26 rfl ⟨Nat.le_of_ble_eq_true rfl, Nat.le_of_ble_eq_true rfl⟩ ⟨rfl, rfl⟩ ⟨Nat.le_of_ble_eq_true rfl, Nat.le_of_ble_eq_true rfl⟩ (As := [.ref (a 2)]) rfl hl.1 rfl (Nat.le_of_ble_eq_true rfl) dX1_startAfresh_20 (fun u2 H locs h I => ?_)
  obtain ⟨M3, T4⟩ := u2
  refine lv_aload_n (pc := 23) hx hb dX1_startAfresh_23 rfl (lv_at hl 0 rfl) ?_
  refine x_get (pc := 24) C I wD_24 rfl inlX1 (k := 2) q_2_7 (by decide) rfl rfl dX1_startAfresh_24 ?_
  refine lv_aload_n (pc := 27) hx hb dX1_startAfresh_27 rfl (lv_at hl 1 rfl) ?_
  refine x_get (pc := 28) C I wD_0 rfl inlX1 (k := 2) q_2_7 (by decide) rfl rfl dX1_startAfresh_28 ?_
  refine x_callv (pc := 31) C I hA (m_X4_copyUnused h) c_RX1_51 wD_27 rfl ⟨Nat.le_of_ble_eq_true rfl, Nat.le_of_ble_eq_true rfl⟩ ⟨rfl, rfl⟩ ⟨Nat.le_of_ble_eq_true rfl, Nat.le_of_ble_eq_true rfl⟩ (As := [.ref (a 3)]) rfl hl.1 rfl (Nat.le_of_ble_eq_true rfl) dX1_startAfresh_31 (fun u2 H locs h I => ?_)
  obtain ⟨M5, T6⟩ := u2
  refine lv_aload_n (pc := 34) hx hb dX1_startAfresh_34 rfl (lv_at hl 0 rfl) ?_
  refine x_get (pc := 35) C I wD_24 rfl inlX1 (k := 3) q_2_11 (by decide) rfl rfl dX1_startAfresh_35 ?_
  refine x_callv (pc := 38) C I hA (x_liftvX (wC cI cZ a M5) [] (fun v => (M5, v)) (fun v => wD_t) rfl (m_X0_clear h)) c_RX1_54 wD_28 rfl ⟨Nat.le_of_ble_eq_true rfl, Nat.le_of_ble_eq_true rfl⟩ ⟨rfl, rfl⟩ ⟨Nat.le_of_ble_eq_true rfl, Nat.le_of_ble_eq_true rfl⟩ (As := []) rfl hl.1 rfl (Nat.le_of_ble_eq_true rfl) dX1_startAfresh_38 (fun u2 H locs h I => ?_)
  obtain ⟨T7, rfl, h⟩ := h
  refine lv_aload_n (pc := 41) hx hb dX1_startAfresh_41 rfl (lv_at hl 0 rfl) ?_
  refine lv_iconst (pc := 42) (v := 0) hx hb dX1_startAfresh_42 (by decide) ?_
  refine x_puti (pc := 43) C I wD_24 rfl inlX1 tyX1_ok nmX1 (k := 4) q_2_12 (by decide) rfl rfl rfl (Nat.le_of_ble_eq_true rfl) sD_24_4 dX1_startAfresh_43 (fun H locs I => ?_)
  obtain ⟨T8, eT8⟩ : ∃ z : xM, z = xu T7 0 4 0 := ⟨_, rfl⟩
  have h := h T8 eT8
  rw [← eT8] at I
  exact x_retv (pc := 46) C I hr hlocks h dX1_startAfresh_46
