def V_X2_add (M : xM) (x1 x2 : Int32) (post : Int32 → xM → Prop) : Prop := (((M 2 0) < 8 → (∀ y2 : Int32, y2 = (M 2 0) → (∀ M3 : xM, M3 = xu M 2 0 ((M 2 0) + 1) → (vp_in y2 8 ∧ ∀ M5 : xM, M5 = xu M3 5 (y2).toNatClampNeg x1 → (vp_in y2 8 ∧ ∀ M7 : xM, M7 = xu M5 6 (y2).toNatClampNeg x2 → (vp_in y2 8 ∧ ∀ M9 : xM, M9 = xu M7 7 (y2).toNatClampNeg (vp_nar .boolean 1) → (vp_in y2 8 ∧ ∀ M11 : xM, M11 = xu M9 8 (y2).toNatClampNeg 0 → (vp_in y2 8 ∧ ∀ M13 : xM, M13 = xu M11 9 (y2).toNatClampNeg 0 → (vp_in y2 8 ∧ ∀ M15 : xM, M15 = xu M13 10 (y2).toNatClampNeg 0 → post y2 M15))))))))) ∧ (¬ (M 2 0) < 8 → post (-5) M))
set_option maxHeartbeats 4000000 in
set_option maxRecDepth 100000 in
theorem m_X2_add {l : Launch} {D : va_G} {cI cZ : ClassId} {a : Nat → Nat} {M : xM} {x1 x2 : Int32} {post : Int32 → xM → Prop} (h : V_X2_add M x1 x2 post) : xMi l yX2_add cX2_add 4 (some .int) { frames := 0, cells := 0, slots := 0, locals := 0 } D cI cZ (wC cI cZ a) M [.ref (a 2), .int x1, .int x2] post := by
  refine x_bodyi (own := RX2) (by decide) rfl (Nat.le_of_ble_eq_true rfl) ?_
  intro p e s m below meth c A ls C hr hlocks hA I hl
  have hx := C.1.1
  have hb := C.1.2.1
  have hl : lv_has ls 4 [(0, .ref (a 2)), (1, .int x1), (2, .int x2)] := hl
  unfold V_X2_add at h
  refine lv_aload_n (pc := 0) hx hb dX2_add_0 rfl (lv_at hl 0 rfl) ?_
  refine x_get (pc := 1) C I wC_2 rfl inlX2 (k := 0) q_3_0 (by decide) rfl rfl dX2_add_1 ?_
  refine lv_bipush (pc := 4) (v := 8) hx hb dX2_add_4 (by decide) ?_
  refine lv_icmp_lt (pc := 6) (tgt := 12) hx hb dX2_add_6 (by decide) (fun g1 => ?_) (fun g1 => ?_)
  · have h := h.1 g1
    refine lv_aload_n (pc := 12) hx hb dX2_add_12 rfl (lv_at hl 0 rfl) ?_
    refine x_get (pc := 13) C I wC_2 rfl inlX2 (k := 0) q_3_0 (by decide) rfl rfl dX2_add_13 ?_
    refine lv_topi (fun y2 ey2 => ?_)
    have h := h y2 ey2
    refine lv_istore_n (pc := 16) (lv' := [(3, .int y2), (0, .ref (a 2)), (1, .int x1), (2, .int x2)]) hx hb dX2_add_16 rfl hl (by decide) rfl (fun ls hl => ?_)
    refine lv_aload_n (pc := 17) hx hb dX2_add_17 rfl (lv_at hl 1 rfl) ?_
    refine lv_dup (pc := 18) hx hb dX2_add_18 rfl ?_
    refine x_get (pc := 19) C I wC_2 rfl inlX2 (k := 0) q_3_0 (by decide) rfl rfl dX2_add_19 ?_
    refine lv_iconst (pc := 22) (v := 1) hx hb dX2_add_22 (by decide) ?_
    refine lv_iadd (pc := 23) hx hb dX2_add_23 ?_
    refine x_puti (pc := 24) C I wC_2 rfl inlX2 tyX2_ok nmX2 (k := 0) q_3_0 (by decide) rfl rfl rfl (Nat.le_of_ble_eq_true rfl) sC_2_0 dX2_add_24 (fun H locs I => ?_)
    obtain ⟨M3, eM3⟩ : ∃ z : xM, z = xu M 2 0 ((M 2 0) + 1) := ⟨_, rfl⟩
    have h := h M3 eM3
    rw [← eM3] at I
    refine lv_aload_n (pc := 27) hx hb dX2_add_27 rfl (lv_at hl 1 rfl) ?_
    refine x_get (pc := 28) C I wC_2 rfl inlX2 (k := 1) q_3_2 (by decide) rfl rfl dX2_add_28 ?_
    refine lv_iload_n (pc := 31) hx hb dX2_add_31 rfl (lv_at hl 0 rfl) ?_
    refine lv_iload_n (pc := 32) hx hb dX2_add_32 rfl (lv_at hl 2 rfl) ?_
    obtain ⟨g4, h⟩ := h
    refine x_ast (pc := 33) C I wC_5 g4 sC_5 dX2_add_33 (fun H locs I => ?_)
    obtain ⟨M5, eM5⟩ : ∃ z : xM, z = xu M3 5 (y2).toNatClampNeg x1 := ⟨_, rfl⟩
    have h := h M5 eM5
    rw [← eM5] at I
    refine lv_aload_n (pc := 34) hx hb dX2_add_34 rfl (lv_at hl 1 rfl) ?_
    refine x_get (pc := 35) C I wC_2 rfl inlX2 (k := 2) q_3_3 (by decide) rfl rfl dX2_add_35 ?_
    refine lv_iload_n (pc := 38) hx hb dX2_add_38 rfl (lv_at hl 0 rfl) ?_
    refine lv_iload_n (pc := 39) hx hb dX2_add_39 rfl (lv_at hl 3 rfl) ?_
    obtain ⟨g6, h⟩ := h
    refine x_ast (pc := 40) C I wC_6 g6 sC_6 dX2_add_40 (fun H locs I => ?_)
    obtain ⟨M7, eM7⟩ : ∃ z : xM, z = xu M5 6 (y2).toNatClampNeg x2 := ⟨_, rfl⟩
    have h := h M7 eM7
    rw [← eM7] at I
    refine lv_aload_n (pc := 41) hx hb dX2_add_41 rfl (lv_at hl 1 rfl) ?_
    refine x_get (pc := 42) C I wC_2 rfl inlX2 (k := 3) q_3_5 (by decide) rfl rfl dX2_add_42 ?_
    refine lv_iload_n (pc := 45) hx hb dX2_add_45 rfl (lv_at hl 0 rfl) ?_
    refine lv_iconst (pc := 46) (v := 1) hx hb dX2_add_46 (by decide) ?_
    obtain ⟨g8, h⟩ := h
    refine x_zst (pc := 47) C I wC_7 g8 sC_7 dX2_add_47 (fun H locs I => ?_)
    obtain ⟨M9, eM9⟩ : ∃ z : xM, z = xu M7 7 (y2).toNatClampNeg (vp_nar .boolean 1) := ⟨_, rfl⟩
    have h := h M9 eM9
    rw [← eM9] at I
    refine lv_aload_n (pc := 48) hx hb dX2_add_48 rfl (lv_at hl 1 rfl) ?_
    refine x_get (pc := 49) C I wC_2 rfl inlX2 (k := 4) q_3_6 (by decide) rfl rfl dX2_add_49 ?_
    refine lv_iload_n (pc := 52) hx hb dX2_add_52 rfl (lv_at hl 0 rfl) ?_
    refine lv_iconst (pc := 53) (v := 0) hx hb dX2_add_53 (by decide) ?_
    obtain ⟨g10, h⟩ := h
    refine x_ast (pc := 54) C I wC_8 g10 sC_8 dX2_add_54 (fun H locs I => ?_)
    obtain ⟨M11, eM11⟩ : ∃ z : xM, z = xu M9 8 (y2).toNatClampNeg 0 := ⟨_, rfl⟩
    have h := h M11 eM11
    rw [← eM11] at I
    refine lv_aload_n (pc := 55) hx hb dX2_add_55 rfl (lv_at hl 1 rfl) ?_
    refine x_get (pc := 56) C I wC_2 rfl inlX2 (k := 5) q_3_7 (by decide) rfl rfl dX2_add_56 ?_
    refine lv_iload_n (pc := 59) hx hb dX2_add_59 rfl (lv_at hl 0 rfl) ?_
    refine lv_iconst (pc := 60) (v := 0) hx hb dX2_add_60 (by decide) ?_
    obtain ⟨g12, h⟩ := h
    refine x_ast (pc := 61) C I wC_9 g12 sC_9 dX2_add_61 (fun H locs I => ?_)
    obtain ⟨M13, eM13⟩ : ∃ z : xM, z = xu M11 9 (y2).toNatClampNeg 0 := ⟨_, rfl⟩
    have h := h M13 eM13
    rw [← eM13] at I
    refine lv_aload_n (pc := 62) hx hb dX2_add_62 rfl (lv_at hl 1 rfl) ?_
    refine x_get (pc := 63) C I wC_2 rfl inlX2 (k := 6) q_3_8 (by decide) rfl rfl dX2_add_63 ?_
    refine lv_iload_n (pc := 66) hx hb dX2_add_66 rfl (lv_at hl 0 rfl) ?_
    refine lv_iconst (pc := 67) (v := 0) hx hb dX2_add_67 (by decide) ?_
    obtain ⟨g14, h⟩ := h
    refine x_ast (pc := 68) C I wC_10 g14 sC_10 dX2_add_68 (fun H locs I => ?_)
    obtain ⟨M15, eM15⟩ : ∃ z : xM, z = xu M13 10 (y2).toNatClampNeg 0 := ⟨_, rfl⟩
    have h := h M15 eM15
    rw [← eM15] at I
    refine lv_iload_n (pc := 69) hx hb dX2_add_69 rfl (lv_at hl 0 rfl) ?_
    exact x_ireti (pc := 70) C I hr hlocks h dX2_add_70
  · have h := h.2 g1
    refine lv_bipush (pc := 9) (v := (-5)) hx hb dX2_add_9 (by decide) ?_
    exact x_ireti (pc := 11) C I hr hlocks h dX2_add_11
def V_X2_hasFreeSlot (M : xM) (x1 : Int32) (post : Int32 → xM → Prop) : Prop := (vp_in x1 8 ∧ (((M 7 (x1).toNatClampNeg) = 0 → post 0 M) ∧ (¬ (M 7 (x1).toNatClampNeg) = 0 → (vp_in x1 8 ∧ (vp_in x1 8 ∧ (((M 6 (x1).toNatClampNeg) ≤ (M 8 (x1).toNatClampNeg) → post 0 M) ∧ (¬ (M 6 (x1).toNatClampNeg) ≤ (M 8 (x1).toNatClampNeg) → post 1 M)))))))
set_option maxHeartbeats 4000000 in
set_option maxRecDepth 100000 in
theorem m_X2_hasFreeSlot {l : Launch} {D : va_G} {cI cZ : ClassId} {a : Nat → Nat} {M : xM} {x1 : Int32} {post : Int32 → xM → Prop} (h : V_X2_hasFreeSlot M x1 post) : xMi l yX2_hasFreeSlot cX2_hasFreeSlot 2 (some .boolean) { frames := 0, cells := 0, slots := 0, locals := 0 } D cI cZ (wC cI cZ a) M [.ref (a 2), .int x1] post := by
  refine x_bodyi (own := RX2) (by decide) rfl (Nat.le_of_ble_eq_true rfl) ?_
  intro p e s m below meth c A ls C hr hlocks hA I hl
  have hx := C.1.1
  have hb := C.1.2.1
  have hl : lv_has ls 2 [(0, .ref (a 2)), (1, .int x1)] := hl
  unfold V_X2_hasFreeSlot at h
  refine lv_aload_n (pc := 0) hx hb dX2_hasFreeSlot_0 rfl (lv_at hl 0 rfl) ?_
  refine x_get (pc := 1) C I wC_2 rfl inlX2 (k := 3) q_3_5 (by decide) rfl rfl dX2_hasFreeSlot_1 ?_
  refine lv_iload_n (pc := 4) hx hb dX2_hasFreeSlot_4 rfl (lv_at hl 1 rfl) ?_
  obtain ⟨g1, h⟩ := h
  refine x_zld (pc := 5) C I wC_7 g1 dX2_hasFreeSlot_5 ?_
  refine lv_if_eq (pc := 6) (tgt := 28) hx hb dX2_hasFreeSlot_6 (by decide) (fun g2 => ?_) (fun g2 => ?_)
  · have h := h.1 g2
    refine lv_iconst (pc := 28) (v := 0) hx hb dX2_hasFreeSlot_28 (by decide) ?_
    exact x_iretz (pc := 29) C I hr hlocks (by decide) h dX2_hasFreeSlot_29
  · have h := h.2 g2
    refine lv_aload_n (pc := 9) hx hb dX2_hasFreeSlot_9 rfl (lv_at hl 0 rfl) ?_
    refine x_get (pc := 10) C I wC_2 rfl inlX2 (k := 4) q_3_6 (by decide) rfl rfl dX2_hasFreeSlot_10 ?_
    refine lv_iload_n (pc := 13) hx hb dX2_hasFreeSlot_13 rfl (lv_at hl 1 rfl) ?_
    obtain ⟨g3, h⟩ := h
    refine x_ald (pc := 14) C I wC_8 g3 dX2_hasFreeSlot_14 ?_
    refine lv_aload_n (pc := 15) hx hb dX2_hasFreeSlot_15 rfl (lv_at hl 0 rfl) ?_
    refine x_get (pc := 16) C I wC_2 rfl inlX2 (k := 2) q_3_3 (by decide) rfl rfl dX2_hasFreeSlot_16 ?_
    refine lv_iload_n (pc := 19) hx hb dX2_hasFreeSlot_19 rfl (lv_at hl 1 rfl) ?_
    obtain ⟨g4, h⟩ := h
    refine x_ald (pc := 20) C I wC_6 g4 dX2_hasFreeSlot_20 ?_
    refine lv_icmp_ge (pc := 21) (tgt := 28) hx hb dX2_hasFreeSlot_21 (by decide) (fun g5 => ?_) (fun g5 => ?_)
    · have h := h.1 g5
      refine lv_iconst (pc := 28) (v := 0) hx hb dX2_hasFreeSlot_28 (by decide) ?_
      exact x_iretz (pc := 29) C I hr hlocks (by decide) h dX2_hasFreeSlot_29
    · have h := h.2 g5
      refine lv_iconst (pc := 24) (v := 1) hx hb dX2_hasFreeSlot_24 (by decide) ?_
      refine lv_goto (pc := 25) (tgt := 29) hx hb dX2_hasFreeSlot_25 (by decide) ?_
      exact x_iretz (pc := 29) C I hr hlocks (by decide) h dX2_hasFreeSlot_29
def V_X2_meanScore_L6 (post : Int32 → xM → Prop) : Nat → xM → Int32 → Int32 → Int32 → Prop
  | 0, _, _, _, _ => False
  | n + 1, M0, x1, x2, x3 => (((M0 2 0) ≤ x3 → ((x2 ≤ 0 → post 0 M0) ∧ (¬ x2 ≤ 0 → (¬ x2 = 0 ∧ post (x1 / x2) M0)))) ∧ (¬ (M0 2 0) ≤ x3 → (vp_in x3 8 ∧ (((M0 7 (x3).toNatClampNeg) = 0 → (∀ y6 : Int32, y6 = (x3 + 1) → (V_X2_meanScore_L6 post n M0 x1 x2 y6))) ∧ (¬ (M0 7 (x3).toNatClampNeg) = 0 → (vp_in x3 8 ∧ (((M0 10 (x3).toNatClampNeg) ≤ 0 → (∀ y9 : Int32, y9 = (x3 + 1) → (V_X2_meanScore_L6 post n M0 x1 x2 y9))) ∧ (¬ (M0 10 (x3).toNatClampNeg) ≤ 0 → (V_X2_score M0 x3 (fun r11 M10 => (∀ y12 : Int32, y12 = (x1 + r11) → (∀ y13 : Int32, y13 = (x2 + 1) → (∀ y14 : Int32, y14 = (x3 + 1) → (V_X2_meanScore_L6 post n M10 y12 y13 y14))))))))))))))
def V_X2_meanScore (M : xM) (post : Int32 → xM → Prop) : Prop := (∃ n15 : Nat, V_X2_meanScore_L6 post n15 M 0 0 0)
set_option maxHeartbeats 4000000 in
set_option maxRecDepth 100000 in
theorem k_X2_meanScore_L6 {l : Launch} {D : va_G} {cI cZ : ClassId} {a : Nat → Nat} {p : Program} {e : Env} {s : State} {m : MethodId} {below : List Frame} {meth : Method} {c : Code} {A : Nat → Prop} {args : Array Value} {post : Int32 → xM → Prop} (C : xC p s m args c cX2_meanScore 4 RX2 D cI cZ) (hr : meth.sig.returnType = (some .int)) (hlocks : meth.locks = false) (hA : ∀ q : Nat, s.heap.size ≤ q → A q) (n : Nat) : ∀ (M0 : xM) (x1 x2 x3 : Int32) (H : Heap) (locs : List Loc) (ls : Array Slot), V_X2_meanScore_L6 post n M0 x1 x2 x3 → xI D (wC cI cZ a M0) A s.heap H locs → lv_has ls 4 [(0, .ref (a 2)), (1, .int x1), (2, .int x2), (3, .int x3)] → W p l e { frames := 1, cells := 0, slots := 0, locals := 21 } s m args below meth c H locs 0 0 (MQ below (va_Qi post (xPost D cI cZ A (wC cI cZ a)) A) args s 0 0 A) (F0 m 6 ls []) := by
  have hx := C.1.1
  have hb := C.1.2.1
  induction n with
  | zero =>
    intro M0 x1 x2 x3 H locs ls h I hl
    exact absurd h id
  | succ n ih6 =>
    intro M0 x1 x2 x3 H locs ls h I hl
    rw [V_X2_meanScore_L6] at h
    refine lv_iload_n (pc := 6) hx hb dX2_meanScore_6 rfl (lv_at hl 3 rfl) ?_
    refine lv_aload_n (pc := 7) hx hb dX2_meanScore_7 rfl (lv_at hl 0 rfl) ?_
    refine x_get (pc := 8) C I wC_2 rfl inlX2 (k := 0) q_3_0 (by decide) rfl rfl dX2_meanScore_8 ?_
    refine lv_icmp_ge (pc := 11) (tgt := 49) hx hb dX2_meanScore_11 (by decide) (fun g1 => ?_) (fun g1 => ?_)
    · have h := h.1 g1
      refine lv_iload_n (pc := 49) hx hb dX2_meanScore_49 rfl (lv_at hl 2 rfl) ?_
      refine lv_if_le (pc := 50) (tgt := 59) hx hb dX2_meanScore_50 (by decide) (fun g2 => ?_) (fun g2 => ?_)
      · have h := h.1 g2
        refine lv_iconst (pc := 59) (v := 0) hx hb dX2_meanScore_59 (by decide) ?_
        exact x_ireti (pc := 60) C I hr hlocks h dX2_meanScore_60
      · have h := h.2 g2
        refine lv_iload_n (pc := 53) hx hb dX2_meanScore_53 rfl (lv_at hl 1 rfl) ?_
        refine lv_iload_n (pc := 54) hx hb dX2_meanScore_54 rfl (lv_at hl 2 rfl) ?_
        obtain ⟨g3, h⟩ := h
        refine lv_idiv (pc := 55) hx hb dX2_meanScore_55 g3 ?_
        refine lv_goto (pc := 56) (tgt := 60) hx hb dX2_meanScore_56 (by decide) ?_
        exact x_ireti (pc := 60) C I hr hlocks h dX2_meanScore_60
    · have h := h.2 g1
      refine lv_aload_n (pc := 14) hx hb dX2_meanScore_14 rfl (lv_at hl 0 rfl) ?_
      refine x_get (pc := 15) C I wC_2 rfl inlX2 (k := 3) q_3_5 (by decide) rfl rfl dX2_meanScore_15 ?_
      refine lv_iload_n (pc := 18) hx hb dX2_meanScore_18 rfl (lv_at hl 3 rfl) ?_
      obtain ⟨g4, h⟩ := h
      refine x_zld (pc := 19) C I wC_7 g4 dX2_meanScore_19 ?_
      refine lv_if_eq (pc := 20) (tgt := 43) hx hb dX2_meanScore_20 (by decide) (fun g5 => ?_) (fun g5 => ?_)
      · have h := h.1 g5
        obtain ⟨y6, ey6⟩ : ∃ y : Int32, y = (x3 + 1) := ⟨_, rfl⟩
        have h := h y6 ey6
        refine lv_iinc (pc := 43) (v := y6) (lv' := [(3, .int y6), (0, .ref (a 2)), (1, .int x1), (2, .int x2)]) hx hb dX2_meanScore_43 hl (k := 3) rfl (by rw [ey6]; rfl) (by decide) rfl (fun ls hl => ?_)
        refine lv_goto (pc := 46) (tgt := 6) hx hb dX2_meanScore_46 (by decide) ?_
        exact ih6 M0 x1 x2 y6 _ _ _ h I (lv_sub hl [1, 2, 3, 0] rfl)
      · have h := h.2 g5
        refine lv_aload_n (pc := 23) hx hb dX2_meanScore_23 rfl (lv_at hl 0 rfl) ?_
        refine x_get (pc := 24) C I wC_2 rfl inlX2 (k := 6) q_3_8 (by decide) rfl rfl dX2_meanScore_24 ?_
        refine lv_iload_n (pc := 27) hx hb dX2_meanScore_27 rfl (lv_at hl 3 rfl) ?_
        obtain ⟨g7, h⟩ := h
        refine x_ald (pc := 28) C I wC_10 g7 dX2_meanScore_28 ?_
        refine lv_if_le (pc := 29) (tgt := 43) hx hb dX2_meanScore_29 (by decide) (fun g8 => ?_) (fun g8 => ?_)
        · have h := h.1 g8
          obtain ⟨y9, ey9⟩ : ∃ y : Int32, y = (x3 + 1) := ⟨_, rfl⟩
          have h := h y9 ey9
          refine lv_iinc (pc := 43) (v := y9) (lv' := [(3, .int y9), (0, .ref (a 2)), (1, .int x1), (2, .int x2)]) hx hb dX2_meanScore_43 hl (k := 3) rfl (by rw [ey9]; rfl) (by decide) rfl (fun ls hl => ?_)
          refine lv_goto (pc := 46) (tgt := 6) hx hb dX2_meanScore_46 (by decide) ?_
          exact ih6 M0 x1 x2 y9 _ _ _ h I (lv_sub hl [1, 2, 3, 0] rfl)
        · have h := h.2 g8
          refine lv_iload_n (pc := 32) hx hb dX2_meanScore_32 rfl (lv_at hl 1 rfl) ?_
          refine lv_aload_n (pc := 33) hx hb dX2_meanScore_33 rfl (lv_at hl 0 rfl) ?_
          refine lv_iload_n (pc := 34) hx hb dX2_meanScore_34 rfl (lv_at hl 3 rfl) ?_
          refine x_calli (pc := 35) C I hA (m_X2_score h) c_RX2_39 wC_2 rfl ⟨Nat.le_of_ble_eq_true rfl, Nat.le_of_ble_eq_true rfl⟩ ⟨rfl, rfl⟩ ⟨Nat.le_of_ble_eq_true rfl, Nat.le_of_ble_eq_true rfl⟩ (As := [.int x3]) rfl hl.1 rfl (Nat.le_of_ble_eq_true rfl) dX2_meanScore_35 (fun r11 M10 H locs h I => ?_)
          refine lv_iadd (pc := 38) hx hb dX2_meanScore_38 ?_
          refine lv_topi (fun y12 ey12 => ?_)
          have h := h y12 ey12
          refine lv_istore_n (pc := 39) (lv' := [(1, .int y12), (0, .ref (a 2)), (2, .int x2), (3, .int x3)]) hx hb dX2_meanScore_39 rfl hl (by decide) rfl (fun ls hl => ?_)
          obtain ⟨y13, ey13⟩ : ∃ y : Int32, y = (x2 + 1) := ⟨_, rfl⟩
          have h := h y13 ey13
          refine lv_iinc (pc := 40) (v := y13) (lv' := [(2, .int y13), (1, .int y12), (0, .ref (a 2)), (3, .int x3)]) hx hb dX2_meanScore_40 hl (k := 2) rfl (by rw [ey13]; rfl) (by decide) rfl (fun ls hl => ?_)
          obtain ⟨y14, ey14⟩ : ∃ y : Int32, y = (x3 + 1) := ⟨_, rfl⟩
          have h := h y14 ey14
          refine lv_iinc (pc := 43) (v := y14) (lv' := [(3, .int y14), (2, .int y13), (1, .int y12), (0, .ref (a 2))]) hx hb dX2_meanScore_43 hl (k := 3) rfl (by rw [ey14]; rfl) (by decide) rfl (fun ls hl => ?_)
          refine lv_goto (pc := 46) (tgt := 6) hx hb dX2_meanScore_46 (by decide) ?_
          exact ih6 M10 y12 y13 y14 _ _ _ h I (lv_sub hl [3, 2, 1, 0] rfl)
set_option maxHeartbeats 4000000 in
set_option maxRecDepth 100000 in
theorem m_X2_meanScore {l : Launch} {D : va_G} {cI cZ : ClassId} {a : Nat → Nat} {M : xM} {post : Int32 → xM → Prop} (h : V_X2_meanScore M post) : xMi l yX2_meanScore cX2_meanScore 4 (some .int) { frames := 1, cells := 0, slots := 0, locals := 21 } D cI cZ (wC cI cZ a) M [.ref (a 2)] post := by
  refine x_bodyi (own := RX2) (by decide) rfl (Nat.le_of_ble_eq_true rfl) ?_
  intro p e s m below meth c A ls C hr hlocks hA I hl
  have hx := C.1.1
  have hb := C.1.2.1
  have hl : lv_has ls 4 [(0, .ref (a 2))] := hl
  unfold V_X2_meanScore at h
  refine lv_iconst (pc := 0) (v := 0) hx hb dX2_meanScore_0 (by decide) ?_
  refine lv_istore_n (pc := 1) (lv' := [(1, .int 0), (0, .ref (a 2))]) hx hb dX2_meanScore_1 rfl hl (by decide) rfl (fun ls hl => ?_)
  refine lv_iconst (pc := 2) (v := 0) hx hb dX2_meanScore_2 (by decide) ?_
  refine lv_istore_n (pc := 3) (lv' := [(2, .int 0), (1, .int 0), (0, .ref (a 2))]) hx hb dX2_meanScore_3 rfl hl (by decide) rfl (fun ls hl => ?_)
  refine lv_iconst (pc := 4) (v := 0) hx hb dX2_meanScore_4 (by decide) ?_
  refine lv_istore_n (pc := 5) (lv' := [(3, .int 0), (2, .int 0), (1, .int 0), (0, .ref (a 2))]) hx hb dX2_meanScore_5 rfl hl (by decide) rfl (fun ls hl => ?_)
  obtain ⟨n15, h⟩ := h
  exact k_X2_meanScore_L6 C hr hlocks hA n15 M 0 0 0 _ _ _ h I (lv_sub hl [3, 2, 1, 0] rfl)
def V_X2_isSlow (M : xM) (x1 x2 : Int32) (post : Int32 → xM → Prop) : Prop := (vp_in x1 8 ∧ (((M 10 (x1).toNatClampNeg) ≤ 0 → post 0 M) ∧ (¬ (M 10 (x1).toNatClampNeg) ≤ 0 → (V_X2_score M x1 (fun r4 M3 => (V_X2_meanScore M3  (fun r6 M5 => (((r6 * x2) ≤ (r4 * 100) → post 0 M5) ∧ (¬ (r6 * x2) ≤ (r4 * 100) → post 1 M5)))))))))
set_option maxHeartbeats 4000000 in
set_option maxRecDepth 100000 in
theorem m_X2_isSlow {l : Launch} {D : va_G} {cI cZ : ClassId} {a : Nat → Nat} {M : xM} {x1 x2 : Int32} {post : Int32 → xM → Prop} (h : V_X2_isSlow M x1 x2 post) : xMi l yX2_isSlow cX2_isSlow 3 (some .boolean) { frames := 2, cells := 0, slots := 0, locals := 44 } D cI cZ (wC cI cZ a) M [.ref (a 2), .int x1, .int x2] post := by
  refine x_bodyi (own := RX2) (by decide) rfl (Nat.le_of_ble_eq_true rfl) ?_
  intro p e s m below meth c A ls C hr hlocks hA I hl
  have hx := C.1.1
  have hb := C.1.2.1
  have hl : lv_has ls 3 [(0, .ref (a 2)), (1, .int x1), (2, .int x2)] := hl
  unfold V_X2_isSlow at h
  refine lv_aload_n (pc := 0) hx hb dX2_isSlow_0 rfl (lv_at hl 0 rfl) ?_
  refine x_get (pc := 1) C I wC_2 rfl inlX2 (k := 6) q_3_8 (by decide) rfl rfl dX2_isSlow_1 ?_
  refine lv_iload_n (pc := 4) hx hb dX2_isSlow_4 rfl (lv_at hl 1 rfl) ?_
  obtain ⟨g1, h⟩ := h
  refine x_ald (pc := 5) C I wC_10 g1 dX2_isSlow_5 ?_
  refine lv_if_le (pc := 6) (tgt := 30) hx hb dX2_isSlow_6 (by decide) (fun g2 => ?_) (fun g2 => ?_)
  · have h := h.1 g2
    refine lv_iconst (pc := 30) (v := 0) hx hb dX2_isSlow_30 (by decide) ?_
    exact x_iretz (pc := 31) C I hr hlocks (by decide) h dX2_isSlow_31
  · have h := h.2 g2
    refine lv_aload_n (pc := 9) hx hb dX2_isSlow_9 rfl (lv_at hl 0 rfl) ?_
    refine lv_iload_n (pc := 10) hx hb dX2_isSlow_10 rfl (lv_at hl 1 rfl) ?_
    refine x_calli (pc := 11) C I hA (m_X2_score h) c_RX2_39 wC_2 rfl ⟨Nat.le_of_ble_eq_true rfl, Nat.le_of_ble_eq_true rfl⟩ ⟨rfl, rfl⟩ ⟨Nat.le_of_ble_eq_true rfl, Nat.le_of_ble_eq_true rfl⟩ (As := [.int x1]) rfl hl.1 rfl (Nat.le_of_ble_eq_true rfl) dX2_isSlow_11 (fun r4 M3 H locs h I => ?_)
    refine lv_bipush (pc := 14) (v := 100) hx hb dX2_isSlow_14 (by decide) ?_
    refine lv_imul (pc := 16) hx hb dX2_isSlow_16 ?_
    refine lv_aload_n (pc := 17) hx hb dX2_isSlow_17 rfl (lv_at hl 0 rfl) ?_
    refine x_calli (pc := 18) C I hA (m_X2_meanScore h) c_RX2_43 wC_2 rfl ⟨Nat.le_of_ble_eq_true rfl, Nat.le_of_ble_eq_true rfl⟩ ⟨rfl, rfl⟩ ⟨Nat.le_of_ble_eq_true rfl, Nat.le_of_ble_eq_true rfl⟩ (As := []) rfl hl.1 rfl (Nat.le_of_ble_eq_true rfl) dX2_isSlow_18 (fun r6 M5 H locs h I => ?_)
    refine lv_iload_n (pc := 21) hx hb dX2_isSlow_21 rfl (lv_at hl 2 rfl) ?_
    refine lv_imul (pc := 22) hx hb dX2_isSlow_22 ?_
    refine lv_icmp_ge (pc := 23) (tgt := 30) hx hb dX2_isSlow_23 (by decide) (fun g7 => ?_) (fun g7 => ?_)
    · have h := h.1 g7
      refine lv_iconst (pc := 30) (v := 0) hx hb dX2_isSlow_30 (by decide) ?_
      exact x_iretz (pc := 31) C I hr hlocks (by decide) h dX2_isSlow_31
    · have h := h.2 g7
      refine lv_iconst (pc := 26) (v := 1) hx hb dX2_isSlow_26 (by decide) ?_
      refine lv_goto (pc := 27) (tgt := 31) hx hb dX2_isSlow_27 (by decide) ?_
      exact x_iretz (pc := 31) C I hr hlocks (by decide) h dX2_isSlow_31
def V_X4_add (M : xM) (x1 : Int32) (post : Int32 → xM → Prop) : Prop := (((M 3 0) < 24 → (∀ y2 : Int32, y2 = (M 3 0) → (∀ M3 : xM, M3 = xu M 3 0 ((M 3 0) + 1) → (vp_in y2 24 ∧ ∀ M5 : xM, M5 = xu M3 11 (y2).toNatClampNeg x1 → (vp_in y2 24 ∧ ∀ M7 : xM, M7 = xu M5 12 (y2).toNatClampNeg 0 → (vp_in y2 24 ∧ ∀ M9 : xM, M9 = xu M7 13 (y2).toNatClampNeg (-6) → (vp_in y2 24 ∧ ∀ M11 : xM, M11 = xu M9 14 (y2).toNatClampNeg (-6) → post y2 M11))))))) ∧ (¬ (M 3 0) < 24 → post (-5) M))
set_option maxHeartbeats 4000000 in
set_option maxRecDepth 100000 in
theorem m_X4_add {l : Launch} {D : va_G} {cI cZ : ClassId} {a : Nat → Nat} {M : xM} {x1 : Int32} {post : Int32 → xM → Prop} (h : V_X4_add M x1 post) : xMi l yX4_add cX4_add 3 (some .int) { frames := 0, cells := 0, slots := 0, locals := 0 } D cI cZ (wC cI cZ a) M [.ref (a 3), .int x1] post := by
  refine x_bodyi (own := RX4) (by decide) rfl (Nat.le_of_ble_eq_true rfl) ?_
  intro p e s m below meth c A ls C hr hlocks hA I hl
  have hx := C.1.1
  have hb := C.1.2.1
  have hl : lv_has ls 3 [(0, .ref (a 3)), (1, .int x1)] := hl
  unfold V_X4_add at h
  refine lv_aload_n (pc := 0) hx hb dX4_add_0 rfl (lv_at hl 0 rfl) ?_
  refine x_get (pc := 1) C I wC_3 rfl inlX4 (k := 0) q_3_12 (by decide) rfl rfl dX4_add_1 ?_
  refine lv_bipush (pc := 4) (v := 24) hx hb dX4_add_4 (by decide) ?_
  refine lv_icmp_lt (pc := 6) (tgt := 12) hx hb dX4_add_6 (by decide) (fun g1 => ?_) (fun g1 => ?_)
  · have h := h.1 g1
    refine lv_aload_n (pc := 12) hx hb dX4_add_12 rfl (lv_at hl 0 rfl) ?_
    refine x_get (pc := 13) C I wC_3 rfl inlX4 (k := 0) q_3_12 (by decide) rfl rfl dX4_add_13 ?_
    refine lv_topi (fun y2 ey2 => ?_)
    have h := h y2 ey2
    refine lv_istore_n (pc := 16) (lv' := [(2, .int y2), (0, .ref (a 3)), (1, .int x1)]) hx hb dX4_add_16 rfl hl (by decide) rfl (fun ls hl => ?_)
    refine lv_aload_n (pc := 17) hx hb dX4_add_17 rfl (lv_at hl 1 rfl) ?_
    refine lv_dup (pc := 18) hx hb dX4_add_18 rfl ?_
    refine x_get (pc := 19) C I wC_3 rfl inlX4 (k := 0) q_3_12 (by decide) rfl rfl dX4_add_19 ?_
    refine lv_iconst (pc := 22) (v := 1) hx hb dX4_add_22 (by decide) ?_
    refine lv_iadd (pc := 23) hx hb dX4_add_23 ?_
    refine x_puti (pc := 24) C I wC_3 rfl inlX4 tyX4_ok nmX4 (k := 0) q_3_12 (by decide) rfl rfl rfl (Nat.le_of_ble_eq_true rfl) sC_3_0 dX4_add_24 (fun H locs I => ?_)
    obtain ⟨M3, eM3⟩ : ∃ z : xM, z = xu M 3 0 ((M 3 0) + 1) := ⟨_, rfl⟩
    have h := h M3 eM3
    rw [← eM3] at I
    refine lv_aload_n (pc := 27) hx hb dX4_add_27 rfl (lv_at hl 1 rfl) ?_
    refine x_get (pc := 28) C I wC_3 rfl inlX4 (k := 1) q_3_13 (by decide) rfl rfl dX4_add_28 ?_
    refine lv_iload_n (pc := 31) hx hb dX4_add_31 rfl (lv_at hl 0 rfl) ?_
    refine lv_iload_n (pc := 32) hx hb dX4_add_32 rfl (lv_at hl 2 rfl) ?_
    obtain ⟨g4, h⟩ := h
    refine x_ast (pc := 33) C I wC_11 g4 sC_11 dX4_add_33 (fun H locs I => ?_)
    obtain ⟨M5, eM5⟩ : ∃ z : xM, z = xu M3 11 (y2).toNatClampNeg x1 := ⟨_, rfl⟩
    have h := h M5 eM5
    rw [← eM5] at I
    refine lv_aload_n (pc := 34) hx hb dX4_add_34 rfl (lv_at hl 1 rfl) ?_
    refine x_get (pc := 35) C I wC_3 rfl inlX4 (k := 2) q_3_14 (by decide) rfl rfl dX4_add_35 ?_
    refine lv_iload_n (pc := 38) hx hb dX4_add_38 rfl (lv_at hl 0 rfl) ?_
    refine lv_iconst (pc := 39) (v := 0) hx hb dX4_add_39 (by decide) ?_
    obtain ⟨g6, h⟩ := h
    refine x_ast (pc := 40) C I wC_12 g6 sC_12 dX4_add_40 (fun H locs I => ?_)
    obtain ⟨M7, eM7⟩ : ∃ z : xM, z = xu M5 12 (y2).toNatClampNeg 0 := ⟨_, rfl⟩
    have h := h M7 eM7
    rw [← eM7] at I
    refine lv_aload_n (pc := 41) hx hb dX4_add_41 rfl (lv_at hl 1 rfl) ?_
    refine x_get (pc := 42) C I wC_3 rfl inlX4 (k := 3) q_3_15 (by decide) rfl rfl dX4_add_42 ?_
    refine lv_iload_n (pc := 45) hx hb dX4_add_45 rfl (lv_at hl 0 rfl) ?_
    refine lv_bipush (pc := 46) (v := (-6)) hx hb dX4_add_46 (by decide) ?_
    obtain ⟨g8, h⟩ := h
    refine x_ast (pc := 48) C I wC_13 g8 sC_13 dX4_add_48 (fun H locs I => ?_)
    obtain ⟨M9, eM9⟩ : ∃ z : xM, z = xu M7 13 (y2).toNatClampNeg (-6) := ⟨_, rfl⟩
    have h := h M9 eM9
    rw [← eM9] at I
    refine lv_aload_n (pc := 49) hx hb dX4_add_49 rfl (lv_at hl 1 rfl) ?_
    refine x_get (pc := 50) C I wC_3 rfl inlX4 (k := 4) q_3_16 (by decide) rfl rfl dX4_add_50 ?_
    refine lv_iload_n (pc := 53) hx hb dX4_add_53 rfl (lv_at hl 0 rfl) ?_
    refine lv_bipush (pc := 54) (v := (-6)) hx hb dX4_add_54 (by decide) ?_
    obtain ⟨g10, h⟩ := h
    refine x_ast (pc := 56) C I wC_14 g10 sC_14 dX4_add_56 (fun H locs I => ?_)
    obtain ⟨M11, eM11⟩ : ∃ z : xM, z = xu M9 14 (y2).toNatClampNeg (-6) := ⟨_, rfl⟩
    have h := h M11 eM11
    rw [← eM11] at I
    refine lv_iload_n (pc := 57) hx hb dX4_add_57 rfl (lv_at hl 0 rfl) ?_
    exact x_ireti (pc := 58) C I hr hlocks h dX4_add_58
  · have h := h.2 g1
    refine lv_bipush (pc := 9) (v := (-5)) hx hb dX4_add_9 (by decide) ?_
    exact x_ireti (pc := 11) C I hr hlocks h dX4_add_11
def V_X4_lastFinish_L5 (post : Int32 → xM → Prop) : Nat → xM → Int32 → Int32 → Prop
  | 0, _, _, _ => False
  | n + 1, M0, x1, x2 => (((M0 3 0) ≤ x2 → post x1 M0) ∧ (¬ (M0 3 0) ≤ x2 → (vp_in x2 24 ∧ (((M0 13 (x2).toNatClampNeg) = (-6) → post (-6) M0) ∧ (¬ (M0 13 (x2).toNatClampNeg) = (-6) → (vp_in x2 24 ∧ (∀ y5 : Int32, y5 = (x_max x1 (M0 14 (x2).toNatClampNeg)) → (∀ y6 : Int32, y6 = (x2 + 1) → (V_X4_lastFinish_L5 post n M0 y5 y6)))))))))
def V_X4_lastFinish (M : xM) (post : Int32 → xM → Prop) : Prop := (∃ n7 : Nat, V_X4_lastFinish_L5 post n7 M (-6) 0)
set_option maxHeartbeats 4000000 in
set_option maxRecDepth 100000 in
theorem k_X4_lastFinish_L5 {l : Launch} {D : va_G} {cI cZ : ClassId} {a : Nat → Nat} {p : Program} {e : Env} {s : State} {m : MethodId} {below : List Frame} {meth : Method} {c : Code} {A : Nat → Prop} {args : Array Value} {post : Int32 → xM → Prop} (C : xC p s m args c cX4_lastFinish 3 RX4 D cI cZ) (hr : meth.sig.returnType = (some .int)) (hlocks : meth.locks = false) (hA : ∀ q : Nat, s.heap.size ≤ q → A q) (n : Nat) : ∀ (M0 : xM) (x1 x2 : Int32) (H : Heap) (locs : List Loc) (ls : Array Slot), V_X4_lastFinish_L5 post n M0 x1 x2 → xI D (wC cI cZ a M0) A s.heap H locs → lv_has ls 3 [(0, .ref (a 3)), (1, .int x1), (2, .int x2)] → W p l e { frames := 1, cells := 0, slots := 0, locals := 21 } s m args below meth c H locs 0 0 (MQ below (va_Qi post (xPost D cI cZ A (wC cI cZ a)) A) args s 0 0 A) (F0 m 5 ls []) := by
  have hx := C.1.1
  have hb := C.1.2.1
  induction n with
  | zero =>
    intro M0 x1 x2 H locs ls h I hl
    exact absurd h id
  | succ n ih5 =>
    intro M0 x1 x2 H locs ls h I hl
    rw [V_X4_lastFinish_L5] at h
    refine lv_iload_n (pc := 5) hx hb dX4_lastFinish_5 rfl (lv_at hl 2 rfl) ?_
    refine lv_aload_n (pc := 6) hx hb dX4_lastFinish_6 rfl (lv_at hl 0 rfl) ?_
    refine x_get (pc := 7) C I wC_3 rfl inlX4 (k := 0) q_3_12 (by decide) rfl rfl dX4_lastFinish_7 ?_
    refine lv_icmp_ge (pc := 10) (tgt := 44) hx hb dX4_lastFinish_10 (by decide) (fun g1 => ?_) (fun g1 => ?_)
    · have h := h.1 g1
      refine lv_iload_n (pc := 44) hx hb dX4_lastFinish_44 rfl (lv_at hl 1 rfl) ?_
      exact x_ireti (pc := 45) C I hr hlocks h dX4_lastFinish_45
    · have h := h.2 g1
      refine lv_aload_n (pc := 13) hx hb dX4_lastFinish_13 rfl (lv_at hl 0 rfl) ?_
      refine x_get (pc := 14) C I wC_3 rfl inlX4 (k := 3) q_3_15 (by decide) rfl rfl dX4_lastFinish_14 ?_
      refine lv_iload_n (pc := 17) hx hb dX4_lastFinish_17 rfl (lv_at hl 2 rfl) ?_
      obtain ⟨g2, h⟩ := h
      refine x_ald (pc := 18) C I wC_13 g2 dX4_lastFinish_18 ?_
      refine lv_bipush (pc := 19) (v := (-6)) hx hb dX4_lastFinish_19 (by decide) ?_
      refine lv_icmp_ne (pc := 21) (tgt := 27) hx hb dX4_lastFinish_21 (by decide) (fun g3 => ?_) (fun g3 => ?_)
      · have h := h.2 g3
        refine lv_iload_n (pc := 27) hx hb dX4_lastFinish_27 rfl (lv_at hl 1 rfl) ?_
        refine lv_aload_n (pc := 28) hx hb dX4_lastFinish_28 rfl (lv_at hl 0 rfl) ?_
        refine x_get (pc := 29) C I wC_3 rfl inlX4 (k := 4) q_3_16 (by decide) rfl rfl dX4_lastFinish_29 ?_
        refine lv_iload_n (pc := 32) hx hb dX4_lastFinish_32 rfl (lv_at hl 2 rfl) ?_
        obtain ⟨g4, h⟩ := h
        refine x_ald (pc := 33) C I wC_14 g4 dX4_lastFinish_33 ?_
        refine x_mmax (pc := 34) C q_21_23 ⟨q_22_0, q_15_0, q_22_1⟩ hl.1 (Nat.le_of_ble_eq_true rfl) (Nat.le_of_ble_eq_true rfl) ⟨Nat.le_of_ble_eq_true rfl, Nat.le_of_ble_eq_true rfl⟩ dX4_lastFinish_34 ?_
        refine lv_topi (fun y5 ey5 => ?_)
        have h := h y5 ey5
        refine lv_istore_n (pc := 37) (lv' := [(1, .int y5), (0, .ref (a 3)), (2, .int x2)]) hx hb dX4_lastFinish_37 rfl hl (by decide) rfl (fun ls hl => ?_)
        obtain ⟨y6, ey6⟩ : ∃ y : Int32, y = (x2 + 1) := ⟨_, rfl⟩
        have h := h y6 ey6
        refine lv_iinc (pc := 38) (v := y6) (lv' := [(2, .int y6), (1, .int y5), (0, .ref (a 3))]) hx hb dX4_lastFinish_38 hl (k := 2) rfl (by rw [ey6]; rfl) (by decide) rfl (fun ls hl => ?_)
        refine lv_goto (pc := 41) (tgt := 5) hx hb dX4_lastFinish_41 (by decide) ?_
        exact ih5 M0 y5 y6 _ _ _ h I (lv_sub hl [2, 1, 0] rfl)
      · have h := h.1 g3
        refine lv_bipush (pc := 24) (v := (-6)) hx hb dX4_lastFinish_24 (by decide) ?_
        exact x_ireti (pc := 26) C I hr hlocks h dX4_lastFinish_26
set_option maxHeartbeats 4000000 in
set_option maxRecDepth 100000 in
theorem m_X4_lastFinish {l : Launch} {D : va_G} {cI cZ : ClassId} {a : Nat → Nat} {M : xM} {post : Int32 → xM → Prop} (h : V_X4_lastFinish M post) : xMi l yX4_lastFinish cX4_lastFinish 3 (some .int) { frames := 1, cells := 0, slots := 0, locals := 21 } D cI cZ (wC cI cZ a) M [.ref (a 3)] post := by
  refine x_bodyi (own := RX4) (by decide) rfl (Nat.le_of_ble_eq_true rfl) ?_
  intro p e s m below meth c A ls C hr hlocks hA I hl
  have hx := C.1.1
  have hb := C.1.2.1
  have hl : lv_has ls 3 [(0, .ref (a 3))] := hl
  unfold V_X4_lastFinish at h
  refine lv_bipush (pc := 0) (v := (-6)) hx hb dX4_lastFinish_0 (by decide) ?_
  refine lv_istore_n (pc := 2) (lv' := [(1, .int (-6)), (0, .ref (a 3))]) hx hb dX4_lastFinish_2 rfl hl (by decide) rfl (fun ls hl => ?_)
  refine lv_iconst (pc := 3) (v := 0) hx hb dX4_lastFinish_3 (by decide) ?_
  refine lv_istore_n (pc := 4) (lv' := [(2, .int 0), (1, .int (-6)), (0, .ref (a 3))]) hx hb dX4_lastFinish_4 rfl hl (by decide) rfl (fun ls hl => ?_)
  obtain ⟨n7, h⟩ := h
  exact k_X4_lastFinish_L5 C hr hlocks hA n7 M (-6) 0 _ _ _ h I (lv_sub hl [2, 1, 0] rfl)
