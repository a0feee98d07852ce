def V_X0_add (M : xM) (x1 x2 x3 : Int32) (post : xM → Prop) : Prop := (V_X0_isFull M  (fun r2 M1 => ((r2 = 0 → (∀ y4 : Int32, y4 = (M1 4 0) → (∀ M5 : xM, M5 = xu M1 4 0 ((M1 4 0) + 1) → (vp_in y4 200 ∧ ∀ M7 : xM, M7 = xu M5 15 (y4).toNatClampNeg x1 → (vp_in y4 200 ∧ ∀ M9 : xM, M9 = xu M7 16 (y4).toNatClampNeg x2 → (vp_in y4 200 ∧ ∀ M11 : xM, M11 = xu M9 17 (y4).toNatClampNeg 1 → (vp_in y4 200 ∧ ∀ M13 : xM, M13 = xu M11 18 (y4).toNatClampNeg (vp_nar .boolean x3) → (vp_in y4 200 ∧ ∀ M15 : xM, M15 = xu M13 19 (y4).toNatClampNeg 0 → (vp_in y4 200 ∧ ∀ M17 : xM, M17 = xu M15 20 (y4).toNatClampNeg 0 → (vp_in y4 200 ∧ ∀ M19 : xM, M19 = xu M17 21 (y4).toNatClampNeg 0 → (vp_in y4 200 ∧ ∀ M21 : xM, M21 = xu M19 22 (y4).toNatClampNeg 0 → (vp_in (M21 4 10) 32 ∧ ∀ M23 : xM, M23 = xu M21 23 ((M21 4 10)).toNatClampNeg y4 → (∀ M24 : xM, M24 = xu M23 4 10 ((M23 4 10) + 1) → post M24))))))))))))) ∧ (¬ r2 = 0 → post M1))))
set_option maxHeartbeats 4000000 in
set_option maxRecDepth 100000 in
theorem m_X0_add {l : Launch} {D : va_G} {cI cZ : ClassId} {a : Nat → Nat} {M : xM} {x1 x2 x3 : Int32} {post : xM → Prop} (h : V_X0_add M x1 x2 x3 post) : xMv l yX0_add cX0_add 5 none { frames := 1, cells := 0, slots := 0, locals := 20 } D cI cZ (wC cI cZ a) M [.ref (a 4), .int x1, .int x2, .int x3] post := by
  refine x_bodyv (own := RX0) (by decide) rfl (Nat.le_of_ble_eq_true rfl) ?_
  intro p e s m below meth c A ls C hr hlocks hA I hl
  have hx := C.1.1
  have hb := C.1.2.1
  have hl : lv_has ls 5 [(0, .ref (a 4)), (1, .int x1), (2, .int x2), (3, .int x3)] := hl
  unfold V_X0_add at h
  refine lv_aload_n (pc := 0) hx hb dX0_add_0 rfl (lv_at hl 0 rfl) ?_
  refine x_calli (pc := 1) C I hA (m_X0_isFull h) c_RX0_47 wC_4 rfl ⟨Nat.le_of_ble_eq_true rfl, Nat.le_of_ble_eq_true rfl⟩ ⟨rfl, rfl⟩ ⟨Nat.le_of_ble_eq_true rfl, Nat.le_of_ble_eq_true rfl⟩ (As := []) rfl hl.1 rfl (Nat.le_of_ble_eq_true rfl) dX0_add_1 (fun r2 M1 H locs h I => ?_)
  refine lv_if_eq (pc := 4) (tgt := 8) hx hb dX0_add_4 (by decide) (fun g3 => ?_) (fun g3 => ?_)
  · have h := h.1 g3
    refine lv_aload_n (pc := 8) hx hb dX0_add_8 rfl (lv_at hl 0 rfl) ?_
    refine x_get (pc := 9) C I wC_4 rfl inlX0 (k := 0) q_3_20 (by decide) rfl rfl dX0_add_9 ?_
    refine lv_topi (fun y4 ey4 => ?_)
    have h := h y4 ey4
    refine lv_istore (pc := 12) (lv' := [(4, .int y4), (0, .ref (a 4)), (1, .int x1), (2, .int x2), (3, .int x3)]) hx hb dX0_add_12 hl (by decide) rfl (fun ls hl => ?_)
    refine lv_aload_n (pc := 14) hx hb dX0_add_14 rfl (lv_at hl 1 rfl) ?_
    refine lv_dup (pc := 15) hx hb dX0_add_15 rfl ?_
    refine x_get (pc := 16) C I wC_4 rfl inlX0 (k := 0) q_3_20 (by decide) rfl rfl dX0_add_16 ?_
    refine lv_iconst (pc := 19) (v := 1) hx hb dX0_add_19 (by decide) ?_
    refine lv_iadd (pc := 20) hx hb dX0_add_20 ?_
    refine x_puti (pc := 21) C I wC_4 rfl inlX0 tyX0_ok nmX0 (k := 0) q_3_20 (by decide) rfl rfl rfl (Nat.le_of_ble_eq_true rfl) sC_4_0 dX0_add_21 (fun H locs I => ?_)
    obtain ⟨M5, eM5⟩ : ∃ z : xM, z = xu M1 4 0 ((M1 4 0) + 1) := ⟨_, rfl⟩
    have h := h M5 eM5
    rw [← eM5] at I
    refine lv_aload_n (pc := 24) hx hb dX0_add_24 rfl (lv_at hl 1 rfl) ?_
    refine x_get (pc := 25) C I wC_4 rfl inlX0 (k := 1) q_3_21 (by decide) rfl rfl dX0_add_25 ?_
    refine lv_iload (pc := 28) hx hb dX0_add_28 (lv_at hl 0 rfl) ?_
    refine lv_iload_n (pc := 30) hx hb dX0_add_30 rfl (lv_at hl 2 rfl) ?_
    obtain ⟨g6, h⟩ := h
    refine x_ast (pc := 31) C I wC_15 g6 sC_15 dX0_add_31 (fun H locs I => ?_)
    obtain ⟨M7, eM7⟩ : ∃ z : xM, z = xu M5 15 (y4).toNatClampNeg x1 := ⟨_, rfl⟩
    have h := h M7 eM7
    rw [← eM7] at I
    refine lv_aload_n (pc := 32) hx hb dX0_add_32 rfl (lv_at hl 1 rfl) ?_
    refine x_get (pc := 33) C I wC_4 rfl inlX0 (k := 2) q_3_22 (by decide) rfl rfl dX0_add_33 ?_
    refine lv_iload (pc := 36) hx hb dX0_add_36 (lv_at hl 0 rfl) ?_
    refine lv_iload_n (pc := 38) hx hb dX0_add_38 rfl (lv_at hl 3 rfl) ?_
    obtain ⟨g8, h⟩ := h
    refine x_ast (pc := 39) C I wC_16 g8 sC_16 dX0_add_39 (fun H locs I => ?_)
    obtain ⟨M9, eM9⟩ : ∃ z : xM, z = xu M7 16 (y4).toNatClampNeg x2 := ⟨_, rfl⟩
    have h := h M9 eM9
    rw [← eM9] at I
    refine lv_aload_n (pc := 40) hx hb dX0_add_40 rfl (lv_at hl 1 rfl) ?_
    refine x_get (pc := 41) C I wC_4 rfl inlX0 (k := 3) q_3_23 (by decide) rfl rfl dX0_add_41 ?_
    refine lv_iload (pc := 44) hx hb dX0_add_44 (lv_at hl 0 rfl) ?_
    refine lv_iconst (pc := 46) (v := 1) hx hb dX0_add_46 (by decide) ?_
    obtain ⟨g10, h⟩ := h
    refine x_ast (pc := 47) C I wC_17 g10 sC_17 dX0_add_47 (fun H locs I => ?_)
    obtain ⟨M11, eM11⟩ : ∃ z : xM, z = xu M9 17 (y4).toNatClampNeg 1 := ⟨_, rfl⟩
    have h := h M11 eM11
    rw [← eM11] at I
    refine lv_aload_n (pc := 48) hx hb dX0_add_48 rfl (lv_at hl 1 rfl) ?_
    refine x_get (pc := 49) C I wC_4 rfl inlX0 (k := 4) q_4_0 (by decide) rfl rfl dX0_add_49 ?_
    refine lv_iload (pc := 52) hx hb dX0_add_52 (lv_at hl 0 rfl) ?_
    refine lv_iload_n (pc := 54) hx hb dX0_add_54 rfl (lv_at hl 4 rfl) ?_
    obtain ⟨g12, h⟩ := h
    refine x_zst (pc := 55) C I wC_18 g12 sC_18 dX0_add_55 (fun H locs I => ?_)
    obtain ⟨M13, eM13⟩ : ∃ z : xM, z = xu M11 18 (y4).toNatClampNeg (vp_nar .boolean x3) := ⟨_, rfl⟩
    have h := h M13 eM13
    rw [← eM13] at I
    refine lv_aload_n (pc := 56) hx hb dX0_add_56 rfl (lv_at hl 1 rfl) ?_
    refine x_get (pc := 57) C I wC_4 rfl inlX0 (k := 5) q_4_1 (by decide) rfl rfl dX0_add_57 ?_
    refine lv_iload (pc := 60) hx hb dX0_add_60 (lv_at hl 0 rfl) ?_
    refine lv_iconst (pc := 62) (v := 0) hx hb dX0_add_62 (by decide) ?_
    obtain ⟨g14, h⟩ := h
    refine x_ast (pc := 63) C I wC_19 g14 sC_19 dX0_add_63 (fun H locs I => ?_)
    obtain ⟨M15, eM15⟩ : ∃ z : xM, z = xu M13 19 (y4).toNatClampNeg 0 := ⟨_, rfl⟩
    have h := h M15 eM15
    rw [← eM15] at I
    refine lv_aload_n (pc := 64) hx hb dX0_add_64 rfl (lv_at hl 1 rfl) ?_
    refine x_get (pc := 65) C I wC_4 rfl inlX0 (k := 6) q_4_2 (by decide) rfl rfl dX0_add_65 ?_
    refine lv_iload (pc := 68) hx hb dX0_add_68 (lv_at hl 0 rfl) ?_
    refine lv_iconst (pc := 70) (v := 0) hx hb dX0_add_70 (by decide) ?_
    obtain ⟨g16, h⟩ := h
    refine x_ast (pc := 71) C I wC_20 g16 sC_20 dX0_add_71 (fun H locs I => ?_)
    obtain ⟨M17, eM17⟩ : ∃ z : xM, z = xu M15 20 (y4).toNatClampNeg 0 := ⟨_, rfl⟩
    have h := h M17 eM17
    rw [← eM17] at I
    refine lv_aload_n (pc := 72) hx hb dX0_add_72 rfl (lv_at hl 1 rfl) ?_
    refine x_get (pc := 73) C I wC_4 rfl inlX0 (k := 7) q_4_3 (by decide) rfl rfl dX0_add_73 ?_
    refine lv_iload (pc := 76) hx hb dX0_add_76 (lv_at hl 0 rfl) ?_
    refine lv_iconst (pc := 78) (v := 0) hx hb dX0_add_78 (by decide) ?_
    obtain ⟨g18, h⟩ := h
    refine x_ast (pc := 79) C I wC_21 g18 sC_21 dX0_add_79 (fun H locs I => ?_)
    obtain ⟨M19, eM19⟩ : ∃ z : xM, z = xu M17 21 (y4).toNatClampNeg 0 := ⟨_, rfl⟩
    have h := h M19 eM19
    rw [← eM19] at I
    refine lv_aload_n (pc := 80) hx hb dX0_add_80 rfl (lv_at hl 1 rfl) ?_
    refine x_get (pc := 81) C I wC_4 rfl inlX0 (k := 8) q_4_4 (by decide) rfl rfl dX0_add_81 ?_
    refine lv_iload (pc := 84) hx hb dX0_add_84 (lv_at hl 0 rfl) ?_
    refine lv_iconst (pc := 86) (v := 0) hx hb dX0_add_86 (by decide) ?_
    obtain ⟨g20, h⟩ := h
    refine x_ast (pc := 87) C I wC_22 g20 sC_22 dX0_add_87 (fun H locs I => ?_)
    obtain ⟨M21, eM21⟩ : ∃ z : xM, z = xu M19 22 (y4).toNatClampNeg 0 := ⟨_, rfl⟩
    have h := h M21 eM21
    rw [← eM21] at I
    refine lv_aload_n (pc := 88) hx hb dX0_add_88 rfl (lv_at hl 1 rfl) ?_
    refine x_get (pc := 89) C I wC_4 rfl inlX0 (k := 9) q_4_5 (by decide) rfl rfl dX0_add_89 ?_
    refine lv_aload_n (pc := 92) hx hb dX0_add_92 rfl (lv_at hl 1 rfl) ?_
    refine x_get (pc := 93) C I wC_4 rfl inlX0 (k := 10) q_4_6 (by decide) rfl rfl dX0_add_93 ?_
    refine lv_iload (pc := 96) hx hb dX0_add_96 (lv_at hl 0 rfl) ?_
    obtain ⟨g22, h⟩ := h
    refine x_ast (pc := 98) C I wC_23 g22 sC_23 dX0_add_98 (fun H locs I => ?_)
    obtain ⟨M23, eM23⟩ : ∃ z : xM, z = xu M21 23 ((M21 4 10)).toNatClampNeg y4 := ⟨_, rfl⟩
    have h := h M23 eM23
    rw [← eM23] at I
    refine lv_aload_n (pc := 99) hx hb dX0_add_99 rfl (lv_at hl 1 rfl) ?_
    refine lv_dup (pc := 100) hx hb dX0_add_100 rfl ?_
    refine x_get (pc := 101) C I wC_4 rfl inlX0 (k := 10) q_4_6 (by decide) rfl rfl dX0_add_101 ?_
    refine lv_iconst (pc := 104) (v := 1) hx hb dX0_add_104 (by decide) ?_
    refine lv_iadd (pc := 105) hx hb dX0_add_105 ?_
    refine x_puti (pc := 106) C I wC_4 rfl inlX0 tyX0_ok nmX0 (k := 10) q_4_6 (by decide) rfl rfl rfl (Nat.le_of_ble_eq_true rfl) sC_4_10 dX0_add_106 (fun H locs I => ?_)
    obtain ⟨M24, eM24⟩ : ∃ z : xM, z = xu M23 4 10 ((M23 4 10) + 1) := ⟨_, rfl⟩
    have h := h M24 eM24
    rw [← eM24] at I
    exact x_retv (pc := 109) C I hr hlocks h dX0_add_109
  · have h := h.2 g3
    exact x_retv (pc := 7) C I hr hlocks h dX0_add_7
def V_X0_dropEnded_L4 (post : xM → Prop) : Nat → xM → Int32 → Int32 → Prop
  | 0, _, _, _ => False
  | n + 1, M0, x1, x2 => (((M0 4 10) ≤ x2 → (∀ M2 : xM, M2 = xu M0 4 10 x1 → post M2)) ∧ (¬ (M0 4 10) ≤ x2 → (vp_in x2 32 ∧ (∀ y4 : Int32, y4 = (M0 23 (x2).toNatClampNeg) → (vp_in y4 200 ∧ (((M0 17 (y4).toNatClampNeg) = 1 → (vp_in x1 32 ∧ ∀ M9 : xM, M9 = xu M0 23 (x1).toNatClampNeg y4 → (∀ y10 : Int32, y10 = (x1 + 1) → (∀ y11 : Int32, y11 = (x2 + 1) → (V_X0_dropEnded_L4 post n M9 y10 y11))))) ∧ (¬ (M0 17 (y4).toNatClampNeg) = 1 → (∀ y7 : Int32, y7 = (x2 + 1) → (V_X0_dropEnded_L4 post n M0 x1 y7)))))))))
def V_X0_dropEnded (M : xM) (post : xM → Prop) : Prop := (∃ n12 : Nat, V_X0_dropEnded_L4 post n12 M 0 0)
set_option maxHeartbeats 4000000 in
set_option maxRecDepth 100000 in
theorem k_X0_dropEnded_L4 {l : Launch} {D : va_G} {cI cZ : ClassId} {a : Nat → Nat} {p : Program} {e : Env} {s : State} {m : MethodId} {below : List Frame} {meth : Method} {c : Code} {A : Nat → Prop} {args : Array Value} {post : xM → Prop} (C : xC p s m args c cX0_dropEnded 4 RX0 D cI cZ) (hr : meth.sig.returnType = none) (hlocks : meth.locks = false) (hA : ∀ q : Nat, s.heap.size ≤ q → A q) (n : Nat) : ∀ (M0 : xM) (x1 x2 : Int32) (H : Heap) (locs : List Loc) (ls : Array Slot), V_X0_dropEnded_L4 post n M0 x1 x2 → xI D (wC cI cZ a M0) A s.heap H locs → lv_has ls 4 [(0, .ref (a 4)), (1, .int x1), (2, .int x2)] → W p l e { frames := 0, cells := 0, slots := 0, locals := 0 } s m args below meth c H locs 0 0 (MQ below (va_Qv post (xPost D cI cZ A (wC cI cZ a)) A) args s 0 0 A) (F0 m 4 ls []) := by
  have hx := C.1.1
  have hb := C.1.2.1
  induction n with
  | zero =>
    intro M0 x1 x2 H locs ls h I hl
    exact absurd h id
  | succ n ih4 =>
    intro M0 x1 x2 H locs ls h I hl
    rw [V_X0_dropEnded_L4] at h
    refine lv_iload_n (pc := 4) hx hb dX0_dropEnded_4 rfl (lv_at hl 2 rfl) ?_
    refine lv_aload_n (pc := 5) hx hb dX0_dropEnded_5 rfl (lv_at hl 0 rfl) ?_
    refine x_get (pc := 6) C I wC_4 rfl inlX0 (k := 10) q_4_6 (by decide) rfl rfl dX0_dropEnded_6 ?_
    refine lv_icmp_ge (pc := 9) (tgt := 45) hx hb dX0_dropEnded_9 (by decide) (fun g1 => ?_) (fun g1 => ?_)
    · have h := h.1 g1
      refine lv_aload_n (pc := 45) hx hb dX0_dropEnded_45 rfl (lv_at hl 0 rfl) ?_
      refine lv_iload_n (pc := 46) hx hb dX0_dropEnded_46 rfl (lv_at hl 1 rfl) ?_
      refine x_puti (pc := 47) C I wC_4 rfl inlX0 tyX0_ok nmX0 (k := 10) q_4_6 (by decide) rfl rfl rfl (Nat.le_of_ble_eq_true rfl) sC_4_10 dX0_dropEnded_47 (fun H locs I => ?_)
      obtain ⟨M2, eM2⟩ : ∃ z : xM, z = xu M0 4 10 x1 := ⟨_, rfl⟩
      have h := h M2 eM2
      rw [← eM2] at I
      exact x_retv (pc := 50) C I hr hlocks h dX0_dropEnded_50
    · have h := h.2 g1
      refine lv_aload_n (pc := 12) hx hb dX0_dropEnded_12 rfl (lv_at hl 0 rfl) ?_
      refine x_get (pc := 13) C I wC_4 rfl inlX0 (k := 9) q_4_5 (by decide) rfl rfl dX0_dropEnded_13 ?_
      refine lv_iload_n (pc := 16) hx hb dX0_dropEnded_16 rfl (lv_at hl 2 rfl) ?_
      obtain ⟨g3, h⟩ := h
      refine x_ald (pc := 17) C I wC_23 g3 dX0_dropEnded_17 ?_
      refine lv_topi (fun y4 ey4 => ?_)
      have h := h y4 ey4
      refine lv_istore_n (pc := 18) (lv' := [(3, .int y4), (0, .ref (a 4)), (1, .int x1), (2, .int x2)]) hx hb dX0_dropEnded_18 rfl hl (by decide) rfl (fun ls hl => ?_)
      refine lv_aload_n (pc := 19) hx hb dX0_dropEnded_19 rfl (lv_at hl 1 rfl) ?_
      refine x_get (pc := 20) C I wC_4 rfl inlX0 (k := 3) q_3_23 (by decide) rfl rfl dX0_dropEnded_20 ?_
      refine lv_iload_n (pc := 23) hx hb dX0_dropEnded_23 rfl (lv_at hl 0 rfl) ?_
      obtain ⟨g5, h⟩ := h
      refine x_ald (pc := 24) C I wC_17 g5 dX0_dropEnded_24 ?_
      refine lv_iconst (pc := 25) (v := 1) hx hb dX0_dropEnded_25 (by decide) ?_
      refine lv_icmp_ne (pc := 26) (tgt := 39) hx hb dX0_dropEnded_26 (by decide) (fun g6 => ?_) (fun g6 => ?_)
      · have h := h.2 g6
        obtain ⟨y7, ey7⟩ : ∃ y : Int32, y = (x2 + 1) := ⟨_, rfl⟩
        have h := h y7 ey7
        refine lv_iinc (pc := 39) (v := y7) (lv' := [(2, .int y7), (3, .int y4), (0, .ref (a 4)), (1, .int x1)]) hx hb dX0_dropEnded_39 hl (k := 3) rfl (by rw [ey7]; rfl) (by decide) rfl (fun ls hl => ?_)
        refine lv_goto (pc := 42) (tgt := 4) hx hb dX0_dropEnded_42 (by decide) ?_
        exact ih4 M0 x1 y7 _ _ _ h I (lv_sub hl [2, 3, 0] rfl)
      · have h := h.1 g6
        refine lv_aload_n (pc := 29) hx hb dX0_dropEnded_29 rfl (lv_at hl 1 rfl) ?_
        refine x_get (pc := 30) C I wC_4 rfl inlX0 (k := 9) q_4_5 (by decide) rfl rfl dX0_dropEnded_30 ?_
        refine lv_iload_n (pc := 33) hx hb dX0_dropEnded_33 rfl (lv_at hl 2 rfl) ?_
        refine lv_iload_n (pc := 34) hx hb dX0_dropEnded_34 rfl (lv_at hl 0 rfl) ?_
        obtain ⟨g8, h⟩ := h
        refine x_ast (pc := 35) C I wC_23 g8 sC_23 dX0_dropEnded_35 (fun H locs I => ?_)
        obtain ⟨M9, eM9⟩ : ∃ z : xM, z = xu M0 23 (x1).toNatClampNeg y4 := ⟨_, rfl⟩
        have h := h M9 eM9
        rw [← eM9] at I
        obtain ⟨y10, ey10⟩ : ∃ y : Int32, y = (x1 + 1) := ⟨_, rfl⟩
        have h := h y10 ey10
        refine lv_iinc (pc := 36) (v := y10) (lv' := [(1, .int y10), (3, .int y4), (0, .ref (a 4)), (2, .int x2)]) hx hb dX0_dropEnded_36 hl (k := 2) rfl (by rw [ey10]; rfl) (by decide) rfl (fun ls hl => ?_)
        obtain ⟨y11, ey11⟩ : ∃ y : Int32, y = (x2 + 1) := ⟨_, rfl⟩
        have h := h y11 ey11
        refine lv_iinc (pc := 39) (v := y11) (lv' := [(2, .int y11), (1, .int y10), (3, .int y4), (0, .ref (a 4))]) hx hb dX0_dropEnded_39 hl (k := 3) rfl (by rw [ey11]; rfl) (by decide) rfl (fun ls hl => ?_)
        refine lv_goto (pc := 42) (tgt := 4) hx hb dX0_dropEnded_42 (by decide) ?_
        exact ih4 M9 y10 y11 _ _ _ h I (lv_sub hl [3, 1, 0] rfl)
set_option maxHeartbeats 4000000 in
set_option maxRecDepth 100000 in
theorem m_X0_dropEnded {l : Launch} {D : va_G} {cI cZ : ClassId} {a : Nat → Nat} {M : xM} {post : xM → Prop} (h : V_X0_dropEnded M post) : xMv l yX0_dropEnded cX0_dropEnded 4 none { frames := 0, cells := 0, slots := 0, locals := 0 } D cI cZ (wC cI cZ a) M [.ref (a 4)] post := by
  refine x_bodyv (own := RX0) (by decide) rfl (Nat.le_of_ble_eq_true rfl) ?_
  intro p e s m below meth c A ls C hr hlocks hA I hl
  have hx := C.1.1
  have hb := C.1.2.1
  have hl : lv_has ls 4 [(0, .ref (a 4))] := hl
  unfold V_X0_dropEnded at h
  refine lv_iconst (pc := 0) (v := 0) hx hb dX0_dropEnded_0 (by decide) ?_
  refine lv_istore_n (pc := 1) (lv' := [(1, .int 0), (0, .ref (a 4))]) hx hb dX0_dropEnded_1 rfl hl (by decide) rfl (fun ls hl => ?_)
  refine lv_iconst (pc := 2) (v := 0) hx hb dX0_dropEnded_2 (by decide) ?_
  refine lv_istore_n (pc := 3) (lv' := [(2, .int 0), (1, .int 0), (0, .ref (a 4))]) hx hb dX0_dropEnded_3 rfl hl (by decide) rfl (fun ls hl => ?_)
  obtain ⟨n12, h⟩ := h
  exact k_X0_dropEnded_L4 C hr hlocks hA n12 M 0 0 _ _ _ h I (lv_sub hl [2, 1, 0] rfl)
def V_X0_remaining (M : xM) (x1 : Int32) (post : Int32 → xM → Prop) : Prop := (vp_in x1 200 ∧ (∀ y2 : Int32, y2 = (M 21 (x1).toNatClampNeg) → ((y2 = 0 → post 1000000 M) ∧ (¬ y2 = 0 → (vp_in x1 200 ∧ (¬ y2 = 0 ∧ post (((1000 - y2) * (M 19 (x1).toNatClampNeg)) / y2) M))))))
set_option maxHeartbeats 4000000 in
set_option maxRecDepth 100000 in
theorem m_X0_remaining {l : Launch} {D : va_G} {cI cZ : ClassId} {a : Nat → Nat} {M : xM} {x1 : Int32} {post : Int32 → xM → Prop} (h : V_X0_remaining M x1 post) : xMi l yX0_remaining cX0_remaining 3 (some .int) { frames := 0, cells := 0, slots := 0, locals := 0 } D cI cZ (wC cI cZ a) M [.ref (a 4), .int x1] post := by
  refine x_bodyi (own := RX0) (by decide) rfl (Nat.le_of_ble_eq_true rfl) ?_
  intro p e s m below meth c A ls C hr hlocks hA I hl
  have hx := C.1.1
  have hb := C.1.2.1
  have hl : lv_has ls 3 [(0, .ref (a 4)), (1, .int x1)] := hl
  unfold V_X0_remaining at h
  refine lv_aload_n (pc := 0) hx hb dX0_remaining_0 rfl (lv_at hl 0 rfl) ?_
  refine x_get (pc := 1) C I wC_4 rfl inlX0 (k := 7) q_4_3 (by decide) rfl rfl dX0_remaining_1 ?_
  refine lv_iload_n (pc := 4) hx hb dX0_remaining_4 rfl (lv_at hl 1 rfl) ?_
  obtain ⟨g1, h⟩ := h
  refine x_ald (pc := 5) C I wC_21 g1 dX0_remaining_5 ?_
  refine lv_topi (fun y2 ey2 => ?_)
  have h := h y2 ey2
  refine lv_istore_n (pc := 6) (lv' := [(2, .int y2), (0, .ref (a 4)), (1, .int x1)]) hx hb dX0_remaining_6 rfl hl (by decide) rfl (fun ls hl => ?_)
  refine lv_iload_n (pc := 7) hx hb dX0_remaining_7 rfl (lv_at hl 0 rfl) ?_
  refine lv_if_ne (pc := 8) (tgt := 14) hx hb dX0_remaining_8 (by decide) (fun g3 => ?_) (fun g3 => ?_)
  · have h := h.2 g3
    refine lv_sipush (pc := 14) (v := 1000) hx hb dX0_remaining_14 (by decide) ?_
    refine lv_iload_n (pc := 17) hx hb dX0_remaining_17 rfl (lv_at hl 0 rfl) ?_
    refine lv_isub (pc := 18) hx hb dX0_remaining_18 ?_
    refine lv_aload_n (pc := 19) hx hb dX0_remaining_19 rfl (lv_at hl 1 rfl) ?_
    refine x_get (pc := 20) C I wC_4 rfl inlX0 (k := 5) q_4_1 (by decide) rfl rfl dX0_remaining_20 ?_
    refine lv_iload_n (pc := 23) hx hb dX0_remaining_23 rfl (lv_at hl 2 rfl) ?_
    obtain ⟨g4, h⟩ := h
    refine x_ald (pc := 24) C I wC_19 g4 dX0_remaining_24 ?_
    refine lv_imul (pc := 25) hx hb dX0_remaining_25 ?_
    refine lv_iload_n (pc := 26) hx hb dX0_remaining_26 rfl (lv_at hl 0 rfl) ?_
    obtain ⟨g5, h⟩ := h
    refine lv_idiv (pc := 27) hx hb dX0_remaining_27 g5 ?_
    exact x_ireti (pc := 28) C I hr hlocks h dX0_remaining_28
  · have h := h.1 g3
    refine x_ldc (pc := 11) C q_14_0 dX0_remaining_11 ?_
    exact x_ireti (pc := 13) C I hr hlocks h dX0_remaining_13
def V_X0_meanOfRunning_21_L4 (post : Int32 → xM → Prop) : Nat → xM → Int32 → Int32 → Prop
  | 0, _, _, _ => False
  | n + 1, M0, x2, x3 => (((M0 4 10) ≤ x3 → (((M0 4 10) ≤ 0 → post 0 M0) ∧ (¬ (M0 4 10) ≤ 0 → (¬ (M0 4 10) = 0 ∧ post (x2 / (M0 4 10)) M0)))) ∧ (¬ (M0 4 10) ≤ x3 → (vp_in x3 32 ∧ (vp_in (M0 23 (x3).toNatClampNeg) 200 ∧ (∀ y6 : Int32, y6 = (x2 + (M0 21 ((M0 23 (x3).toNatClampNeg)).toNatClampNeg)) → (∀ y7 : Int32, y7 = (x3 + 1) → (V_X0_meanOfRunning_21_L4 post n M0 y6 y7)))))))
def V_X0_meanOfRunning_21 (M : xM) (post : Int32 → xM → Prop) : Prop := (∃ n8 : Nat, V_X0_meanOfRunning_21_L4 post n8 M 0 0)
set_option maxHeartbeats 4000000 in
set_option maxRecDepth 100000 in
theorem k_X0_meanOfRunning_21_L4 {l : Launch} {D : va_G} {cI cZ : ClassId} {a : Nat → Nat} {p : Program} {e : Env} {s : State} {m : MethodId} {below : List Frame} {meth : Method} {c : Code} {A : Nat → Prop} {args : Array Value} {post : Int32 → xM → Prop} (C : xC p s m args c cX0_meanOfRunning 4 RX0 D cI cZ) (hr : meth.sig.returnType = (some .int)) (hlocks : meth.locks = false) (hA : ∀ q : Nat, s.heap.size ≤ q → A q) (n : Nat) : ∀ (M0 : xM) (x2 x3 : Int32) (H : Heap) (locs : List Loc) (ls : Array Slot), V_X0_meanOfRunning_21_L4 post n M0 x2 x3 → xI D (wC cI cZ a M0) A s.heap H locs → lv_has ls 4 [(0, .ref (a 4)), (1, .ref (a 21)), (2, .int x2), (3, .int x3)] → W p l e { frames := 0, cells := 0, slots := 0, locals := 0 } s m args below meth c H locs 0 0 (MQ below (va_Qi post (xPost D cI cZ A (wC cI cZ a)) A) args s 0 0 A) (F0 m 4 ls []) := by
  have hx := C.1.1
  have hb := C.1.2.1
  induction n with
  | zero =>
    intro M0 x2 x3 H locs ls h I hl
    exact absurd h id
  | succ n ih4 =>
    intro M0 x2 x3 H locs ls h I hl
    rw [V_X0_meanOfRunning_21_L4] at h
    refine lv_iload_n (pc := 4) hx hb dX0_meanOfRunning_4 rfl (lv_at hl 3 rfl) ?_
    refine lv_aload_n (pc := 5) hx hb dX0_meanOfRunning_5 rfl (lv_at hl 0 rfl) ?_
    refine x_get (pc := 6) C I wC_4 rfl inlX0 (k := 10) q_4_6 (by decide) rfl rfl dX0_meanOfRunning_6 ?_
    refine lv_icmp_ge (pc := 9) (tgt := 29) hx hb dX0_meanOfRunning_9 (by decide) (fun g1 => ?_) (fun g1 => ?_)
    · have h := h.1 g1
      refine lv_aload_n (pc := 29) hx hb dX0_meanOfRunning_29 rfl (lv_at hl 0 rfl) ?_
      refine x_get (pc := 30) C I wC_4 rfl inlX0 (k := 10) q_4_6 (by decide) rfl rfl dX0_meanOfRunning_30 ?_
      refine lv_if_le (pc := 33) (tgt := 45) hx hb dX0_meanOfRunning_33 (by decide) (fun g2 => ?_) (fun g2 => ?_)
      · have h := h.1 g2
        refine lv_iconst (pc := 45) (v := 0) hx hb dX0_meanOfRunning_45 (by decide) ?_
        exact x_ireti (pc := 46) C I hr hlocks h dX0_meanOfRunning_46
      · have h := h.2 g2
        refine lv_iload_n (pc := 36) hx hb dX0_meanOfRunning_36 rfl (lv_at hl 2 rfl) ?_
        refine lv_aload_n (pc := 37) hx hb dX0_meanOfRunning_37 rfl (lv_at hl 0 rfl) ?_
        refine x_get (pc := 38) C I wC_4 rfl inlX0 (k := 10) q_4_6 (by decide) rfl rfl dX0_meanOfRunning_38 ?_
        obtain ⟨g3, h⟩ := h
        refine lv_idiv (pc := 41) hx hb dX0_meanOfRunning_41 g3 ?_
        refine lv_goto (pc := 42) (tgt := 46) hx hb dX0_meanOfRunning_42 (by decide) ?_
        exact x_ireti (pc := 46) C I hr hlocks h dX0_meanOfRunning_46
    · have h := h.2 g1
      refine lv_iload_n (pc := 12) hx hb dX0_meanOfRunning_12 rfl (lv_at hl 2 rfl) ?_
      refine lv_aload_n (pc := 13) hx hb dX0_meanOfRunning_13 rfl (lv_at hl 1 rfl) ?_
      refine lv_aload_n (pc := 14) hx hb dX0_meanOfRunning_14 rfl (lv_at hl 0 rfl) ?_
      refine x_get (pc := 15) C I wC_4 rfl inlX0 (k := 9) q_4_5 (by decide) rfl rfl dX0_meanOfRunning_15 ?_
      refine lv_iload_n (pc := 18) hx hb dX0_meanOfRunning_18 rfl (lv_at hl 3 rfl) ?_
      obtain ⟨g4, h⟩ := h
      refine x_ald (pc := 19) C I wC_23 g4 dX0_meanOfRunning_19 ?_
      obtain ⟨g5, h⟩ := h
      refine x_ald (pc := 20) C I wC_21 g5 dX0_meanOfRunning_20 ?_
      refine lv_iadd (pc := 21) hx hb dX0_meanOfRunning_21 ?_
      refine lv_topi (fun y6 ey6 => ?_)
      have h := h y6 ey6
      refine lv_istore_n (pc := 22) (lv' := [(2, .int y6), (0, .ref (a 4)), (1, .ref (a 21)), (3, .int x3)]) hx hb dX0_meanOfRunning_22 rfl hl (by decide) rfl (fun ls hl => ?_)
      obtain ⟨y7, ey7⟩ : ∃ y : Int32, y = (x3 + 1) := ⟨_, rfl⟩
      have h := h y7 ey7
      refine lv_iinc (pc := 23) (v := y7) (lv' := [(3, .int y7), (2, .int y6), (0, .ref (a 4)), (1, .ref (a 21))]) hx hb dX0_meanOfRunning_23 hl (k := 3) rfl (by rw [ey7]; rfl) (by decide) rfl (fun ls hl => ?_)
      refine lv_goto (pc := 26) (tgt := 4) hx hb dX0_meanOfRunning_26 (by decide) ?_
      exact ih4 M0 y6 y7 _ _ _ h I (lv_sub hl [2, 3, 1, 0] rfl)
set_option maxHeartbeats 4000000 in
set_option maxRecDepth 100000 in
theorem m_X0_meanOfRunning_21 {l : Launch} {D : va_G} {cI cZ : ClassId} {a : Nat → Nat} {M : xM} {post : Int32 → xM → Prop} (h : V_X0_meanOfRunning_21 M post) : xMi l yX0_meanOfRunning cX0_meanOfRunning 4 (some .int) { frames := 0, cells := 0, slots := 0, locals := 0 } D cI cZ (wC cI cZ a) M [.ref (a 4), .ref (a 21)] post := by
  refine x_bodyi (own := RX0) (by decide) rfl (Nat.le_of_ble_eq_true rfl) ?_
  intro p e s m below meth c A ls C hr hlocks hA I hl
  have hx := C.1.1
  have hb := C.1.2.1
  have hl : lv_has ls 4 [(0, .ref (a 4)), (1, .ref (a 21))] := hl
  unfold V_X0_meanOfRunning_21 at h
  refine lv_iconst (pc := 0) (v := 0) hx hb dX0_meanOfRunning_0 (by decide) ?_
  refine lv_istore_n (pc := 1) (lv' := [(2, .int 0), (0, .ref (a 4)), (1, .ref (a 21))]) hx hb dX0_meanOfRunning_1 rfl hl (by decide) rfl (fun ls hl => ?_)
  refine lv_iconst (pc := 2) (v := 0) hx hb dX0_meanOfRunning_2 (by decide) ?_
  refine lv_istore_n (pc := 3) (lv' := [(3, .int 0), (2, .int 0), (0, .ref (a 4)), (1, .ref (a 21))]) hx hb dX0_meanOfRunning_3 rfl hl (by decide) rfl (fun ls hl => ?_)
  obtain ⟨n8, h⟩ := h
  exact k_X0_meanOfRunning_21_L4 C hr hlocks hA n8 M 0 0 _ _ _ h I (lv_sub hl [2, 3, 1, 0] rfl)
def V_X0_meanOfRunning_22_L4 (post : Int32 → xM → Prop) : Nat → xM → Int32 → Int32 → Prop
  | 0, _, _, _ => False
  | n + 1, M0, x2, x3 => (((M0 4 10) ≤ x3 → (((M0 4 10) ≤ 0 → post 0 M0) ∧ (¬ (M0 4 10) ≤ 0 → (¬ (M0 4 10) = 0 ∧ post (x2 / (M0 4 10)) M0)))) ∧ (¬ (M0 4 10) ≤ x3 → (vp_in x3 32 ∧ (vp_in (M0 23 (x3).toNatClampNeg) 200 ∧ (∀ y6 : Int32, y6 = (x2 + (M0 22 ((M0 23 (x3).toNatClampNeg)).toNatClampNeg)) → (∀ y7 : Int32, y7 = (x3 + 1) → (V_X0_meanOfRunning_22_L4 post n M0 y6 y7)))))))
def V_X0_meanOfRunning_22 (M : xM) (post : Int32 → xM → Prop) : Prop := (∃ n8 : Nat, V_X0_meanOfRunning_22_L4 post n8 M 0 0)
set_option maxHeartbeats 4000000 in
set_option maxRecDepth 100000 in
theorem k_X0_meanOfRunning_22_L4 {l : Launch} {D : va_G} {cI cZ : ClassId} {a : Nat → Nat} {p : Program} {e : Env} {s : State} {m : MethodId} {below : List Frame} {meth : Method} {c : Code} {A : Nat → Prop} {args : Array Value} {post : Int32 → xM → Prop} (C : xC p s m args c cX0_meanOfRunning 4 RX0 D cI cZ) (hr : meth.sig.returnType = (some .int)) (hlocks : meth.locks = false) (hA : ∀ q : Nat, s.heap.size ≤ q → A q) (n : Nat) : ∀ (M0 : xM) (x2 x3 : Int32) (H : Heap) (locs : List Loc) (ls : Array Slot), V_X0_meanOfRunning_22_L4 post n M0 x2 x3 → xI D (wC cI cZ a M0) A s.heap H locs → lv_has ls 4 [(0, .ref (a 4)), (1, .ref (a 22)), (2, .int x2), (3, .int x3)] → W p l e { frames := 0, cells := 0, slots := 0, locals := 0 } s m args below meth c H locs 0 0 (MQ below (va_Qi post (xPost D cI cZ A (wC cI cZ a)) A) args s 0 0 A) (F0 m 4 ls []) := by
  have hx := C.1.1
  have hb := C.1.2.1
  induction n with
  | zero =>
    intro M0 x2 x3 H locs ls h I hl
    exact absurd h id
  | succ n ih4 =>
    intro M0 x2 x3 H locs ls h I hl
    rw [V_X0_meanOfRunning_22_L4] at h
    refine lv_iload_n (pc := 4) hx hb dX0_meanOfRunning_4 rfl (lv_at hl 3 rfl) ?_
    refine lv_aload_n (pc := 5) hx hb dX0_meanOfRunning_5 rfl (lv_at hl 0 rfl) ?_
    refine x_get (pc := 6) C I wC_4 rfl inlX0 (k := 10) q_4_6 (by decide) rfl rfl dX0_meanOfRunning_6 ?_
    refine lv_icmp_ge (pc := 9) (tgt := 29) hx hb dX0_meanOfRunning_9 (by decide) (fun g1 => ?_) (fun g1 => ?_)
    · have h := h.1 g1
      refine lv_aload_n (pc := 29) hx hb dX0_meanOfRunning_29 rfl (lv_at hl 0 rfl) ?_
      refine x_get (pc := 30) C I wC_4 rfl inlX0 (k := 10) q_4_6 (by decide) rfl rfl dX0_meanOfRunning_30 ?_
      refine lv_if_le (pc := 33) (tgt := 45) hx hb dX0_meanOfRunning_33 (by decide) (fun g2 => ?_) (fun g2 => ?_)
      · have h := h.1 g2
        refine lv_iconst (pc := 45) (v := 0) hx hb dX0_meanOfRunning_45 (by decide) ?_
        exact x_ireti (pc := 46) C I hr hlocks h dX0_meanOfRunning_46
      · have h := h.2 g2
        refine lv_iload_n (pc := 36) hx hb dX0_meanOfRunning_36 rfl (lv_at hl 2 rfl) ?_
        refine lv_aload_n (pc := 37) hx hb dX0_meanOfRunning_37 rfl (lv_at hl 0 rfl) ?_
        refine x_get (pc := 38) C I wC_4 rfl inlX0 (k := 10) q_4_6 (by decide) rfl rfl dX0_meanOfRunning_38 ?_
        obtain ⟨g3, h⟩ := h
        refine lv_idiv (pc := 41) hx hb dX0_meanOfRunning_41 g3 ?_
        refine lv_goto (pc := 42) (tgt := 46) hx hb dX0_meanOfRunning_42 (by decide) ?_
        exact x_ireti (pc := 46) C I hr hlocks h dX0_meanOfRunning_46
    · have h := h.2 g1
      refine lv_iload_n (pc := 12) hx hb dX0_meanOfRunning_12 rfl (lv_at hl 2 rfl) ?_
      refine lv_aload_n (pc := 13) hx hb dX0_meanOfRunning_13 rfl (lv_at hl 1 rfl) ?_
      refine lv_aload_n (pc := 14) hx hb dX0_meanOfRunning_14 rfl (lv_at hl 0 rfl) ?_
      refine x_get (pc := 15) C I wC_4 rfl inlX0 (k := 9) q_4_5 (by decide) rfl rfl dX0_meanOfRunning_15 ?_
      refine lv_iload_n (pc := 18) hx hb dX0_meanOfRunning_18 rfl (lv_at hl 3 rfl) ?_
      obtain ⟨g4, h⟩ := h
      refine x_ald (pc := 19) C I wC_23 g4 dX0_meanOfRunning_19 ?_
      obtain ⟨g5, h⟩ := h
      refine x_ald (pc := 20) C I wC_22 g5 dX0_meanOfRunning_20 ?_
      refine lv_iadd (pc := 21) hx hb dX0_meanOfRunning_21 ?_
      refine lv_topi (fun y6 ey6 => ?_)
      have h := h y6 ey6
      refine lv_istore_n (pc := 22) (lv' := [(2, .int y6), (0, .ref (a 4)), (1, .ref (a 22)), (3, .int x3)]) hx hb dX0_meanOfRunning_22 rfl hl (by decide) rfl (fun ls hl => ?_)
      obtain ⟨y7, ey7⟩ : ∃ y : Int32, y = (x3 + 1) := ⟨_, rfl⟩
      have h := h y7 ey7
      refine lv_iinc (pc := 23) (v := y7) (lv' := [(3, .int y7), (2, .int y6), (0, .ref (a 4)), (1, .ref (a 22))]) hx hb dX0_meanOfRunning_23 hl (k := 3) rfl (by rw [ey7]; rfl) (by decide) rfl (fun ls hl => ?_)
      refine lv_goto (pc := 26) (tgt := 4) hx hb dX0_meanOfRunning_26 (by decide) ?_
      exact ih4 M0 y6 y7 _ _ _ h I (lv_sub hl [2, 3, 1, 0] rfl)
set_option maxHeartbeats 4000000 in
set_option maxRecDepth 100000 in
theorem m_X0_meanOfRunning_22 {l : Launch} {D : va_G} {cI cZ : ClassId} {a : Nat → Nat} {M : xM} {post : Int32 → xM → Prop} (h : V_X0_meanOfRunning_22 M post) : xMi l yX0_meanOfRunning cX0_meanOfRunning 4 (some .int) { frames := 0, cells := 0, slots := 0, locals := 0 } D cI cZ (wC cI cZ a) M [.ref (a 4), .ref (a 22)] post := by
  refine x_bodyi (own := RX0) (by decide) rfl (Nat.le_of_ble_eq_true rfl) ?_
  intro p e s m below meth c A ls C hr hlocks hA I hl
  have hx := C.1.1
  have hb := C.1.2.1
  have hl : lv_has ls 4 [(0, .ref (a 4)), (1, .ref (a 22))] := hl
  unfold V_X0_meanOfRunning_22 at h
  refine lv_iconst (pc := 0) (v := 0) hx hb dX0_meanOfRunning_0 (by decide) ?_
  refine lv_istore_n (pc := 1) (lv' := [(2, .int 0), (0, .ref (a 4)), (1, .ref (a 22))]) hx hb dX0_meanOfRunning_1 rfl hl (by decide) rfl (fun ls hl => ?_)
  refine lv_iconst (pc := 2) (v := 0) hx hb dX0_meanOfRunning_2 (by decide) ?_
  refine lv_istore_n (pc := 3) (lv' := [(3, .int 0), (2, .int 0), (0, .ref (a 4)), (1, .ref (a 22))]) hx hb dX0_meanOfRunning_3 rfl hl (by decide) rfl (fun ls hl => ?_)
  obtain ⟨n8, h⟩ := h
  exact k_X0_meanOfRunning_22_L4 C hr hlocks hA n8 M 0 0 _ _ _ h I (lv_sub hl [2, 3, 1, 0] rfl)
def V_X0_countSpeculative_L4 (post : Int32 → xM → Prop) : Nat → xM → Int32 → Int32 → Prop
  | 0, _, _, _ => False
  | n + 1, M0, x1, x2 => (((M0 4 10) ≤ x2 → post x1 M0) ∧ (¬ (M0 4 10) ≤ x2 → (vp_in x2 32 ∧ (vp_in (M0 23 (x2).toNatClampNeg) 200 ∧ (((M0 18 ((M0 23 (x2).toNatClampNeg)).toNatClampNeg) = 0 → (∀ y5 : Int32, y5 = (x2 + 1) → (V_X0_countSpeculative_L4 post n M0 x1 y5))) ∧ (¬ (M0 18 ((M0 23 (x2).toNatClampNeg)).toNatClampNeg) = 0 → (∀ y6 : Int32, y6 = (x1 + 1) → (∀ y7 : Int32, y7 = (x2 + 1) → (V_X0_countSpeculative_L4 post n M0 y6 y7)))))))))
def V_X0_countSpeculative (M : xM) (post : Int32 → xM → Prop) : Prop := (∃ n8 : Nat, V_X0_countSpeculative_L4 post n8 M 0 0)
set_option maxHeartbeats 4000000 in
set_option maxRecDepth 100000 in
theorem k_X0_countSpeculative_L4 {l : Launch} {D : va_G} {cI cZ : ClassId} {a : Nat → Nat} {p : Program} {e : Env} {s : State} {m : MethodId} {below : List Frame} {meth : Method} {c : Code} {A : Nat → Prop} {args : Array Value} {post : Int32 → xM → Prop} (C : xC p s m args c cX0_countSpeculative 3 RX0 D cI cZ) (hr : meth.sig.returnType = (some .int)) (hlocks : meth.locks = false) (hA : ∀ q : Nat, s.heap.size ≤ q → A q) (n : Nat) : ∀ (M0 : xM) (x1 x2 : Int32) (H : Heap) (locs : List Loc) (ls : Array Slot), V_X0_countSpeculative_L4 post n M0 x1 x2 → xI D (wC cI cZ a M0) A s.heap H locs → lv_has ls 3 [(0, .ref (a 4)), (1, .int x1), (2, .int x2)] → W p l e { frames := 0, cells := 0, slots := 0, locals := 0 } s m args below meth c H locs 0 0 (MQ below (va_Qi post (xPost D cI cZ A (wC cI cZ a)) A) args s 0 0 A) (F0 m 4 ls []) := by
  have hx := C.1.1
  have hb := C.1.2.1
  induction n with
  | zero =>
    intro M0 x1 x2 H locs ls h I hl
    exact absurd h id
  | succ n ih4 =>
    intro M0 x1 x2 H locs ls h I hl
    rw [V_X0_countSpeculative_L4] at h
    refine lv_iload_n (pc := 4) hx hb dX0_countSpeculative_4 rfl (lv_at hl 2 rfl) ?_
    refine lv_aload_n (pc := 5) hx hb dX0_countSpeculative_5 rfl (lv_at hl 0 rfl) ?_
    refine x_get (pc := 6) C I wC_4 rfl inlX0 (k := 10) q_4_6 (by decide) rfl rfl dX0_countSpeculative_6 ?_
    refine lv_icmp_ge (pc := 9) (tgt := 35) hx hb dX0_countSpeculative_9 (by decide) (fun g1 => ?_) (fun g1 => ?_)
    · have h := h.1 g1
      refine lv_iload_n (pc := 35) hx hb dX0_countSpeculative_35 rfl (lv_at hl 1 rfl) ?_
      exact x_ireti (pc := 36) C I hr hlocks h dX0_countSpeculative_36
    · have h := h.2 g1
      refine lv_aload_n (pc := 12) hx hb dX0_countSpeculative_12 rfl (lv_at hl 0 rfl) ?_
      refine x_get (pc := 13) C I wC_4 rfl inlX0 (k := 4) q_4_0 (by decide) rfl rfl dX0_countSpeculative_13 ?_
      refine lv_aload_n (pc := 16) hx hb dX0_countSpeculative_16 rfl (lv_at hl 0 rfl) ?_
      refine x_get (pc := 17) C I wC_4 rfl inlX0 (k := 9) q_4_5 (by decide) rfl rfl dX0_countSpeculative_17 ?_
      refine lv_iload_n (pc := 20) hx hb dX0_countSpeculative_20 rfl (lv_at hl 2 rfl) ?_
      obtain ⟨g2, h⟩ := h
      refine x_ald (pc := 21) C I wC_23 g2 dX0_countSpeculative_21 ?_
      obtain ⟨g3, h⟩ := h
      refine x_zld (pc := 22) C I wC_18 g3 dX0_countSpeculative_22 ?_
      refine lv_if_eq (pc := 23) (tgt := 29) hx hb dX0_countSpeculative_23 (by decide) (fun g4 => ?_) (fun g4 => ?_)
      · have h := h.1 g4
        obtain ⟨y5, ey5⟩ : ∃ y : Int32, y = (x2 + 1) := ⟨_, rfl⟩
        have h := h y5 ey5
        refine lv_iinc (pc := 29) (v := y5) (lv' := [(2, .int y5), (0, .ref (a 4)), (1, .int x1)]) hx hb dX0_countSpeculative_29 hl (k := 2) rfl (by rw [ey5]; rfl) (by decide) rfl (fun ls hl => ?_)
        refine lv_goto (pc := 32) (tgt := 4) hx hb dX0_countSpeculative_32 (by decide) ?_
        exact ih4 M0 x1 y5 _ _ _ h I (lv_sub hl [1, 2, 0] rfl)
      · have h := h.2 g4
        obtain ⟨y6, ey6⟩ : ∃ y : Int32, y = (x1 + 1) := ⟨_, rfl⟩
        have h := h y6 ey6
        refine lv_iinc (pc := 26) (v := y6) (lv' := [(1, .int y6), (0, .ref (a 4)), (2, .int x2)]) hx hb dX0_countSpeculative_26 hl (k := 1) rfl (by rw [ey6]; rfl) (by decide) rfl (fun ls hl => ?_)
        obtain ⟨y7, ey7⟩ : ∃ y : Int32, y = (x2 + 1) := ⟨_, rfl⟩
        have h := h y7 ey7
        refine lv_iinc (pc := 29) (v := y7) (lv' := [(2, .int y7), (1, .int y6), (0, .ref (a 4))]) hx hb dX0_countSpeculative_29 hl (k := 2) rfl (by rw [ey7]; rfl) (by decide) rfl (fun ls hl => ?_)
        refine lv_goto (pc := 32) (tgt := 4) hx hb dX0_countSpeculative_32 (by decide) ?_
        exact ih4 M0 y6 y7 _ _ _ h I (lv_sub hl [2, 1, 0] rfl)
set_option maxHeartbeats 4000000 in
set_option maxRecDepth 100000 in
theorem m_X0_countSpeculative {l : Launch} {D : va_G} {cI cZ : ClassId} {a : Nat → Nat} {M : xM} {post : Int32 → xM → Prop} (h : V_X0_countSpeculative M post) : xMi l yX0_countSpeculative cX0_countSpeculative 3 (some .int) { frames := 0, cells := 0, slots := 0, locals := 0 } D cI cZ (wC cI cZ a) M [.ref (a 4)] post := by
  refine x_bodyi (own := RX0) (by decide) rfl (Nat.le_of_ble_eq_true rfl) ?_
  intro p e s m below meth c A ls C hr hlocks hA I hl
  have hx := C.1.1
  have hb := C.1.2.1
  have hl : lv_has ls 3 [(0, .ref (a 4))] := hl
  unfold V_X0_countSpeculative at h
  refine lv_iconst (pc := 0) (v := 0) hx hb dX0_countSpeculative_0 (by decide) ?_
  refine lv_istore_n (pc := 1) (lv' := [(1, .int 0), (0, .ref (a 4))]) hx hb dX0_countSpeculative_1 rfl hl (by decide) rfl (fun ls hl => ?_)
  refine lv_iconst (pc := 2) (v := 0) hx hb dX0_countSpeculative_2 (by decide) ?_
  refine lv_istore_n (pc := 3) (lv' := [(2, .int 0), (1, .int 0), (0, .ref (a 4))]) hx hb dX0_countSpeculative_3 rfl hl (by decide) rfl (fun ls hl => ?_)
  obtain ⟨n8, h⟩ := h
  exact k_X0_countSpeculative_L4 C hr hlocks hA n8 M 0 0 _ _ _ h I (lv_sub hl [2, 1, 0] rfl)
def V_X0_wasted_L4 (post : Int32 → xM → Prop) : Nat → xM → Int32 → Int32 → Prop
  | 0, _, _, _ => False
  | n + 1, M0, x1, x2 => (((M0 4 0) ≤ x2 → post x1 M0) ∧ (¬ (M0 4 0) ≤ x2 → (vp_in x2 200 ∧ (((M0 17 (x2).toNatClampNeg) = 3 → (vp_in x2 200 ∧ (∀ y5 : Int32, y5 = (x1 + (M0 20 (x2).toNatClampNeg)) → (∀ y6 : Int32, y6 = (x2 + 1) → (V_X0_wasted_L4 post n M0 y5 y6))))) ∧ (¬ (M0 17 (x2).toNatClampNeg) = 3 → (vp_in x2 200 ∧ (((M0 17 (x2).toNatClampNeg) = 4 → (vp_in x2 200 ∧ (∀ y11 : Int32, y11 = (x1 + (M0 20 (x2).toNatClampNeg)) → (∀ y12 : Int32, y12 = (x2 + 1) → (V_X0_wasted_L4 post n M0 y11 y12))))) ∧ (¬ (M0 17 (x2).toNatClampNeg) = 4 → (∀ y9 : Int32, y9 = (x2 + 1) → (V_X0_wasted_L4 post n M0 x1 y9))))))))))
def V_X0_wasted (M : xM) (post : Int32 → xM → Prop) : Prop := (∃ n13 : Nat, V_X0_wasted_L4 post n13 M 0 0)
set_option maxHeartbeats 4000000 in
set_option maxRecDepth 100000 in
theorem k_X0_wasted_L4 {l : Launch} {D : va_G} {cI cZ : ClassId} {a : Nat → Nat} {p : Program} {e : Env} {s : State} {m : MethodId} {below : List Frame} {meth : Method} {c : Code} {A : Nat → Prop} {args : Array Value} {post : Int32 → xM → Prop} (C : xC p s m args c cX0_wasted 3 RX0 D cI cZ) (hr : meth.sig.returnType = (some .int)) (hlocks : meth.locks = false) (hA : ∀ q : Nat, s.heap.size ≤ q → A q) (n : Nat) : ∀ (M0 : xM) (x1 x2 : Int32) (H : Heap) (locs : List Loc) (ls : Array Slot), V_X0_wasted_L4 post n M0 x1 x2 → xI D (wC cI cZ a M0) A s.heap H locs → lv_has ls 3 [(0, .ref (a 4)), (1, .int x1), (2, .int x2)] → W p l e { frames := 0, cells := 0, slots := 0, locals := 0 } s m args below meth c H locs 0 0 (MQ below (va_Qi post (xPost D cI cZ A (wC cI cZ a)) A) args s 0 0 A) (F0 m 4 ls []) := by
  have hx := C.1.1
  have hb := C.1.2.1
  induction n with
  | zero =>
    intro M0 x1 x2 H locs ls h I hl
    exact absurd h id
  | succ n ih4 =>
    intro M0 x1 x2 H locs ls h I hl
    rw [V_X0_wasted_L4] at h
    refine lv_iload_n (pc := 4) hx hb dX0_wasted_4 rfl (lv_at hl 2 rfl) ?_
    refine lv_aload_n (pc := 5) hx hb dX0_wasted_5 rfl (lv_at hl 0 rfl) ?_
    refine x_get (pc := 6) C I wC_4 rfl inlX0 (k := 0) q_3_20 (by decide) rfl rfl dX0_wasted_6 ?_
    refine lv_icmp_ge (pc := 9) (tgt := 47) hx hb dX0_wasted_9 (by decide) (fun g1 => ?_) (fun g1 => ?_)
    · have h := h.1 g1
      refine lv_iload_n (pc := 47) hx hb dX0_wasted_47 rfl (lv_at hl 1 rfl) ?_
      exact x_ireti (pc := 48) C I hr hlocks h dX0_wasted_48
    · have h := h.2 g1
      refine lv_aload_n (pc := 12) hx hb dX0_wasted_12 rfl (lv_at hl 0 rfl) ?_
      refine x_get (pc := 13) C I wC_4 rfl inlX0 (k := 3) q_3_23 (by decide) rfl rfl dX0_wasted_13 ?_
      refine lv_iload_n (pc := 16) hx hb dX0_wasted_16 rfl (lv_at hl 2 rfl) ?_
      obtain ⟨g2, h⟩ := h
      refine x_ald (pc := 17) C I wC_17 g2 dX0_wasted_17 ?_
      refine lv_iconst (pc := 18) (v := 3) hx hb dX0_wasted_18 (by decide) ?_
      refine lv_icmp_eq (pc := 19) (tgt := 32) hx hb dX0_wasted_19 (by decide) (fun g3 => ?_) (fun g3 => ?_)
      · have h := h.1 g3
        refine lv_iload_n (pc := 32) hx hb dX0_wasted_32 rfl (lv_at hl 1 rfl) ?_
        refine lv_aload_n (pc := 33) hx hb dX0_wasted_33 rfl (lv_at hl 0 rfl) ?_
        refine x_get (pc := 34) C I wC_4 rfl inlX0 (k := 6) q_4_2 (by decide) rfl rfl dX0_wasted_34 ?_
        refine lv_iload_n (pc := 37) hx hb dX0_wasted_37 rfl (lv_at hl 2 rfl) ?_
        obtain ⟨g4, h⟩ := h
        refine x_ald (pc := 38) C I wC_20 g4 dX0_wasted_38 ?_
        refine lv_iadd (pc := 39) hx hb dX0_wasted_39 ?_
        refine lv_topi (fun y5 ey5 => ?_)
        have h := h y5 ey5
        refine lv_istore_n (pc := 40) (lv' := [(1, .int y5), (0, .ref (a 4)), (2, .int x2)]) hx hb dX0_wasted_40 rfl hl (by decide) rfl (fun ls hl => ?_)
        obtain ⟨y6, ey6⟩ : ∃ y : Int32, y = (x2 + 1) := ⟨_, rfl⟩
        have h := h y6 ey6
        refine lv_iinc (pc := 41) (v := y6) (lv' := [(2, .int y6), (1, .int y5), (0, .ref (a 4))]) hx hb dX0_wasted_41 hl (k := 2) rfl (by rw [ey6]; rfl) (by decide) rfl (fun ls hl => ?_)
        refine lv_goto (pc := 44) (tgt := 4) hx hb dX0_wasted_44 (by decide) ?_
        exact ih4 M0 y5 y6 _ _ _ h I (lv_sub hl [2, 1, 0] rfl)
      · have h := h.2 g3
        refine lv_aload_n (pc := 22) hx hb dX0_wasted_22 rfl (lv_at hl 0 rfl) ?_
        refine x_get (pc := 23) C I wC_4 rfl inlX0 (k := 3) q_3_23 (by decide) rfl rfl dX0_wasted_23 ?_
        refine lv_iload_n (pc := 26) hx hb dX0_wasted_26 rfl (lv_at hl 2 rfl) ?_
        obtain ⟨g7, h⟩ := h
        refine x_ald (pc := 27) C I wC_17 g7 dX0_wasted_27 ?_
        refine lv_iconst (pc := 28) (v := 4) hx hb dX0_wasted_28 (by decide) ?_
        refine lv_icmp_ne (pc := 29) (tgt := 41) hx hb dX0_wasted_29 (by decide) (fun g8 => ?_) (fun g8 => ?_)
        · have h := h.2 g8
          obtain ⟨y9, ey9⟩ : ∃ y : Int32, y = (x2 + 1) := ⟨_, rfl⟩
          have h := h y9 ey9
          refine lv_iinc (pc := 41) (v := y9) (lv' := [(2, .int y9), (0, .ref (a 4)), (1, .int x1)]) hx hb dX0_wasted_41 hl (k := 2) rfl (by rw [ey9]; rfl) (by decide) rfl (fun ls hl => ?_)
          refine lv_goto (pc := 44) (tgt := 4) hx hb dX0_wasted_44 (by decide) ?_
          exact ih4 M0 x1 y9 _ _ _ h I (lv_sub hl [1, 2, 0] rfl)
        · have h := h.1 g8
          refine lv_iload_n (pc := 32) hx hb dX0_wasted_32 rfl (lv_at hl 1 rfl) ?_
          refine lv_aload_n (pc := 33) hx hb dX0_wasted_33 rfl (lv_at hl 0 rfl) ?_
          refine x_get (pc := 34) C I wC_4 rfl inlX0 (k := 6) q_4_2 (by decide) rfl rfl dX0_wasted_34 ?_
          refine lv_iload_n (pc := 37) hx hb dX0_wasted_37 rfl (lv_at hl 2 rfl) ?_
          obtain ⟨g10, h⟩ := h
          refine x_ald (pc := 38) C I wC_20 g10 dX0_wasted_38 ?_
          refine lv_iadd (pc := 39) hx hb dX0_wasted_39 ?_
          refine lv_topi (fun y11 ey11 => ?_)
          have h := h y11 ey11
          refine lv_istore_n (pc := 40) (lv' := [(1, .int y11), (0, .ref (a 4)), (2, .int x2)]) hx hb dX0_wasted_40 rfl hl (by decide) rfl (fun ls hl => ?_)
          obtain ⟨y12, ey12⟩ : ∃ y : Int32, y = (x2 + 1) := ⟨_, rfl⟩
          have h := h y12 ey12
          refine lv_iinc (pc := 41) (v := y12) (lv' := [(2, .int y12), (1, .int y11), (0, .ref (a 4))]) hx hb dX0_wasted_41 hl (k := 2) rfl (by rw [ey12]; rfl) (by decide) rfl (fun ls hl => ?_)
          refine lv_goto (pc := 44) (tgt := 4) hx hb dX0_wasted_44 (by decide) ?_
          exact ih4 M0 y11 y12 _ _ _ h I (lv_sub hl [2, 1, 0] rfl)
set_option maxHeartbeats 4000000 in
set_option maxRecDepth 100000 in
theorem m_X0_wasted {l : Launch} {D : va_G} {cI cZ : ClassId} {a : Nat → Nat} {M : xM} {post : Int32 → xM → Prop} (h : V_X0_wasted M post) : xMi l yX0_wasted cX0_wasted 3 (some .int) { frames := 0, cells := 0, slots := 0, locals := 0 } D cI cZ (wC cI cZ a) M [.ref (a 4)] post := by
  refine x_bodyi (own := RX0) (by decide) rfl (Nat.le_of_ble_eq_true rfl) ?_
  intro p e s m below meth c A ls C hr hlocks hA I hl
  have hx := C.1.1
  have hb := C.1.2.1
  have hl : lv_has ls 3 [(0, .ref (a 4))] := hl
  unfold V_X0_wasted at h
  refine lv_iconst (pc := 0) (v := 0) hx hb dX0_wasted_0 (by decide) ?_
  refine lv_istore_n (pc := 1) (lv' := [(1, .int 0), (0, .ref (a 4))]) hx hb dX0_wasted_1 rfl hl (by decide) rfl (fun ls hl => ?_)
  refine lv_iconst (pc := 2) (v := 0) hx hb dX0_wasted_2 (by decide) ?_
  refine lv_istore_n (pc := 3) (lv' := [(2, .int 0), (1, .int 0), (0, .ref (a 4))]) hx hb dX0_wasted_3 rfl hl (by decide) rfl (fun ls hl => ?_)
  obtain ⟨n13, h⟩ := h
  exact k_X0_wasted_L4 C hr hlocks hA n13 M 0 0 _ _ _ h I (lv_sub hl [2, 1, 0] rfl)
