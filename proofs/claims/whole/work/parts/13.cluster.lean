def V_X1_end (M : xM) (x1 x2 : Int32) (post : xM → Prop) : Prop := (vp_in x1 200 ∧ ∀ M2 : xM, M2 = xu M 17 (x1).toNatClampNeg x2 → (vp_in x1 200 ∧ (vp_in (M2 15 (x1).toNatClampNeg) 24 ∧ (vp_in (M2 15 (x1).toNatClampNeg) 24 ∧ ∀ M6 : xM, M6 = xu M2 12 ((M2 15 (x1).toNatClampNeg)).toNatClampNeg ((M2 12 ((M2 15 (x1).toNatClampNeg)).toNatClampNeg) - 1) → (vp_in x1 200 ∧ (vp_in (M6 16 (x1).toNatClampNeg) 8 ∧ (vp_in (M6 16 (x1).toNatClampNeg) 8 ∧ ∀ M10 : xM, M10 = xu M6 8 ((M6 16 (x1).toNatClampNeg)).toNatClampNeg ((M6 8 ((M6 16 (x1).toNatClampNeg)).toNatClampNeg) - 1) → post M10)))))))
set_option maxHeartbeats 4000000 in
set_option maxRecDepth 100000 in
theorem m_X1_end {l : Launch} {D : va_G} {cI cZ : ClassId} {a : Nat → Nat} {M : xM} {x1 x2 : Int32} {post : xM → Prop} (h : V_X1_end M x1 x2 post) : xMv l yX1_end cX1_end 3 none { frames := 0, cells := 0, slots := 0, locals := 0 } D cI cZ (wC cI cZ a) M [.ref (a 0), .int x1, .int x2] post := by
  refine x_bodyv (own := RX1) (by decide) rfl (Nat.le_of_ble_eq_true rfl) ?_
  intro p e s m below meth c A ls C hr hlocks hA I hl
  have hx := C.1.1
  have hb := C.1.2.1
  have hl : lv_has ls 3 [(0, .ref (a 0)), (1, .int x1), (2, .int x2)] := hl
  unfold V_X1_end at h
  refine lv_aload_n (pc := 0) hx hb dX1_end_0 rfl (lv_at hl 0 rfl) ?_
  refine x_get (pc := 1) C I wC_0 rfl inlX1 (k := 3) q_2_11 (by decide) rfl rfl dX1_end_1 ?_
  refine x_get (pc := 4) C I wC_4 rfl inlX0 (k := 3) q_7_15 (by decide) rfl rfl dX1_end_4 ?_
  refine lv_iload_n (pc := 7) hx hb dX1_end_7 rfl (lv_at hl 1 rfl) ?_
  refine lv_iload_n (pc := 8) hx hb dX1_end_8 rfl (lv_at hl 2 rfl) ?_
  obtain ⟨g1, h⟩ := h
  refine x_ast (pc := 9) C I wC_17 g1 sC_17 dX1_end_9 (fun H locs I => ?_)
  obtain ⟨M2, eM2⟩ : ∃ z : xM, z = xu M 17 (x1).toNatClampNeg x2 := ⟨_, rfl⟩
  have h := h M2 eM2
  rw [← eM2] at I
  refine lv_aload_n (pc := 10) hx hb dX1_end_10 rfl (lv_at hl 0 rfl) ?_
  refine x_get (pc := 11) C I wC_0 rfl inlX1 (k := 2) q_2_7 (by decide) rfl rfl dX1_end_11 ?_
  refine x_get (pc := 14) C I wC_3 rfl inlX4 (k := 2) q_7_16 (by decide) rfl rfl dX1_end_14 ?_
  refine lv_aload_n (pc := 17) hx hb dX1_end_17 rfl (lv_at hl 0 rfl) ?_
  refine x_get (pc := 18) C I wC_0 rfl inlX1 (k := 3) q_2_11 (by decide) rfl rfl dX1_end_18 ?_
  refine x_get (pc := 21) C I wC_4 rfl inlX0 (k := 1) q_7_17 (by decide) rfl rfl dX1_end_21 ?_
  refine lv_iload_n (pc := 24) hx hb dX1_end_24 rfl (lv_at hl 1 rfl) ?_
  obtain ⟨g3, h⟩ := h
  refine x_ald (pc := 25) C I wC_15 g3 dX1_end_25 ?_
  refine lv_dup2_11 (pc := 26) hx hb dX1_end_26 rfl rfl ?_
  obtain ⟨g4, h⟩ := h
  refine x_ald (pc := 27) C I wC_12 g4 dX1_end_27 ?_
  refine lv_iconst (pc := 28) (v := 1) hx hb dX1_end_28 (by decide) ?_
  refine lv_isub (pc := 29) hx hb dX1_end_29 ?_
  obtain ⟨g5, h⟩ := h
  refine x_ast (pc := 30) C I wC_12 g5 sC_12 dX1_end_30 (fun H locs I => ?_)
  obtain ⟨M6, eM6⟩ : ∃ z : xM, z = xu M2 12 ((M2 15 (x1).toNatClampNeg)).toNatClampNeg ((M2 12 ((M2 15 (x1).toNatClampNeg)).toNatClampNeg) - 1) := ⟨_, rfl⟩
  have h := h M6 eM6
  rw [← eM6] at I
  refine lv_aload_n (pc := 31) hx hb dX1_end_31 rfl (lv_at hl 0 rfl) ?_
  refine x_get (pc := 32) C I wC_0 rfl inlX1 (k := 1) q_2_3 (by decide) rfl rfl dX1_end_32 ?_
  refine x_get (pc := 35) C I wC_2 rfl inlX2 (k := 4) q_7_18 (by decide) rfl rfl dX1_end_35 ?_
  refine lv_aload_n (pc := 38) hx hb dX1_end_38 rfl (lv_at hl 0 rfl) ?_
  refine x_get (pc := 39) C I wC_0 rfl inlX1 (k := 3) q_2_11 (by decide) rfl rfl dX1_end_39 ?_
  refine x_get (pc := 42) C I wC_4 rfl inlX0 (k := 2) q_7_10 (by decide) rfl rfl dX1_end_42 ?_
  refine lv_iload_n (pc := 45) hx hb dX1_end_45 rfl (lv_at hl 1 rfl) ?_
  obtain ⟨g7, h⟩ := h
  refine x_ald (pc := 46) C I wC_16 g7 dX1_end_46 ?_
  refine lv_dup2_11 (pc := 47) hx hb dX1_end_47 rfl rfl ?_
  obtain ⟨g8, h⟩ := h
  refine x_ald (pc := 48) C I wC_8 g8 dX1_end_48 ?_
  refine lv_iconst (pc := 49) (v := 1) hx hb dX1_end_49 (by decide) ?_
  refine lv_isub (pc := 50) hx hb dX1_end_50 ?_
  obtain ⟨g9, h⟩ := h
  refine x_ast (pc := 51) C I wC_8 g9 sC_8 dX1_end_51 (fun H locs I => ?_)
  obtain ⟨M10, eM10⟩ : ∃ z : xM, z = xu M6 8 ((M6 16 (x1).toNatClampNeg)).toNatClampNeg ((M6 8 ((M6 16 (x1).toNatClampNeg)).toNatClampNeg) - 1) := ⟨_, rfl⟩
  have h := h M10 eM10
  rw [← eM10] at I
  exact x_retv (pc := 52) C I hr hlocks h dX1_end_52
def V_X1_isCandidate (M : xM) (x1 : Int32) (post : Int32 → xM → Prop) : Prop := (vp_in x1 200 ∧ (vp_in (M 15 (x1).toNatClampNeg) 24 ∧ (((M 12 ((M 15 (x1).toNatClampNeg)).toNatClampNeg) = 1 → (vp_in x1 200 ∧ (((M 19 (x1).toNatClampNeg) < (M 1 2) → post 0 M) ∧ (¬ (M 19 (x1).toNatClampNeg) < (M 1 2) → post 1 M)))) ∧ (¬ (M 12 ((M 15 (x1).toNatClampNeg)).toNatClampNeg) = 1 → post 0 M))))
set_option maxHeartbeats 4000000 in
set_option maxRecDepth 100000 in
theorem m_X1_isCandidate {l : Launch} {D : va_G} {cI cZ : ClassId} {a : Nat → Nat} {M : xM} {x1 : Int32} {post : Int32 → xM → Prop} (h : V_X1_isCandidate M x1 post) : xMi l yX1_isCandidate cX1_isCandidate 2 (some .boolean) { frames := 0, cells := 0, slots := 0, locals := 0 } D cI cZ (wC cI cZ a) M [.ref (a 0), .int x1] post := by
  refine x_bodyi (own := RX1) (by decide) rfl (Nat.le_of_ble_eq_true rfl) ?_
  intro p e s m below meth c A ls C hr hlocks hA I hl
  have hx := C.1.1
  have hb := C.1.2.1
  have hl : lv_has ls 2 [(0, .ref (a 0)), (1, .int x1)] := hl
  unfold V_X1_isCandidate at h
  refine lv_aload_n (pc := 0) hx hb dX1_isCandidate_0 rfl (lv_at hl 0 rfl) ?_
  refine x_get (pc := 1) C I wC_0 rfl inlX1 (k := 2) q_2_7 (by decide) rfl rfl dX1_isCandidate_1 ?_
  refine x_get (pc := 4) C I wC_3 rfl inlX4 (k := 2) q_7_16 (by decide) rfl rfl dX1_isCandidate_4 ?_
  refine lv_aload_n (pc := 7) hx hb dX1_isCandidate_7 rfl (lv_at hl 0 rfl) ?_
  refine x_get (pc := 8) C I wC_0 rfl inlX1 (k := 3) q_2_11 (by decide) rfl rfl dX1_isCandidate_8 ?_
  refine x_get (pc := 11) C I wC_4 rfl inlX0 (k := 1) q_7_17 (by decide) rfl rfl dX1_isCandidate_11 ?_
  refine lv_iload_n (pc := 14) hx hb dX1_isCandidate_14 rfl (lv_at hl 1 rfl) ?_
  obtain ⟨g1, h⟩ := h
  refine x_ald (pc := 15) C I wC_15 g1 dX1_isCandidate_15 ?_
  obtain ⟨g2, h⟩ := h
  refine x_ald (pc := 16) C I wC_12 g2 dX1_isCandidate_16 ?_
  refine lv_iconst (pc := 17) (v := 1) hx hb dX1_isCandidate_17 (by decide) ?_
  refine lv_icmp_ne (pc := 18) (tgt := 44) hx hb dX1_isCandidate_18 (by decide) (fun g3 => ?_) (fun g3 => ?_)
  · have h := h.2 g3
    refine lv_iconst (pc := 44) (v := 0) hx hb dX1_isCandidate_44 (by decide) ?_
    exact x_iretz (pc := 45) C I hr hlocks (by decide) h dX1_isCandidate_45
  · have h := h.1 g3
    refine lv_aload_n (pc := 21) hx hb dX1_isCandidate_21 rfl (lv_at hl 0 rfl) ?_
    refine x_get (pc := 22) C I wC_0 rfl inlX1 (k := 3) q_2_11 (by decide) rfl rfl dX1_isCandidate_22 ?_
    refine x_get (pc := 25) C I wC_4 rfl inlX0 (k := 5) q_13_8 (by decide) rfl rfl dX1_isCandidate_25 ?_
    refine lv_iload_n (pc := 28) hx hb dX1_isCandidate_28 rfl (lv_at hl 1 rfl) ?_
    obtain ⟨g4, h⟩ := h
    refine x_ald (pc := 29) C I wC_19 g4 dX1_isCandidate_29 ?_
    refine lv_aload_n (pc := 30) hx hb dX1_isCandidate_30 rfl (lv_at hl 0 rfl) ?_
    refine x_get (pc := 31) C I wC_0 rfl inlX1 (k := 0) q_1_23 (by decide) rfl rfl dX1_isCandidate_31 ?_
    refine x_get (pc := 34) C I wC_1 rfl inlX3 (k := 2) q_13_9 (by decide) rfl rfl dX1_isCandidate_34 ?_
    refine lv_icmp_lt (pc := 37) (tgt := 44) hx hb dX1_isCandidate_37 (by decide) (fun g5 => ?_) (fun g5 => ?_)
    · have h := h.1 g5
      refine lv_iconst (pc := 44) (v := 0) hx hb dX1_isCandidate_44 (by decide) ?_
      exact x_iretz (pc := 45) C I hr hlocks (by decide) h dX1_isCandidate_45
    · have h := h.2 g5
      refine lv_iconst (pc := 40) (v := 1) hx hb dX1_isCandidate_40 (by decide) ?_
      refine lv_goto (pc := 41) (tgt := 45) hx hb dX1_isCandidate_41 (by decide) ?_
      exact x_iretz (pc := 45) C I hr hlocks (by decide) h dX1_isCandidate_45
def V_X1_leastAdvanced_L5 (post : Int32 → xM → Prop) : Nat → xM → Int32 → Int32 → Prop
  | 0, _, _, _ => False
  | n + 1, M0, x1, x2 => (((M0 4 10) ≤ x2 → ((x1 = (-6) → post (-6) M0) ∧ (¬ x1 = (-6) → (V_X0_meanOfRunning_21 M0  (fun r4 M3 => (vp_in x1 200 ∧ ((r4 ≤ ((M3 21 (x1).toNatClampNeg) + 200) → post (-6) M3) ∧ (¬ r4 ≤ ((M3 21 (x1).toNatClampNeg) + 200) → post x1 M3)))))))) ∧ (¬ (M0 4 10) ≤ x2 → (vp_in x2 32 ∧ (∀ y8 : Int32, y8 = (M0 23 (x2).toNatClampNeg) → (V_X1_isCandidate M0 y8 (fun r10 M9 => ((r10 = 0 → (∀ y12 : Int32, y12 = (x2 + 1) → (V_X1_leastAdvanced_L5 post n M9 x1 y12))) ∧ (¬ r10 = 0 → ((x1 = (-6) → (∀ y14 : Int32, y14 = (x2 + 1) → (V_X1_leastAdvanced_L5 post n M9 y8 y14))) ∧ (¬ x1 = (-6) → (vp_in y8 200 ∧ (vp_in x1 200 ∧ (((M9 21 (x1).toNatClampNeg) ≤ (M9 21 (y8).toNatClampNeg) → (∀ y18 : Int32, y18 = (x2 + 1) → (V_X1_leastAdvanced_L5 post n M9 x1 y18))) ∧ (¬ (M9 21 (x1).toNatClampNeg) ≤ (M9 21 (y8).toNatClampNeg) → (∀ y19 : Int32, y19 = (x2 + 1) → (V_X1_leastAdvanced_L5 post n M9 y8 y19))))))))))))))))
def V_X1_leastAdvanced (M : xM) (post : Int32 → xM → Prop) : Prop := (∃ n20 : Nat, V_X1_leastAdvanced_L5 post n20 M (-6) 0)
set_option maxHeartbeats 4000000 in
set_option maxRecDepth 100000 in
theorem k_X1_leastAdvanced_L5 {l : Launch} {D : va_G} {cI cZ : ClassId} {a : Nat → Nat} {p : Program} {e : Env} {s : State} {m : MethodId} {below : List Frame} {meth : Method} {c : Code} {A : Nat → Prop} {args : Array Value} {post : Int32 → xM → Prop} (C : xC p s m args c cX1_leastAdvanced 4 RX1 D cI cZ) (hr : meth.sig.returnType = (some .int)) (hlocks : meth.locks = false) (hA : ∀ q : Nat, s.heap.size ≤ q → A q) (n : Nat) : ∀ (M0 : xM) (x1 x2 : Int32) (H : Heap) (locs : List Loc) (ls : Array Slot), V_X1_leastAdvanced_L5 post n M0 x1 x2 → xI D (wC cI cZ a M0) A s.heap H locs → lv_has ls 4 [(0, .ref (a 0)), (1, .int x1), (2, .int x2)] → W p l e { frames := 1, cells := 0, slots := 0, locals := 23 } s m args below meth c H locs 0 0 (MQ below (va_Qi post (xPost D cI cZ A (wC cI cZ a)) A) args s 0 0 A) (F0 m 5 ls []) := by
  have hx := C.1.1
  have hb := C.1.2.1
  induction n with
  | zero =>
    intro M0 x1 x2 H locs ls h I hl
    exact absurd h id
  | succ n ih5 =>
    intro M0 x1 x2 H locs ls h I hl
    rw [V_X1_leastAdvanced_L5] at h
    refine lv_iload_n (pc := 5) hx hb dX1_leastAdvanced_5 rfl (lv_at hl 2 rfl) ?_
    refine lv_aload_n (pc := 6) hx hb dX1_leastAdvanced_6 rfl (lv_at hl 0 rfl) ?_
    refine x_get (pc := 7) C I wC_0 rfl inlX1 (k := 3) q_2_11 (by decide) rfl rfl dX1_leastAdvanced_7 ?_
    refine x_get (pc := 10) C I wC_4 rfl inlX0 (k := 10) q_7_8 (by decide) rfl rfl dX1_leastAdvanced_10 ?_
    refine lv_icmp_ge (pc := 13) (tgt := 69) hx hb dX1_leastAdvanced_13 (by decide) (fun g1 => ?_) (fun g1 => ?_)
    · have h := h.1 g1
      refine lv_iload_n (pc := 69) hx hb dX1_leastAdvanced_69 rfl (lv_at hl 1 rfl) ?_
      refine lv_bipush (pc := 70) (v := (-6)) hx hb dX1_leastAdvanced_70 (by decide) ?_
      refine lv_icmp_ne (pc := 72) (tgt := 78) hx hb dX1_leastAdvanced_72 (by decide) (fun g2 => ?_) (fun g2 => ?_)
      · have h := h.2 g2
        refine lv_aload_n (pc := 78) hx hb dX1_leastAdvanced_78 rfl (lv_at hl 0 rfl) ?_
        refine x_get (pc := 79) C I wC_0 rfl inlX1 (k := 3) q_2_11 (by decide) rfl rfl dX1_leastAdvanced_79 ?_
        refine lv_aload_n (pc := 82) hx hb dX1_leastAdvanced_82 rfl (lv_at hl 0 rfl) ?_
        refine x_get (pc := 83) C I wC_0 rfl inlX1 (k := 3) q_2_11 (by decide) rfl rfl dX1_leastAdvanced_83 ?_
        refine x_get (pc := 86) C I wC_4 rfl inlX0 (k := 7) q_13_3 (by decide) rfl rfl dX1_leastAdvanced_86 ?_
        refine x_calli (pc := 89) C I hA (m_X0_meanOfRunning_21 h) c_RX1_186 wC_4 rfl ⟨Nat.le_of_ble_eq_true rfl, Nat.le_of_ble_eq_true rfl⟩ ⟨rfl, rfl⟩ ⟨Nat.le_of_ble_eq_true rfl, Nat.le_of_ble_eq_true rfl⟩ (As := [.ref (a 21)]) rfl hl.1 rfl (Nat.le_of_ble_eq_true rfl) dX1_leastAdvanced_89 (fun r4 M3 H locs h I => ?_)
        refine lv_istore_n (pc := 92) (lv' := [(2, .int r4), (0, .ref (a 0)), (1, .int x1)]) hx hb dX1_leastAdvanced_92 rfl hl (by decide) rfl (fun ls hl => ?_)
        refine lv_aload_n (pc := 93) hx hb dX1_leastAdvanced_93 rfl (lv_at hl 1 rfl) ?_
        refine x_get (pc := 94) C I wC_0 rfl inlX1 (k := 3) q_2_11 (by decide) rfl rfl dX1_leastAdvanced_94 ?_
        refine x_get (pc := 97) C I wC_4 rfl inlX0 (k := 7) q_13_3 (by decide) rfl rfl dX1_leastAdvanced_97 ?_
        refine lv_iload_n (pc := 100) hx hb dX1_leastAdvanced_100 rfl (lv_at hl 2 rfl) ?_
        obtain ⟨g5, h⟩ := h
        refine x_ald (pc := 101) C I wC_21 g5 dX1_leastAdvanced_101 ?_
        refine lv_sipush (pc := 102) (v := 200) hx hb dX1_leastAdvanced_102 (by decide) ?_
        refine lv_iadd (pc := 105) hx hb dX1_leastAdvanced_105 ?_
        refine lv_iload_n (pc := 106) hx hb dX1_leastAdvanced_106 rfl (lv_at hl 0 rfl) ?_
        refine lv_icmp_ge (pc := 107) (tgt := 114) hx hb dX1_leastAdvanced_107 (by decide) (fun g6 => ?_) (fun g6 => ?_)
        · have h := h.1 g6
          refine lv_bipush (pc := 114) (v := (-6)) hx hb dX1_leastAdvanced_114 (by decide) ?_
          exact x_ireti (pc := 116) C I hr hlocks h dX1_leastAdvanced_116
        · have h := h.2 g6
          refine lv_iload_n (pc := 110) hx hb dX1_leastAdvanced_110 rfl (lv_at hl 2 rfl) ?_
          refine lv_goto (pc := 111) (tgt := 116) hx hb dX1_leastAdvanced_111 (by decide) ?_
          exact x_ireti (pc := 116) C I hr hlocks h dX1_leastAdvanced_116
      · have h := h.1 g2
        refine lv_bipush (pc := 75) (v := (-6)) hx hb dX1_leastAdvanced_75 (by decide) ?_
        exact x_ireti (pc := 77) C I hr hlocks h dX1_leastAdvanced_77
    · have h := h.2 g1
      refine lv_aload_n (pc := 16) hx hb dX1_leastAdvanced_16 rfl (lv_at hl 0 rfl) ?_
      refine x_get (pc := 17) C I wC_0 rfl inlX1 (k := 3) q_2_11 (by decide) rfl rfl dX1_leastAdvanced_17 ?_
      refine x_get (pc := 20) C I wC_4 rfl inlX0 (k := 9) q_7_9 (by decide) rfl rfl dX1_leastAdvanced_20 ?_
      refine lv_iload_n (pc := 23) hx hb dX1_leastAdvanced_23 rfl (lv_at hl 2 rfl) ?_
      obtain ⟨g7, h⟩ := h
      refine x_ald (pc := 24) C I wC_23 g7 dX1_leastAdvanced_24 ?_
      refine lv_topi (fun y8 ey8 => ?_)
      have h := h y8 ey8
      refine lv_istore_n (pc := 25) (lv' := [(3, .int y8), (0, .ref (a 0)), (1, .int x1), (2, .int x2)]) hx hb dX1_leastAdvanced_25 rfl hl (by decide) rfl (fun ls hl => ?_)
      refine lv_aload_n (pc := 26) hx hb dX1_leastAdvanced_26 rfl (lv_at hl 1 rfl) ?_
      refine lv_iload_n (pc := 27) hx hb dX1_leastAdvanced_27 rfl (lv_at hl 0 rfl) ?_
      refine x_calli (pc := 28) C I hA (m_X1_isCandidate h) c_RX1_180 wC_0 rfl ⟨Nat.le_of_ble_eq_true rfl, Nat.le_of_ble_eq_true rfl⟩ ⟨rfl, rfl⟩ ⟨Nat.le_of_ble_eq_true rfl, Nat.le_of_ble_eq_true rfl⟩ (As := [.int y8]) rfl hl.1 rfl (Nat.le_of_ble_eq_true rfl) dX1_leastAdvanced_28 (fun r10 M9 H locs h I => ?_)
      refine lv_if_eq (pc := 31) (tgt := 63) hx hb dX1_leastAdvanced_31 (by decide) (fun g11 => ?_) (fun g11 => ?_)
      · have h := h.1 g11
        obtain ⟨y12, ey12⟩ : ∃ y : Int32, y = (x2 + 1) := ⟨_, rfl⟩
        have h := h y12 ey12
        refine lv_iinc (pc := 63) (v := y12) (lv' := [(2, .int y12), (3, .int y8), (0, .ref (a 0)), (1, .int x1)]) hx hb dX1_leastAdvanced_63 hl (k := 3) rfl (by rw [ey12]; rfl) (by decide) rfl (fun ls hl => ?_)
        refine lv_goto (pc := 66) (tgt := 5) hx hb dX1_leastAdvanced_66 (by decide) ?_
        exact ih5 M9 x1 y12 _ _ _ h I (lv_sub hl [2, 3, 0] rfl)
      · have h := h.2 g11
        refine lv_iload_n (pc := 34) hx hb dX1_leastAdvanced_34 rfl (lv_at hl 2 rfl) ?_
        refine lv_bipush (pc := 35) (v := (-6)) hx hb dX1_leastAdvanced_35 (by decide) ?_
        refine lv_icmp_eq (pc := 37) (tgt := 61) hx hb dX1_leastAdvanced_37 (by decide) (fun g13 => ?_) (fun g13 => ?_)
        · have h := h.1 g13
          refine lv_iload_n (pc := 61) hx hb dX1_leastAdvanced_61 rfl (lv_at hl 0 rfl) ?_
          refine lv_istore_n (pc := 62) (lv' := [(1, .int y8), (3, .int y8), (0, .ref (a 0)), (2, .int x2)]) hx hb dX1_leastAdvanced_62 rfl hl (by decide) rfl (fun ls hl => ?_)
          obtain ⟨y14, ey14⟩ : ∃ y : Int32, y = (x2 + 1) := ⟨_, rfl⟩
          have h := h y14 ey14
          refine lv_iinc (pc := 63) (v := y14) (lv' := [(2, .int y14), (1, .int y8), (3, .int y8), (0, .ref (a 0))]) hx hb dX1_leastAdvanced_63 hl (k := 3) rfl (by rw [ey14]; rfl) (by decide) rfl (fun ls hl => ?_)
          refine lv_goto (pc := 66) (tgt := 5) hx hb dX1_leastAdvanced_66 (by decide) ?_
          exact ih5 M9 y8 y14 _ _ _ h I (lv_sub hl [3, 1, 0] rfl)
        · have h := h.2 g13
          refine lv_aload_n (pc := 40) hx hb dX1_leastAdvanced_40 rfl (lv_at hl 1 rfl) ?_
          refine x_get (pc := 41) C I wC_0 rfl inlX1 (k := 3) q_2_11 (by decide) rfl rfl dX1_leastAdvanced_41 ?_
          refine x_get (pc := 44) C I wC_4 rfl inlX0 (k := 7) q_13_3 (by decide) rfl rfl dX1_leastAdvanced_44 ?_
          refine lv_iload_n (pc := 47) hx hb dX1_leastAdvanced_47 rfl (lv_at hl 0 rfl) ?_
          obtain ⟨g15, h⟩ := h
          refine x_ald (pc := 48) C I wC_21 g15 dX1_leastAdvanced_48 ?_
          refine lv_aload_n (pc := 49) hx hb dX1_leastAdvanced_49 rfl (lv_at hl 1 rfl) ?_
          refine x_get (pc := 50) C I wC_0 rfl inlX1 (k := 3) q_2_11 (by decide) rfl rfl dX1_leastAdvanced_50 ?_
          refine x_get (pc := 53) C I wC_4 rfl inlX0 (k := 7) q_13_3 (by decide) rfl rfl dX1_leastAdvanced_53 ?_
          refine lv_iload_n (pc := 56) hx hb dX1_leastAdvanced_56 rfl (lv_at hl 2 rfl) ?_
          obtain ⟨g16, h⟩ := h
          refine x_ald (pc := 57) C I wC_21 g16 dX1_leastAdvanced_57 ?_
          refine lv_icmp_ge (pc := 58) (tgt := 63) hx hb dX1_leastAdvanced_58 (by decide) (fun g17 => ?_) (fun g17 => ?_)
          · have h := h.1 g17
            obtain ⟨y18, ey18⟩ : ∃ y : Int32, y = (x2 + 1) := ⟨_, rfl⟩
            have h := h y18 ey18
            refine lv_iinc (pc := 63) (v := y18) (lv' := [(2, .int y18), (3, .int y8), (0, .ref (a 0)), (1, .int x1)]) hx hb dX1_leastAdvanced_63 hl (k := 3) rfl (by rw [ey18]; rfl) (by decide) rfl (fun ls hl => ?_)
            refine lv_goto (pc := 66) (tgt := 5) hx hb dX1_leastAdvanced_66 (by decide) ?_
            exact ih5 M9 x1 y18 _ _ _ h I (lv_sub hl [2, 3, 0] rfl)
          · have h := h.2 g17
            refine lv_iload_n (pc := 61) hx hb dX1_leastAdvanced_61 rfl (lv_at hl 0 rfl) ?_
            refine lv_istore_n (pc := 62) (lv' := [(1, .int y8), (3, .int y8), (0, .ref (a 0)), (2, .int x2)]) hx hb dX1_leastAdvanced_62 rfl hl (by decide) rfl (fun ls hl => ?_)
            obtain ⟨y19, ey19⟩ : ∃ y : Int32, y = (x2 + 1) := ⟨_, rfl⟩
            have h := h y19 ey19
            refine lv_iinc (pc := 63) (v := y19) (lv' := [(2, .int y19), (1, .int y8), (3, .int y8), (0, .ref (a 0))]) hx hb dX1_leastAdvanced_63 hl (k := 3) rfl (by rw [ey19]; rfl) (by decide) rfl (fun ls hl => ?_)
            refine lv_goto (pc := 66) (tgt := 5) hx hb dX1_leastAdvanced_66 (by decide) ?_
            exact ih5 M9 y8 y19 _ _ _ h I (lv_sub hl [3, 1, 0] rfl)
set_option maxHeartbeats 4000000 in
set_option maxRecDepth 100000 in
theorem m_X1_leastAdvanced {l : Launch} {D : va_G} {cI cZ : ClassId} {a : Nat → Nat} {M : xM} {post : Int32 → xM → Prop} (h : V_X1_leastAdvanced M post) : xMi l yX1_leastAdvanced cX1_leastAdvanced 4 (some .int) { frames := 1, cells := 0, slots := 0, locals := 23 } D cI cZ (wC cI cZ a) M [.ref (a 0)] post := by
  refine x_bodyi (own := RX1) (by decide) rfl (Nat.le_of_ble_eq_true rfl) ?_
  intro p e s m below meth c A ls C hr hlocks hA I hl
  have hx := C.1.1
  have hb := C.1.2.1
  have hl : lv_has ls 4 [(0, .ref (a 0))] := hl
  unfold V_X1_leastAdvanced at h
  refine lv_bipush (pc := 0) (v := (-6)) hx hb dX1_leastAdvanced_0 (by decide) ?_
  refine lv_istore_n (pc := 2) (lv' := [(1, .int (-6)), (0, .ref (a 0))]) hx hb dX1_leastAdvanced_2 rfl hl (by decide) rfl (fun ls hl => ?_)
  refine lv_iconst (pc := 3) (v := 0) hx hb dX1_leastAdvanced_3 (by decide) ?_
  refine lv_istore_n (pc := 4) (lv' := [(2, .int 0), (1, .int (-6)), (0, .ref (a 0))]) hx hb dX1_leastAdvanced_4 rfl hl (by decide) rfl (fun ls hl => ?_)
  obtain ⟨n20, h⟩ := h
  exact k_X1_leastAdvanced_L5 C hr hlocks hA n20 M (-6) 0 _ _ _ h I (lv_sub hl [2, 1, 0] rfl)
def V_X1_longestToRun_L28 (post : Int32 → xM → Prop) : Nat → xM → Int32 → Int32 → Int32 → Prop
  | 0, _, _, _, _ => False
  | n + 1, M0, x1, x2, x3 => (((M0 4 10) ≤ x3 → post x2 M0) ∧ (¬ (M0 4 10) ≤ x3 → (vp_in x3 32 ∧ (∀ y6 : Int32, y6 = (M0 23 (x3).toNatClampNeg) → (vp_in y6 200 ∧ ((x1 ≤ ((M0 22 (y6).toNatClampNeg) * 100) → (∀ y9 : Int32, y9 = (x3 + 1) → (V_X1_longestToRun_L28 post n M0 x1 x2 y9))) ∧ (¬ x1 ≤ ((M0 22 (y6).toNatClampNeg) * 100) → (V_X1_isCandidate M0 y6 (fun r11 M10 => ((r11 = 0 → (∀ y13 : Int32, y13 = (x3 + 1) → (V_X1_longestToRun_L28 post n M10 x1 x2 y13))) ∧ (¬ r11 = 0 → ((x2 = (-6) → (∀ y15 : Int32, y15 = (x3 + 1) → (V_X1_longestToRun_L28 post n M10 x1 y6 y15))) ∧ (¬ x2 = (-6) → (V_X0_remaining M10 y6 (fun r17 M16 => (V_X0_remaining M16 x2 (fun r19 M18 => ((r17 ≤ r19 → (∀ y21 : Int32, y21 = (x3 + 1) → (V_X1_longestToRun_L28 post n M18 x1 x2 y21))) ∧ (¬ r17 ≤ r19 → (∀ y22 : Int32, y22 = (x3 + 1) → (V_X1_longestToRun_L28 post n M18 x1 y6 y22)))))))))))))))))))))
def V_X1_longestToRun (M : xM) (post : Int32 → xM → Prop) : Prop := (V_X0_meanOfRunning_22 M  (fun r2 M1 => (∀ y3 : Int32, y3 = (r2 * (M1 1 3)) → (∃ n23 : Nat, V_X1_longestToRun_L28 post n23 M1 y3 (-6) 0))))
set_option maxHeartbeats 4000000 in
set_option maxRecDepth 100000 in
theorem k_X1_longestToRun_L28 {l : Launch} {D : va_G} {cI cZ : ClassId} {a : Nat → Nat} {p : Program} {e : Env} {s : State} {m : MethodId} {below : List Frame} {meth : Method} {c : Code} {A : Nat → Prop} {args : Array Value} {post : Int32 → xM → Prop} (C : xC p s m args c cX1_longestToRun 6 RX1 D cI cZ) (hr : meth.sig.returnType = (some .int)) (hlocks : meth.locks = false) (hA : ∀ q : Nat, s.heap.size ≤ q → A q) (n : Nat) : ∀ (M0 : xM) (x1 x2 x3 : Int32) (H : Heap) (locs : List Loc) (ls : Array Slot), V_X1_longestToRun_L28 post n M0 x1 x2 x3 → xI D (wC cI cZ a M0) A s.heap H locs → lv_has ls 6 [(0, .ref (a 0)), (1, .int x1), (2, .int x2), (3, .int x3)] → W p l e { frames := 1, cells := 0, slots := 0, locals := 23 } s m args below meth c H locs 0 0 (MQ below (va_Qi post (xPost D cI cZ A (wC cI cZ a)) A) args s 0 0 A) (F0 m 28 ls []) := by
  have hx := C.1.1
  have hb := C.1.2.1
  induction n with
  | zero =>
    intro M0 x1 x2 x3 H locs ls h I hl
    exact absurd h id
  | succ n ih28 =>
    intro M0 x1 x2 x3 H locs ls h I hl
    rw [V_X1_longestToRun_L28] at h
    refine lv_iload_n (pc := 28) hx hb dX1_longestToRun_28 rfl (lv_at hl 3 rfl) ?_
    refine lv_aload_n (pc := 29) hx hb dX1_longestToRun_29 rfl (lv_at hl 0 rfl) ?_
    refine x_get (pc := 30) C I wC_0 rfl inlX1 (k := 3) q_2_11 (by decide) rfl rfl dX1_longestToRun_30 ?_
    refine x_get (pc := 33) C I wC_4 rfl inlX0 (k := 10) q_7_8 (by decide) rfl rfl dX1_longestToRun_33 ?_
    refine lv_icmp_ge (pc := 36) (tgt := 123) hx hb dX1_longestToRun_36 (by decide) (fun g4 => ?_) (fun g4 => ?_)
    · have h := h.1 g4
      refine lv_iload_n (pc := 123) hx hb dX1_longestToRun_123 rfl (lv_at hl 2 rfl) ?_
      exact x_ireti (pc := 124) C I hr hlocks h dX1_longestToRun_124
    · have h := h.2 g4
      refine lv_aload_n (pc := 39) hx hb dX1_longestToRun_39 rfl (lv_at hl 0 rfl) ?_
      refine x_get (pc := 40) C I wC_0 rfl inlX1 (k := 3) q_2_11 (by decide) rfl rfl dX1_longestToRun_40 ?_
      refine x_get (pc := 43) C I wC_4 rfl inlX0 (k := 9) q_7_9 (by decide) rfl rfl dX1_longestToRun_43 ?_
      refine lv_iload_n (pc := 46) hx hb dX1_longestToRun_46 rfl (lv_at hl 3 rfl) ?_
      obtain ⟨g5, h⟩ := h
      refine x_ald (pc := 47) C I wC_23 g5 dX1_longestToRun_47 ?_
      refine lv_topi (fun y6 ey6 => ?_)
      have h := h y6 ey6
      refine lv_istore (pc := 48) (lv' := [(4, .int y6), (0, .ref (a 0)), (1, .int x1), (2, .int x2), (3, .int x3)]) hx hb dX1_longestToRun_48 hl (by decide) rfl (fun ls hl => ?_)
      refine lv_aload_n (pc := 50) hx hb dX1_longestToRun_50 rfl (lv_at hl 1 rfl) ?_
      refine x_get (pc := 51) C I wC_0 rfl inlX1 (k := 3) q_2_11 (by decide) rfl rfl dX1_longestToRun_51 ?_
      refine x_get (pc := 54) C I wC_4 rfl inlX0 (k := 8) q_13_18 (by decide) rfl rfl dX1_longestToRun_54 ?_
      refine lv_iload (pc := 57) hx hb dX1_longestToRun_57 (lv_at hl 0 rfl) ?_
      obtain ⟨g7, h⟩ := h
      refine x_ald (pc := 59) C I wC_22 g7 dX1_longestToRun_59 ?_
      refine lv_bipush (pc := 60) (v := 100) hx hb dX1_longestToRun_60 (by decide) ?_
      refine lv_imul (pc := 62) hx hb dX1_longestToRun_62 ?_
      refine lv_iload_n (pc := 63) hx hb dX1_longestToRun_63 rfl (lv_at hl 2 rfl) ?_
      refine lv_icmp_ge (pc := 64) (tgt := 71) hx hb dX1_longestToRun_64 (by decide) (fun g8 => ?_) (fun g8 => ?_)
      · have h := h.1 g8
        refine lv_iconst (pc := 71) (v := 0) hx hb dX1_longestToRun_71 (by decide) ?_
        refine lv_istore (pc := 72) (lv' := [(5, .int 0), (4, .int y6), (0, .ref (a 0)), (1, .int x1), (2, .int x2), (3, .int x3)]) hx hb dX1_longestToRun_72 hl (by decide) rfl (fun ls hl => ?_)
        refine lv_iload (pc := 74) hx hb dX1_longestToRun_74 (lv_at hl 0 rfl) ?_
        refine lv_if_eq (pc := 76) (tgt := 117) hx hb dX1_longestToRun_76 (by decide) (fun _ => ?_) (fun g => absurd g (by decide))
        obtain ⟨y9, ey9⟩ : ∃ y : Int32, y = (x3 + 1) := ⟨_, rfl⟩
        have h := h y9 ey9
        refine lv_iinc (pc := 117) (v := y9) (lv' := [(3, .int y9), (5, .int 0), (4, .int y6), (0, .ref (a 0)), (1, .int x1), (2, .int x2)]) hx hb dX1_longestToRun_117 hl (k := 5) rfl (by rw [ey9]; rfl) (by decide) rfl (fun ls hl => ?_)
        refine lv_goto (pc := 120) (tgt := 28) hx hb dX1_longestToRun_120 (by decide) ?_
        exact ih28 M0 x1 x2 y9 _ _ _ h I (lv_sub hl [3, 4, 5, 0] rfl)
      · have h := h.2 g8
        refine lv_iconst (pc := 67) (v := 1) hx hb dX1_longestToRun_67 (by decide) ?_
        refine lv_goto (pc := 68) (tgt := 72) hx hb dX1_longestToRun_68 (by decide) ?_
        refine lv_istore (pc := 72) (lv' := [(5, .int 1), (4, .int y6), (0, .ref (a 0)), (1, .int x1), (2, .int x2), (3, .int x3)]) hx hb dX1_longestToRun_72 hl (by decide) rfl (fun ls hl => ?_)
        refine lv_iload (pc := 74) hx hb dX1_longestToRun_74 (lv_at hl 0 rfl) ?_
        refine lv_if_eq (pc := 76) (tgt := 117) hx hb dX1_longestToRun_76 (by decide) (fun g => absurd g (by decide)) (fun _ => ?_)
        refine lv_aload_n (pc := 79) hx hb dX1_longestToRun_79 rfl (lv_at hl 2 rfl) ?_
        refine lv_iload (pc := 80) hx hb dX1_longestToRun_80 (lv_at hl 1 rfl) ?_
        refine x_calli (pc := 82) C I hA (m_X1_isCandidate h) c_RX1_180 wC_0 rfl ⟨Nat.le_of_ble_eq_true rfl, Nat.le_of_ble_eq_true rfl⟩ ⟨rfl, rfl⟩ ⟨Nat.le_of_ble_eq_true rfl, Nat.le_of_ble_eq_true rfl⟩ (As := [.int y6]) rfl hl.1 rfl (Nat.le_of_ble_eq_true rfl) dX1_longestToRun_82 (fun r11 M10 H locs h I => ?_)
        refine lv_if_eq (pc := 85) (tgt := 117) hx hb dX1_longestToRun_85 (by decide) (fun g12 => ?_) (fun g12 => ?_)
        · have h := h.1 g12
          obtain ⟨y13, ey13⟩ : ∃ y : Int32, y = (x3 + 1) := ⟨_, rfl⟩
          have h := h y13 ey13
          refine lv_iinc (pc := 117) (v := y13) (lv' := [(3, .int y13), (5, .int 1), (4, .int y6), (0, .ref (a 0)), (1, .int x1), (2, .int x2)]) hx hb dX1_longestToRun_117 hl (k := 5) rfl (by rw [ey13]; rfl) (by decide) rfl (fun ls hl => ?_)
          refine lv_goto (pc := 120) (tgt := 28) hx hb dX1_longestToRun_120 (by decide) ?_
          exact ih28 M10 x1 x2 y13 _ _ _ h I (lv_sub hl [3, 4, 5, 0] rfl)
        · have h := h.2 g12
          refine lv_iload_n (pc := 88) hx hb dX1_longestToRun_88 rfl (lv_at hl 4 rfl) ?_
          refine lv_bipush (pc := 89) (v := (-6)) hx hb dX1_longestToRun_89 (by decide) ?_
          refine lv_icmp_eq (pc := 91) (tgt := 114) hx hb dX1_longestToRun_91 (by decide) (fun g14 => ?_) (fun g14 => ?_)
          · have h := h.1 g14
            refine lv_iload (pc := 114) hx hb dX1_longestToRun_114 (lv_at hl 1 rfl) ?_
            refine lv_istore_n (pc := 116) (lv' := [(2, .int y6), (5, .int 1), (4, .int y6), (0, .ref (a 0)), (1, .int x1), (3, .int x3)]) hx hb dX1_longestToRun_116 rfl hl (by decide) rfl (fun ls hl => ?_)
            obtain ⟨y15, ey15⟩ : ∃ y : Int32, y = (x3 + 1) := ⟨_, rfl⟩
            have h := h y15 ey15
            refine lv_iinc (pc := 117) (v := y15) (lv' := [(3, .int y15), (2, .int y6), (5, .int 1), (4, .int y6), (0, .ref (a 0)), (1, .int x1)]) hx hb dX1_longestToRun_117 hl (k := 5) rfl (by rw [ey15]; rfl) (by decide) rfl (fun ls hl => ?_)
            refine lv_goto (pc := 120) (tgt := 28) hx hb dX1_longestToRun_120 (by decide) ?_
            exact ih28 M10 x1 y6 y15 _ _ _ h I (lv_sub hl [4, 5, 1, 0] rfl)
          · have h := h.2 g14
            refine lv_aload_n (pc := 94) hx hb dX1_longestToRun_94 rfl (lv_at hl 2 rfl) ?_
            refine x_get (pc := 95) C I wC_0 rfl inlX1 (k := 3) q_2_11 (by decide) rfl rfl dX1_longestToRun_95 ?_
            refine lv_iload (pc := 98) hx hb dX1_longestToRun_98 (lv_at hl 1 rfl) ?_
            refine x_calli (pc := 100) C I hA (m_X0_remaining h) c_RX1_196 wC_4 rfl ⟨Nat.le_of_ble_eq_true rfl, Nat.le_of_ble_eq_true rfl⟩ ⟨rfl, rfl⟩ ⟨Nat.le_of_ble_eq_true rfl, Nat.le_of_ble_eq_true rfl⟩ (As := [.int y6]) rfl hl.1 rfl (Nat.le_of_ble_eq_true rfl) dX1_longestToRun_100 (fun r17 M16 H locs h I => ?_)
            refine lv_aload_n (pc := 103) hx hb dX1_longestToRun_103 rfl (lv_at hl 2 rfl) ?_
            refine x_get (pc := 104) C I wC_0 rfl inlX1 (k := 3) q_2_11 (by decide) rfl rfl dX1_longestToRun_104 ?_
            refine lv_iload_n (pc := 107) hx hb dX1_longestToRun_107 rfl (lv_at hl 4 rfl) ?_
            refine x_calli (pc := 108) C I hA (m_X0_remaining h) c_RX1_196 wC_4 rfl ⟨Nat.le_of_ble_eq_true rfl, Nat.le_of_ble_eq_true rfl⟩ ⟨rfl, rfl⟩ ⟨Nat.le_of_ble_eq_true rfl, Nat.le_of_ble_eq_true rfl⟩ (As := [.int x2]) rfl hl.1 rfl (Nat.le_of_ble_eq_true rfl) dX1_longestToRun_108 (fun r19 M18 H locs h I => ?_)
            refine lv_icmp_le (pc := 111) (tgt := 117) hx hb dX1_longestToRun_111 (by decide) (fun g20 => ?_) (fun g20 => ?_)
            · have h := h.1 g20
              obtain ⟨y21, ey21⟩ : ∃ y : Int32, y = (x3 + 1) := ⟨_, rfl⟩
              have h := h y21 ey21
              refine lv_iinc (pc := 117) (v := y21) (lv' := [(3, .int y21), (5, .int 1), (4, .int y6), (0, .ref (a 0)), (1, .int x1), (2, .int x2)]) hx hb dX1_longestToRun_117 hl (k := 5) rfl (by rw [ey21]; rfl) (by decide) rfl (fun ls hl => ?_)
              refine lv_goto (pc := 120) (tgt := 28) hx hb dX1_longestToRun_120 (by decide) ?_
              exact ih28 M18 x1 x2 y21 _ _ _ h I (lv_sub hl [3, 4, 5, 0] rfl)
            · have h := h.2 g20
              refine lv_iload (pc := 114) hx hb dX1_longestToRun_114 (lv_at hl 1 rfl) ?_
              refine lv_istore_n (pc := 116) (lv' := [(2, .int y6), (5, .int 1), (4, .int y6), (0, .ref (a 0)), (1, .int x1), (3, .int x3)]) hx hb dX1_longestToRun_116 rfl hl (by decide) rfl (fun ls hl => ?_)
              obtain ⟨y22, ey22⟩ : ∃ y : Int32, y = (x3 + 1) := ⟨_, rfl⟩
              have h := h y22 ey22
              refine lv_iinc (pc := 117) (v := y22) (lv' := [(3, .int y22), (2, .int y6), (5, .int 1), (4, .int y6), (0, .ref (a 0)), (1, .int x1)]) hx hb dX1_longestToRun_117 hl (k := 5) rfl (by rw [ey22]; rfl) (by decide) rfl (fun ls hl => ?_)
              refine lv_goto (pc := 120) (tgt := 28) hx hb dX1_longestToRun_120 (by decide) ?_
              exact ih28 M18 x1 y6 y22 _ _ _ h I (lv_sub hl [4, 5, 1, 0] rfl)
set_option maxHeartbeats 4000000 in
set_option maxRecDepth 100000 in
theorem m_X1_longestToRun {l : Launch} {D : va_G} {cI cZ : ClassId} {a : Nat → Nat} {M : xM} {post : Int32 → xM → Prop} (h : V_X1_longestToRun M post) : xMi l yX1_longestToRun cX1_longestToRun 6 (some .int) { frames := 1, cells := 0, slots := 0, locals := 23 } D cI cZ (wC cI cZ a) M [.ref (a 0)] post := by
  refine x_bodyi (own := RX1) (by decide) rfl (Nat.le_of_ble_eq_true rfl) ?_
  intro p e s m below meth c A ls C hr hlocks hA I hl
  have hx := C.1.1
  have hb := C.1.2.1
  have hl : lv_has ls 6 [(0, .ref (a 0))] := hl
  unfold V_X1_longestToRun at h
  refine lv_aload_n (pc := 0) hx hb dX1_longestToRun_0 rfl (lv_at hl 0 rfl) ?_
  refine x_get (pc := 1) C I wC_0 rfl inlX1 (k := 3) q_2_11 (by decide) rfl rfl dX1_longestToRun_1 ?_
  refine lv_aload_n (pc := 4) hx hb dX1_longestToRun_4 rfl (lv_at hl 0 rfl) ?_
  refine x_get (pc := 5) C I wC_0 rfl inlX1 (k := 3) q_2_11 (by decide) rfl rfl dX1_longestToRun_5 ?_
  refine x_get (pc := 8) C I wC_4 rfl inlX0 (k := 8) q_13_18 (by decide) rfl rfl dX1_longestToRun_8 ?_
  refine x_calli (pc := 11) C I hA (m_X0_meanOfRunning_22 h) c_RX1_186 wC_4 rfl ⟨Nat.le_of_ble_eq_true rfl, Nat.le_of_ble_eq_true rfl⟩ ⟨rfl, rfl⟩ ⟨Nat.le_of_ble_eq_true rfl, Nat.le_of_ble_eq_true rfl⟩ (As := [.ref (a 22)]) rfl hl.1 rfl (Nat.le_of_ble_eq_true rfl) dX1_longestToRun_11 (fun r2 M1 H locs h I => ?_)
  refine lv_aload_n (pc := 14) hx hb dX1_longestToRun_14 rfl (lv_at hl 0 rfl) ?_
  refine x_get (pc := 15) C I wC_0 rfl inlX1 (k := 0) q_1_23 (by decide) rfl rfl dX1_longestToRun_15 ?_
  refine x_get (pc := 18) C I wC_1 rfl inlX3 (k := 3) q_13_19 (by decide) rfl rfl dX1_longestToRun_18 ?_
  refine lv_imul (pc := 21) hx hb dX1_longestToRun_21 ?_
  refine lv_topi (fun y3 ey3 => ?_)
  have h := h y3 ey3
  refine lv_istore_n (pc := 22) (lv' := [(1, .int y3), (0, .ref (a 0))]) hx hb dX1_longestToRun_22 rfl hl (by decide) rfl (fun ls hl => ?_)
  refine lv_bipush (pc := 23) (v := (-6)) hx hb dX1_longestToRun_23 (by decide) ?_
  refine lv_istore_n (pc := 25) (lv' := [(2, .int (-6)), (1, .int y3), (0, .ref (a 0))]) hx hb dX1_longestToRun_25 rfl hl (by decide) rfl (fun ls hl => ?_)
  refine lv_iconst (pc := 26) (v := 0) hx hb dX1_longestToRun_26 (by decide) ?_
  refine lv_istore_n (pc := 27) (lv' := [(3, .int 0), (2, .int (-6)), (1, .int y3), (0, .ref (a 0))]) hx hb dX1_longestToRun_27 rfl hl (by decide) rfl (fun ls hl => ?_)
  obtain ⟨n23, h⟩ := h
  exact k_X1_longestToRun_L28 C hr hlocks hA n23 M1 y3 (-6) 0 _ _ _ h I (lv_sub hl [3, 2, 1, 0] rfl)
def V_X1_findStraggler (M : xM) (post : Int32 → xM → Prop) : Prop := (((M 1 0) = 1 → (V_X1_leastAdvanced M  (fun r6 M5 => post r6 M5))) ∧ (¬ (M 1 0) = 1 → (((M 1 0) = 2 → (V_X1_longestToRun M  (fun r4 M3 => post r4 M3))) ∧ (¬ (M 1 0) = 2 → post (-6) M))))
set_option maxHeartbeats 4000000 in
set_option maxRecDepth 100000 in
theorem m_X1_findStraggler {l : Launch} {D : va_G} {cI cZ : ClassId} {a : Nat → Nat} {M : xM} {post : Int32 → xM → Prop} (h : V_X1_findStraggler M post) : xMi l yX1_findStraggler cX1_findStraggler 1 (some .int) { frames := 2, cells := 0, slots := 0, locals := 48 } D cI cZ (wC cI cZ a) M [.ref (a 0)] post := by
  refine x_bodyi (own := RX1) (by decide) rfl (Nat.le_of_ble_eq_true rfl) ?_
  intro p e s m below meth c A ls C hr hlocks hA I hl
  have hx := C.1.1
  have hb := C.1.2.1
  have hl : lv_has ls 1 [(0, .ref (a 0))] := hl
  unfold V_X1_findStraggler at h
  refine lv_aload_n (pc := 0) hx hb dX1_findStraggler_0 rfl (lv_at hl 0 rfl) ?_
  refine x_get (pc := 1) C I wC_0 rfl inlX1 (k := 0) q_1_23 (by decide) rfl rfl dX1_findStraggler_1 ?_
  refine x_get (pc := 4) C I wC_1 rfl inlX3 (k := 0) q_12_1 (by decide) rfl rfl dX1_findStraggler_4 ?_
  refine lv_iconst (pc := 7) (v := 1) hx hb dX1_findStraggler_7 (by decide) ?_
  refine lv_icmp_ne (pc := 8) (tgt := 16) hx hb dX1_findStraggler_8 (by decide) (fun g1 => ?_) (fun g1 => ?_)
  · have h := h.2 g1
    refine lv_aload_n (pc := 16) hx hb dX1_findStraggler_16 rfl (lv_at hl 0 rfl) ?_
    refine x_get (pc := 17) C I wC_0 rfl inlX1 (k := 0) q_1_23 (by decide) rfl rfl dX1_findStraggler_17 ?_
    refine x_get (pc := 20) C I wC_1 rfl inlX3 (k := 0) q_12_1 (by decide) rfl rfl dX1_findStraggler_20 ?_
    refine lv_iconst (pc := 23) (v := 2) hx hb dX1_findStraggler_23 (by decide) ?_
    refine lv_icmp_ne (pc := 24) (tgt := 34) hx hb dX1_findStraggler_24 (by decide) (fun g2 => ?_) (fun g2 => ?_)
    · have h := h.2 g2
      refine lv_bipush (pc := 34) (v := (-6)) hx hb dX1_findStraggler_34 (by decide) ?_
      exact x_ireti (pc := 36) C I hr hlocks h dX1_findStraggler_36
    · have h := h.1 g2
      refine lv_aload_n (pc := 27) hx hb dX1_findStraggler_27 rfl (lv_at hl 0 rfl) ?_
      refine x_calli (pc := 28) C I hA (m_X1_longestToRun h) c_RX1_171 wC_0 rfl ⟨Nat.le_of_ble_eq_true rfl, Nat.le_of_ble_eq_true rfl⟩ ⟨rfl, rfl⟩ ⟨Nat.le_of_ble_eq_true rfl, Nat.le_of_ble_eq_true rfl⟩ (As := []) rfl hl.1 rfl (Nat.le_of_ble_eq_true rfl) dX1_findStraggler_28 (fun r4 M3 H locs h I => ?_)
      refine lv_goto (pc := 31) (tgt := 36) hx hb dX1_findStraggler_31 (by decide) ?_
      exact x_ireti (pc := 36) C I hr hlocks h dX1_findStraggler_36
  · have h := h.1 g1
    refine lv_aload_n (pc := 11) hx hb dX1_findStraggler_11 rfl (lv_at hl 0 rfl) ?_
    refine x_calli (pc := 12) C I hA (m_X1_leastAdvanced h) c_RX1_168 wC_0 rfl ⟨Nat.le_of_ble_eq_true rfl, Nat.le_of_ble_eq_true rfl⟩ ⟨rfl, rfl⟩ ⟨Nat.le_of_ble_eq_true rfl, Nat.le_of_ble_eq_true rfl⟩ (As := []) rfl hl.1 rfl (Nat.le_of_ble_eq_true rfl) dX1_findStraggler_12 (fun r6 M5 H locs h I => ?_)
    exact x_ireti (pc := 15) C I hr hlocks h dX1_findStraggler_15
def V_X1_taskToSpeculate (M : xM) (x1 : Int32) (post : Int32 → xM → Prop) : Prop := (V_X0_countSpeculative M  (fun r2 M1 => ((r2 < (M1 1 1) → (((M1 1 0) = 2 → (V_X2_isSlow M1 x1 (M1 1 4) (fun r12 M11 => ((r12 = 0 → (V_X1_findStraggler M11  (fun r15 M14 => ((r15 = (-6) → post (-6) M14) ∧ (¬ r15 = (-6) → (vp_in r15 200 ∧ (((M14 16 (r15).toNatClampNeg) = x1 → post (-6) M14) ∧ (¬ (M14 16 (r15).toNatClampNeg) = x1 → (vp_in r15 200 ∧ post (M14 15 (r15).toNatClampNeg) M14))))))))) ∧ (¬ r12 = 0 → post (-6) M11))))) ∧ (¬ (M1 1 0) = 2 → (V_X1_findStraggler M1  (fun r6 M5 => ((r6 = (-6) → post (-6) M5) ∧ (¬ r6 = (-6) → (vp_in r6 200 ∧ (((M5 16 (r6).toNatClampNeg) = x1 → post (-6) M5) ∧ (¬ (M5 16 (r6).toNatClampNeg) = x1 → (vp_in r6 200 ∧ post (M5 15 (r6).toNatClampNeg) M5))))))))))) ∧ (¬ r2 < (M1 1 1) → post (-6) M1))))
set_option maxHeartbeats 4000000 in
set_option maxRecDepth 100000 in
theorem m_X1_taskToSpeculate {l : Launch} {D : va_G} {cI cZ : ClassId} {a : Nat → Nat} {M : xM} {x1 : Int32} {post : Int32 → xM → Prop} (h : V_X1_taskToSpeculate M x1 post) : xMi l yX1_taskToSpeculate cX1_taskToSpeculate 3 (some .int) { frames := 3, cells := 0, slots := 0, locals := 68 } D cI cZ (wC cI cZ a) M [.ref (a 0), .int x1] post := by
  refine x_bodyi (own := RX1) (by decide) rfl (Nat.le_of_ble_eq_true rfl) ?_
  intro p e s m below meth c A ls C hr hlocks hA I hl
  have hx := C.1.1
  have hb := C.1.2.1
  have hl : lv_has ls 3 [(0, .ref (a 0)), (1, .int x1)] := hl
  unfold V_X1_taskToSpeculate at h
  refine lv_aload_n (pc := 0) hx hb dX1_taskToSpeculate_0 rfl (lv_at hl 0 rfl) ?_
  refine x_get (pc := 1) C I wC_0 rfl inlX1 (k := 3) q_2_11 (by decide) rfl rfl dX1_taskToSpeculate_1 ?_
  refine x_calli (pc := 4) C I hA (m_X0_countSpeculative h) c_RX1_89 wC_4 rfl ⟨Nat.le_of_ble_eq_true rfl, Nat.le_of_ble_eq_true rfl⟩ ⟨rfl, rfl⟩ ⟨Nat.le_of_ble_eq_true rfl, Nat.le_of_ble_eq_true rfl⟩ (As := []) rfl hl.1 rfl (Nat.le_of_ble_eq_true rfl) dX1_taskToSpeculate_4 (fun r2 M1 H locs h I => ?_)
  refine lv_aload_n (pc := 7) hx hb dX1_taskToSpeculate_7 rfl (lv_at hl 0 rfl) ?_
  refine x_get (pc := 8) C I wC_0 rfl inlX1 (k := 0) q_1_23 (by decide) rfl rfl dX1_taskToSpeculate_8 ?_
  refine x_get (pc := 11) C I wC_1 rfl inlX3 (k := 1) q_12_0 (by decide) rfl rfl dX1_taskToSpeculate_11 ?_
  refine lv_icmp_lt (pc := 14) (tgt := 20) hx hb dX1_taskToSpeculate_14 (by decide) (fun g3 => ?_) (fun g3 => ?_)
  · have h := h.1 g3
    refine lv_aload_n (pc := 20) hx hb dX1_taskToSpeculate_20 rfl (lv_at hl 0 rfl) ?_
    refine x_get (pc := 21) C I wC_0 rfl inlX1 (k := 0) q_1_23 (by decide) rfl rfl dX1_taskToSpeculate_21 ?_
    refine x_get (pc := 24) C I wC_1 rfl inlX3 (k := 0) q_12_1 (by decide) rfl rfl dX1_taskToSpeculate_24 ?_
    refine lv_iconst (pc := 27) (v := 2) hx hb dX1_taskToSpeculate_27 (by decide) ?_
    refine lv_icmp_ne (pc := 28) (tgt := 52) hx hb dX1_taskToSpeculate_28 (by decide) (fun g4 => ?_) (fun g4 => ?_)
    · have h := h.2 g4
      refine lv_aload_n (pc := 52) hx hb dX1_taskToSpeculate_52 rfl (lv_at hl 0 rfl) ?_
      refine x_calli (pc := 53) C I hA (m_X1_findStraggler h) c_RX1_105 wC_0 rfl ⟨Nat.le_of_ble_eq_true rfl, Nat.le_of_ble_eq_true rfl⟩ ⟨rfl, rfl⟩ ⟨Nat.le_of_ble_eq_true rfl, Nat.le_of_ble_eq_true rfl⟩ (As := []) rfl hl.1 rfl (Nat.le_of_ble_eq_true rfl) dX1_taskToSpeculate_53 (fun r6 M5 H locs h I => ?_)
      refine lv_istore_n (pc := 56) (lv' := [(2, .int r6), (0, .ref (a 0)), (1, .int x1)]) hx hb dX1_taskToSpeculate_56 rfl hl (by decide) rfl (fun ls hl => ?_)
      refine lv_iload_n (pc := 57) hx hb dX1_taskToSpeculate_57 rfl (lv_at hl 0 rfl) ?_
      refine lv_bipush (pc := 58) (v := (-6)) hx hb dX1_taskToSpeculate_58 (by decide) ?_
      refine lv_icmp_eq (pc := 60) (tgt := 76) hx hb dX1_taskToSpeculate_60 (by decide) (fun g7 => ?_) (fun g7 => ?_)
      · have h := h.1 g7
        refine lv_bipush (pc := 76) (v := (-6)) hx hb dX1_taskToSpeculate_76 (by decide) ?_
        exact x_ireti (pc := 78) C I hr hlocks h dX1_taskToSpeculate_78
      · have h := h.2 g7
        refine lv_aload_n (pc := 63) hx hb dX1_taskToSpeculate_63 rfl (lv_at hl 1 rfl) ?_
        refine x_get (pc := 64) C I wC_0 rfl inlX1 (k := 3) q_2_11 (by decide) rfl rfl dX1_taskToSpeculate_64 ?_
        refine x_get (pc := 67) C I wC_4 rfl inlX0 (k := 2) q_7_10 (by decide) rfl rfl dX1_taskToSpeculate_67 ?_
        refine lv_iload_n (pc := 70) hx hb dX1_taskToSpeculate_70 rfl (lv_at hl 0 rfl) ?_
        obtain ⟨g8, h⟩ := h
        refine x_ald (pc := 71) C I wC_16 g8 dX1_taskToSpeculate_71 ?_
        refine lv_iload_n (pc := 72) hx hb dX1_taskToSpeculate_72 rfl (lv_at hl 2 rfl) ?_
        refine lv_icmp_ne (pc := 73) (tgt := 79) hx hb dX1_taskToSpeculate_73 (by decide) (fun g9 => ?_) (fun g9 => ?_)
        · have h := h.2 g9
          refine lv_aload_n (pc := 79) hx hb dX1_taskToSpeculate_79 rfl (lv_at hl 1 rfl) ?_
          refine x_get (pc := 80) C I wC_0 rfl inlX1 (k := 3) q_2_11 (by decide) rfl rfl dX1_taskToSpeculate_80 ?_
          refine x_get (pc := 83) C I wC_4 rfl inlX0 (k := 1) q_7_17 (by decide) rfl rfl dX1_taskToSpeculate_83 ?_
          refine lv_iload_n (pc := 86) hx hb dX1_taskToSpeculate_86 rfl (lv_at hl 0 rfl) ?_
          obtain ⟨g10, h⟩ := h
          refine x_ald (pc := 87) C I wC_15 g10 dX1_taskToSpeculate_87 ?_
          exact x_ireti (pc := 88) C I hr hlocks h dX1_taskToSpeculate_88
        · have h := h.1 g9
          refine lv_bipush (pc := 76) (v := (-6)) hx hb dX1_taskToSpeculate_76 (by decide) ?_
          exact x_ireti (pc := 78) C I hr hlocks h dX1_taskToSpeculate_78
    · have h := h.1 g4
      refine lv_aload_n (pc := 31) hx hb dX1_taskToSpeculate_31 rfl (lv_at hl 0 rfl) ?_
      refine x_get (pc := 32) C I wC_0 rfl inlX1 (k := 1) q_2_3 (by decide) rfl rfl dX1_taskToSpeculate_32 ?_
      refine lv_iload_n (pc := 35) hx hb dX1_taskToSpeculate_35 rfl (lv_at hl 1 rfl) ?_
      refine lv_aload_n (pc := 36) hx hb dX1_taskToSpeculate_36 rfl (lv_at hl 0 rfl) ?_
      refine x_get (pc := 37) C I wC_0 rfl inlX1 (k := 0) q_1_23 (by decide) rfl rfl dX1_taskToSpeculate_37 ?_
      refine x_get (pc := 40) C I wC_1 rfl inlX3 (k := 4) q_12_2 (by decide) rfl rfl dX1_taskToSpeculate_40 ?_
      refine x_calli (pc := 43) C I hA (m_X2_isSlow h) c_RX1_101 wC_2 rfl ⟨Nat.le_of_ble_eq_true rfl, Nat.le_of_ble_eq_true rfl⟩ ⟨rfl, rfl⟩ ⟨Nat.le_of_ble_eq_true rfl, Nat.le_of_ble_eq_true rfl⟩ (As := [.int x1, .int (M1 1 4)]) rfl hl.1 rfl (Nat.le_of_ble_eq_true rfl) dX1_taskToSpeculate_43 (fun r12 M11 H locs h I => ?_)
      refine lv_if_eq (pc := 46) (tgt := 52) hx hb dX1_taskToSpeculate_46 (by decide) (fun g13 => ?_) (fun g13 => ?_)
      · have h := h.1 g13
        refine lv_aload_n (pc := 52) hx hb dX1_taskToSpeculate_52 rfl (lv_at hl 0 rfl) ?_
        refine x_calli (pc := 53) C I hA (m_X1_findStraggler h) c_RX1_105 wC_0 rfl ⟨Nat.le_of_ble_eq_true rfl, Nat.le_of_ble_eq_true rfl⟩ ⟨rfl, rfl⟩ ⟨Nat.le_of_ble_eq_true rfl, Nat.le_of_ble_eq_true rfl⟩ (As := []) rfl hl.1 rfl (Nat.le_of_ble_eq_true rfl) dX1_taskToSpeculate_53 (fun r15 M14 H locs h I => ?_)
        refine lv_istore_n (pc := 56) (lv' := [(2, .int r15), (0, .ref (a 0)), (1, .int x1)]) hx hb dX1_taskToSpeculate_56 rfl hl (by decide) rfl (fun ls hl => ?_)
        refine lv_iload_n (pc := 57) hx hb dX1_taskToSpeculate_57 rfl (lv_at hl 0 rfl) ?_
        refine lv_bipush (pc := 58) (v := (-6)) hx hb dX1_taskToSpeculate_58 (by decide) ?_
        refine lv_icmp_eq (pc := 60) (tgt := 76) hx hb dX1_taskToSpeculate_60 (by decide) (fun g16 => ?_) (fun g16 => ?_)
        · have h := h.1 g16
          refine lv_bipush (pc := 76) (v := (-6)) hx hb dX1_taskToSpeculate_76 (by decide) ?_
          exact x_ireti (pc := 78) C I hr hlocks h dX1_taskToSpeculate_78
        · have h := h.2 g16
          refine lv_aload_n (pc := 63) hx hb dX1_taskToSpeculate_63 rfl (lv_at hl 1 rfl) ?_
          refine x_get (pc := 64) C I wC_0 rfl inlX1 (k := 3) q_2_11 (by decide) rfl rfl dX1_taskToSpeculate_64 ?_
          refine x_get (pc := 67) C I wC_4 rfl inlX0 (k := 2) q_7_10 (by decide) rfl rfl dX1_taskToSpeculate_67 ?_
          refine lv_iload_n (pc := 70) hx hb dX1_taskToSpeculate_70 rfl (lv_at hl 0 rfl) ?_
          obtain ⟨g17, h⟩ := h
          refine x_ald (pc := 71) C I wC_16 g17 dX1_taskToSpeculate_71 ?_
          refine lv_iload_n (pc := 72) hx hb dX1_taskToSpeculate_72 rfl (lv_at hl 2 rfl) ?_
          refine lv_icmp_ne (pc := 73) (tgt := 79) hx hb dX1_taskToSpeculate_73 (by decide) (fun g18 => ?_) (fun g18 => ?_)
          · have h := h.2 g18
            refine lv_aload_n (pc := 79) hx hb dX1_taskToSpeculate_79 rfl (lv_at hl 1 rfl) ?_
            refine x_get (pc := 80) C I wC_0 rfl inlX1 (k := 3) q_2_11 (by decide) rfl rfl dX1_taskToSpeculate_80 ?_
            refine x_get (pc := 83) C I wC_4 rfl inlX0 (k := 1) q_7_17 (by decide) rfl rfl dX1_taskToSpeculate_83 ?_
            refine lv_iload_n (pc := 86) hx hb dX1_taskToSpeculate_86 rfl (lv_at hl 0 rfl) ?_
            obtain ⟨g19, h⟩ := h
            refine x_ald (pc := 87) C I wC_15 g19 dX1_taskToSpeculate_87 ?_
            exact x_ireti (pc := 88) C I hr hlocks h dX1_taskToSpeculate_88
          · have h := h.1 g18
            refine lv_bipush (pc := 76) (v := (-6)) hx hb dX1_taskToSpeculate_76 (by decide) ?_
            exact x_ireti (pc := 78) C I hr hlocks h dX1_taskToSpeculate_78
      · have h := h.2 g13
        refine lv_bipush (pc := 49) (v := (-6)) hx hb dX1_taskToSpeculate_49 (by decide) ?_
        exact x_ireti (pc := 51) C I hr hlocks h dX1_taskToSpeculate_51
  · have h := h.2 g3
    refine lv_bipush (pc := 17) (v := (-6)) hx hb dX1_taskToSpeculate_17 (by decide) ?_
    exact x_ireti (pc := 19) C I hr hlocks h dX1_taskToSpeculate_19
def V_X1_start (M : xM) (x1 x2 : Int32) (post : xM → Prop) : Prop := (vp_in x1 24 ∧ (((M 12 (x1).toNatClampNeg) ≤ 0 → (V_X0_add M x1 x2 0 (fun M3 => (vp_in x1 24 ∧ (vp_in x1 24 ∧ ∀ M6 : xM, M6 = xu M3 12 (x1).toNatClampNeg ((M3 12 (x1).toNatClampNeg) + 1) → (vp_in x2 8 ∧ (vp_in x2 8 ∧ ∀ M9 : xM, M9 = xu M6 8 (x2).toNatClampNeg ((M6 8 (x2).toNatClampNeg) + 1) → post M9))))))) ∧ (¬ (M 12 (x1).toNatClampNeg) ≤ 0 → (V_X0_add M x1 x2 1 (fun M10 => (vp_in x1 24 ∧ (vp_in x1 24 ∧ ∀ M13 : xM, M13 = xu M10 12 (x1).toNatClampNeg ((M10 12 (x1).toNatClampNeg) + 1) → (vp_in x2 8 ∧ (vp_in x2 8 ∧ ∀ M16 : xM, M16 = xu M13 8 (x2).toNatClampNeg ((M13 8 (x2).toNatClampNeg) + 1) → post M16)))))))))
set_option maxHeartbeats 4000000 in
set_option maxRecDepth 100000 in
theorem m_X1_start {l : Launch} {D : va_G} {cI cZ : ClassId} {a : Nat → Nat} {M : xM} {x1 x2 : Int32} {post : xM → Prop} (h : V_X1_start M x1 x2 post) : xMv l yX1_start cX1_start 3 none { frames := 2, cells := 0, slots := 0, locals := 44 } D cI cZ (wC cI cZ a) M [.ref (a 0), .int x1, .int x2] post := by
  refine x_bodyv (own := RX1) (by decide) rfl (Nat.le_of_ble_eq_true rfl) ?_
  intro p e s m below meth c A ls C hr hlocks hA I hl
  have hx := C.1.1
  have hb := C.1.2.1
  have hl : lv_has ls 3 [(0, .ref (a 0)), (1, .int x1), (2, .int x2)] := hl
  unfold V_X1_start at h
  refine lv_aload_n (pc := 0) hx hb dX1_start_0 rfl (lv_at hl 0 rfl) ?_
  refine x_get (pc := 1) C I wC_0 rfl inlX1 (k := 3) q_2_11 (by decide) rfl rfl dX1_start_1 ?_
  refine lv_iload_n (pc := 4) hx hb dX1_start_4 rfl (lv_at hl 1 rfl) ?_
  refine lv_iload_n (pc := 5) hx hb dX1_start_5 rfl (lv_at hl 2 rfl) ?_
  refine lv_aload_n (pc := 6) hx hb dX1_start_6 rfl (lv_at hl 0 rfl) ?_
  refine x_get (pc := 7) C I wC_0 rfl inlX1 (k := 2) q_2_7 (by decide) rfl rfl dX1_start_7 ?_
  refine x_get (pc := 10) C I wC_3 rfl inlX4 (k := 2) q_7_16 (by decide) rfl rfl dX1_start_10 ?_
  refine lv_iload_n (pc := 13) hx hb dX1_start_13 rfl (lv_at hl 1 rfl) ?_
  obtain ⟨g1, h⟩ := h
  refine x_ald (pc := 14) C I wC_12 g1 dX1_start_14 ?_
  refine lv_if_le (pc := 15) (tgt := 22) hx hb dX1_start_15 (by decide) (fun g2 => ?_) (fun g2 => ?_)
  · have h := h.1 g2
    refine lv_iconst (pc := 22) (v := 0) hx hb dX1_start_22 (by decide) ?_
    refine x_callv (pc := 23) C I hA (m_X0_add h) c_RX1_118 wC_4 rfl ⟨Nat.le_of_ble_eq_true rfl, Nat.le_of_ble_eq_true rfl⟩ ⟨rfl, rfl⟩ ⟨Nat.le_of_ble_eq_true rfl, Nat.le_of_ble_eq_true rfl⟩ (As := [.int x1, .int x2, .int 0]) rfl hl.1 rfl (Nat.le_of_ble_eq_true rfl) dX1_start_23 (fun M3 H locs h I => ?_)
    refine lv_aload_n (pc := 26) hx hb dX1_start_26 rfl (lv_at hl 0 rfl) ?_
    refine x_get (pc := 27) C I wC_0 rfl inlX1 (k := 2) q_2_7 (by decide) rfl rfl dX1_start_27 ?_
    refine x_get (pc := 30) C I wC_3 rfl inlX4 (k := 2) q_7_16 (by decide) rfl rfl dX1_start_30 ?_
    refine lv_iload_n (pc := 33) hx hb dX1_start_33 rfl (lv_at hl 1 rfl) ?_
    refine lv_dup2_11 (pc := 34) hx hb dX1_start_34 rfl rfl ?_
    obtain ⟨g4, h⟩ := h
    refine x_ald (pc := 35) C I wC_12 g4 dX1_start_35 ?_
    refine lv_iconst (pc := 36) (v := 1) hx hb dX1_start_36 (by decide) ?_
    refine lv_iadd (pc := 37) hx hb dX1_start_37 ?_
    obtain ⟨g5, h⟩ := h
    refine x_ast (pc := 38) C I wC_12 g5 sC_12 dX1_start_38 (fun H locs I => ?_)
    obtain ⟨M6, eM6⟩ : ∃ z : xM, z = xu M3 12 (x1).toNatClampNeg ((M3 12 (x1).toNatClampNeg) + 1) := ⟨_, rfl⟩
    have h := h M6 eM6
    rw [← eM6] at I
    refine lv_aload_n (pc := 39) hx hb dX1_start_39 rfl (lv_at hl 0 rfl) ?_
    refine x_get (pc := 40) C I wC_0 rfl inlX1 (k := 1) q_2_3 (by decide) rfl rfl dX1_start_40 ?_
    refine x_get (pc := 43) C I wC_2 rfl inlX2 (k := 4) q_7_18 (by decide) rfl rfl dX1_start_43 ?_
    refine lv_iload_n (pc := 46) hx hb dX1_start_46 rfl (lv_at hl 2 rfl) ?_
    refine lv_dup2_11 (pc := 47) hx hb dX1_start_47 rfl rfl ?_
    obtain ⟨g7, h⟩ := h
    refine x_ald (pc := 48) C I wC_8 g7 dX1_start_48 ?_
    refine lv_iconst (pc := 49) (v := 1) hx hb dX1_start_49 (by decide) ?_
    refine lv_iadd (pc := 50) hx hb dX1_start_50 ?_
    obtain ⟨g8, h⟩ := h
    refine x_ast (pc := 51) C I wC_8 g8 sC_8 dX1_start_51 (fun H locs I => ?_)
    obtain ⟨M9, eM9⟩ : ∃ z : xM, z = xu M6 8 (x2).toNatClampNeg ((M6 8 (x2).toNatClampNeg) + 1) := ⟨_, rfl⟩
    have h := h M9 eM9
    rw [← eM9] at I
    exact x_retv (pc := 52) C I hr hlocks h dX1_start_52
  · have h := h.2 g2
    refine lv_iconst (pc := 18) (v := 1) hx hb dX1_start_18 (by decide) ?_
    refine lv_goto (pc := 19) (tgt := 23) hx hb dX1_start_19 (by decide) ?_
    refine x_callv (pc := 23) C I hA (m_X0_add h) c_RX1_118 wC_4 rfl ⟨Nat.le_of_ble_eq_true rfl, Nat.le_of_ble_eq_true rfl⟩ ⟨rfl, rfl⟩ ⟨Nat.le_of_ble_eq_true rfl, Nat.le_of_ble_eq_true rfl⟩ (As := [.int x1, .int x2, .int 1]) rfl hl.1 rfl (Nat.le_of_ble_eq_true rfl) dX1_start_23 (fun M10 H locs h I => ?_)
    refine lv_aload_n (pc := 26) hx hb dX1_start_26 rfl (lv_at hl 0 rfl) ?_
    refine x_get (pc := 27) C I wC_0 rfl inlX1 (k := 2) q_2_7 (by decide) rfl rfl dX1_start_27 ?_
    refine x_get (pc := 30) C I wC_3 rfl inlX4 (k := 2) q_7_16 (by decide) rfl rfl dX1_start_30 ?_
    refine lv_iload_n (pc := 33) hx hb dX1_start_33 rfl (lv_at hl 1 rfl) ?_
    refine lv_dup2_11 (pc := 34) hx hb dX1_start_34 rfl rfl ?_
    obtain ⟨g11, h⟩ := h
    refine x_ald (pc := 35) C I wC_12 g11 dX1_start_35 ?_
    refine lv_iconst (pc := 36) (v := 1) hx hb dX1_start_36 (by decide) ?_
    refine lv_iadd (pc := 37) hx hb dX1_start_37 ?_
    obtain ⟨g12, h⟩ := h
    refine x_ast (pc := 38) C I wC_12 g12 sC_12 dX1_start_38 (fun H locs I => ?_)
    obtain ⟨M13, eM13⟩ : ∃ z : xM, z = xu M10 12 (x1).toNatClampNeg ((M10 12 (x1).toNatClampNeg) + 1) := ⟨_, rfl⟩
    have h := h M13 eM13
    rw [← eM13] at I
    refine lv_aload_n (pc := 39) hx hb dX1_start_39 rfl (lv_at hl 0 rfl) ?_
    refine x_get (pc := 40) C I wC_0 rfl inlX1 (k := 1) q_2_3 (by decide) rfl rfl dX1_start_40 ?_
    refine x_get (pc := 43) C I wC_2 rfl inlX2 (k := 4) q_7_18 (by decide) rfl rfl dX1_start_43 ?_
    refine lv_iload_n (pc := 46) hx hb dX1_start_46 rfl (lv_at hl 2 rfl) ?_
    refine lv_dup2_11 (pc := 47) hx hb dX1_start_47 rfl rfl ?_
    obtain ⟨g14, h⟩ := h
    refine x_ald (pc := 48) C I wC_8 g14 dX1_start_48 ?_
    refine lv_iconst (pc := 49) (v := 1) hx hb dX1_start_49 (by decide) ?_
    refine lv_iadd (pc := 50) hx hb dX1_start_50 ?_
    obtain ⟨g15, h⟩ := h
    refine x_ast (pc := 51) C I wC_8 g15 sC_8 dX1_start_51 (fun H locs I => ?_)
    obtain ⟨M16, eM16⟩ : ∃ z : xM, z = xu M13 8 (x2).toNatClampNeg ((M13 8 (x2).toNatClampNeg) + 1) := ⟨_, rfl⟩
    have h := h M16 eM16
    rw [← eM16] at I
    exact x_retv (pc := 52) C I hr hlocks h dX1_start_52
def V_X1_startAttempts_L15 (K : xM → Int32 → Prop) : Nat → xM → Int32 → Int32 → Prop
  | 0, _, _, _ => False
  | n + 1, M0, x1, x2 => ((4 ≤ x2 → (K M0 x1)) ∧ (¬ 4 ≤ x2 → (V_X2_hasFreeSlot M0 x1 (fun r4 M3 => ((r4 = 0 → (K M3 x1)) ∧ (¬ r4 = 0 → (V_X0_isFull M3  (fun r7 M6 => ((r7 = 0 → (V_X4_firstWaiting M6  (fun r10 M9 => ((r10 = (-6) → (V_X1_taskToSpeculate M9 x1 (fun r16 M15 => ((r16 = (-6) → (K M15 x1)) ∧ (¬ r16 = (-6) → (V_X1_start M15 r16 x1 (fun M18 => (∀ y19 : Int32, y19 = (x2 + 1) → (V_X1_startAttempts_L15 K n M18 x1 y19))))))))) ∧ (¬ r10 = (-6) → ((r10 = (-6) → (K M9 x1)) ∧ (¬ r10 = (-6) → (V_X1_start M9 r10 x1 (fun M13 => (∀ y14 : Int32, y14 = (x2 + 1) → (V_X1_startAttempts_L15 K n M13 x1 y14))))))))))) ∧ (¬ r7 = 0 → (K M6 x1)))))))))))
def V_X1_startAttempts_L2 (post : xM → Prop) : Nat → xM → Int32 → Prop
  | 0, _, _ => False
  | n + 1, M0, x1 => (((M0 2 0) ≤ x1 → post M0) ∧ (¬ (M0 2 0) ≤ x1 → (∃ n23 : Nat, V_X1_startAttempts_L15 (fun (M20 : xM) (x21 : Int32) => (∀ y22 : Int32, y22 = (x21 + 1) → (V_X1_startAttempts_L2 post n M20 y22))) n23 M0 x1 0)))
def V_X1_startAttempts (M : xM) (post : xM → Prop) : Prop := (∃ n24 : Nat, V_X1_startAttempts_L2 post n24 M 0)
set_option maxHeartbeats 4000000 in
set_option maxRecDepth 100000 in
theorem k_X1_startAttempts_L15 {l : Launch} {D : va_G} {cI cZ : ClassId} {a : Nat → Nat} {p : Program} {e : Env} {s : State} {m : MethodId} {below : List Frame} {meth : Method} {c : Code} {A : Nat → Prop} {args : Array Value} {Q : State → Prop} {K : xM → Int32 → Prop} (C : xC p s m args c cX1_startAttempts 4 RX1 D cI cZ) (hA : ∀ q : Nat, s.heap.size ≤ q → A q) (hK : ∀ (M9 : xM) (z1 : Int32) (H : Heap) (locs : List Loc) (ls : Array Slot), K M9 z1 → xI D (wC cI cZ a M9) A s.heap H locs → lv_has ls 4 [(0, .ref (a 0)), (1, .int z1)] → W p l e { frames := 4, cells := 0, slots := 0, locals := 90 } s m args below meth c H locs 0 0 Q (F0 m 85 ls [])) (n : Nat) : ∀ (M0 : xM) (x1 x2 : Int32) (H : Heap) (locs : List Loc) (ls : Array Slot), V_X1_startAttempts_L15 K n M0 x1 x2 → xI D (wC cI cZ a M0) A s.heap H locs → lv_has ls 4 [(0, .ref (a 0)), (1, .int x1), (2, .int x2)] → W p l e { frames := 4, cells := 0, slots := 0, locals := 90 } s m args below meth c H locs 0 0 Q (F0 m 15 ls []) := by
  have hx := C.1.1
  have hb := C.1.2.1
  induction n with
  | zero =>
    intro M0 x1 x2 H locs ls h I hl
    exact absurd h id
  | succ n ih15 =>
    intro M0 x1 x2 H locs ls h I hl
    rw [V_X1_startAttempts_L15] at h
    refine lv_iload_n (pc := 15) hx hb dX1_startAttempts_15 rfl (lv_at hl 2 rfl) ?_
    refine lv_iconst (pc := 16) (v := 4) hx hb dX1_startAttempts_16 (by decide) ?_
    refine lv_icmp_ge (pc := 17) (tgt := 85) hx hb dX1_startAttempts_17 (by decide) (fun g2 => ?_) (fun g2 => ?_)
    · have h := h.1 g2
      exact hK M0 x1 _ _ _ h I (lv_sub hl [0, 1] rfl)
    · have h := h.2 g2
      refine lv_aload_n (pc := 20) hx hb dX1_startAttempts_20 rfl (lv_at hl 0 rfl) ?_
      refine x_get (pc := 21) C I wC_0 rfl inlX1 (k := 1) q_2_3 (by decide) rfl rfl dX1_startAttempts_21 ?_
      refine lv_iload_n (pc := 24) hx hb dX1_startAttempts_24 rfl (lv_at hl 1 rfl) ?_
      refine x_calli (pc := 25) C I hA (m_X2_hasFreeSlot h) c_RX1_70 wC_2 rfl ⟨Nat.le_of_ble_eq_true rfl, Nat.le_of_ble_eq_true rfl⟩ ⟨rfl, rfl⟩ ⟨Nat.le_of_ble_eq_true rfl, Nat.le_of_ble_eq_true rfl⟩ (As := [.int x1]) rfl hl.1 rfl (Nat.le_of_ble_eq_true rfl) dX1_startAttempts_25 (fun r4 M3 H locs h I => ?_)
      refine lv_if_eq (pc := 28) (tgt := 85) hx hb dX1_startAttempts_28 (by decide) (fun g5 => ?_) (fun g5 => ?_)
      · have h := h.1 g5
        exact hK M3 x1 _ _ _ h I (lv_sub hl [0, 1] rfl)
      · have h := h.2 g5
        refine lv_aload_n (pc := 31) hx hb dX1_startAttempts_31 rfl (lv_at hl 0 rfl) ?_
        refine x_get (pc := 32) C I wC_0 rfl inlX1 (k := 3) q_2_11 (by decide) rfl rfl dX1_startAttempts_32 ?_
        refine x_calli (pc := 35) C I hA (m_X0_isFull h) c_RX1_74 wC_4 rfl ⟨Nat.le_of_ble_eq_true rfl, Nat.le_of_ble_eq_true rfl⟩ ⟨rfl, rfl⟩ ⟨Nat.le_of_ble_eq_true rfl, Nat.le_of_ble_eq_true rfl⟩ (As := []) rfl hl.1 rfl (Nat.le_of_ble_eq_true rfl) dX1_startAttempts_35 (fun r7 M6 H locs h I => ?_)
        refine lv_if_eq (pc := 38) (tgt := 44) hx hb dX1_startAttempts_38 (by decide) (fun g8 => ?_) (fun g8 => ?_)
        · have h := h.1 g8
          refine lv_aload_n (pc := 44) hx hb dX1_startAttempts_44 rfl (lv_at hl 0 rfl) ?_
          refine x_get (pc := 45) C I wC_0 rfl inlX1 (k := 2) q_2_7 (by decide) rfl rfl dX1_startAttempts_45 ?_
          refine x_calli (pc := 48) C I hA (m_X4_firstWaiting h) c_RX1_78 wC_3 rfl ⟨Nat.le_of_ble_eq_true rfl, Nat.le_of_ble_eq_true rfl⟩ ⟨rfl, rfl⟩ ⟨Nat.le_of_ble_eq_true rfl, Nat.le_of_ble_eq_true rfl⟩ (As := []) rfl hl.1 rfl (Nat.le_of_ble_eq_true rfl) dX1_startAttempts_48 (fun r10 M9 H locs h I => ?_)
          refine lv_istore_n (pc := 51) (lv' := [(3, .int r10), (0, .ref (a 0)), (1, .int x1), (2, .int x2)]) hx hb dX1_startAttempts_51 rfl hl (by decide) rfl (fun ls hl => ?_)
          refine lv_iload_n (pc := 52) hx hb dX1_startAttempts_52 rfl (lv_at hl 0 rfl) ?_
          refine lv_bipush (pc := 53) (v := (-6)) hx hb dX1_startAttempts_53 (by decide) ?_
          refine lv_icmp_ne (pc := 55) (tgt := 64) hx hb dX1_startAttempts_55 (by decide) (fun g11 => ?_) (fun g11 => ?_)
          · have h := h.2 g11
            refine lv_iload_n (pc := 64) hx hb dX1_startAttempts_64 rfl (lv_at hl 0 rfl) ?_
            refine lv_bipush (pc := 65) (v := (-6)) hx hb dX1_startAttempts_65 (by decide) ?_
            refine lv_icmp_ne (pc := 67) (tgt := 73) hx hb dX1_startAttempts_67 (by decide) (fun g12 => ?_) (fun g12 => ?_)
            · have h := h.2 g12
              refine lv_aload_n (pc := 73) hx hb dX1_startAttempts_73 rfl (lv_at hl 1 rfl) ?_
              refine lv_iload_n (pc := 74) hx hb dX1_startAttempts_74 rfl (lv_at hl 0 rfl) ?_
              refine lv_iload_n (pc := 75) hx hb dX1_startAttempts_75 rfl (lv_at hl 2 rfl) ?_
              refine x_callv (pc := 76) C I hA (m_X1_start h) c_RX1_85 wC_0 rfl ⟨Nat.le_of_ble_eq_true rfl, Nat.le_of_ble_eq_true rfl⟩ ⟨rfl, rfl⟩ ⟨Nat.le_of_ble_eq_true rfl, Nat.le_of_ble_eq_true rfl⟩ (As := [.int r10, .int x1]) rfl hl.1 rfl (Nat.le_of_ble_eq_true rfl) dX1_startAttempts_76 (fun M13 H locs h I => ?_)
              obtain ⟨y14, ey14⟩ : ∃ y : Int32, y = (x2 + 1) := ⟨_, rfl⟩
              have h := h y14 ey14
              refine lv_iinc (pc := 79) (v := y14) (lv' := [(2, .int y14), (3, .int r10), (0, .ref (a 0)), (1, .int x1)]) hx hb dX1_startAttempts_79 hl (k := 3) rfl (by rw [ey14]; rfl) (by decide) rfl (fun ls hl => ?_)
              refine lv_goto (pc := 82) (tgt := 15) hx hb dX1_startAttempts_82 (by decide) ?_
              exact ih15 M13 x1 y14 _ _ _ h I (lv_sub hl [2, 3, 0] rfl)
            · have h := h.1 g12
              refine lv_goto (pc := 70) (tgt := 85) hx hb dX1_startAttempts_70 (by decide) ?_
              exact hK M9 x1 _ _ _ h I (lv_sub hl [1, 2] rfl)
          · have h := h.1 g11
            refine lv_aload_n (pc := 58) hx hb dX1_startAttempts_58 rfl (lv_at hl 1 rfl) ?_
            refine lv_iload_n (pc := 59) hx hb dX1_startAttempts_59 rfl (lv_at hl 2 rfl) ?_
            refine x_calli (pc := 60) C I hA (m_X1_taskToSpeculate h) c_RX1_81 wC_0 rfl ⟨Nat.le_of_ble_eq_true rfl, Nat.le_of_ble_eq_true rfl⟩ ⟨rfl, rfl⟩ ⟨Nat.le_of_ble_eq_true rfl, Nat.le_of_ble_eq_true rfl⟩ (As := [.int x1]) rfl hl.1 rfl (Nat.le_of_ble_eq_true rfl) dX1_startAttempts_60 (fun r16 M15 H locs h I => ?_)
            refine lv_istore_n (pc := 63) (lv' := [(3, .int r16), (0, .ref (a 0)), (1, .int x1), (2, .int x2)]) hx hb dX1_startAttempts_63 rfl hl (by decide) rfl (fun ls hl => ?_)
            refine lv_iload_n (pc := 64) hx hb dX1_startAttempts_64 rfl (lv_at hl 0 rfl) ?_
            refine lv_bipush (pc := 65) (v := (-6)) hx hb dX1_startAttempts_65 (by decide) ?_
            refine lv_icmp_ne (pc := 67) (tgt := 73) hx hb dX1_startAttempts_67 (by decide) (fun g17 => ?_) (fun g17 => ?_)
            · have h := h.2 g17
              refine lv_aload_n (pc := 73) hx hb dX1_startAttempts_73 rfl (lv_at hl 1 rfl) ?_
              refine lv_iload_n (pc := 74) hx hb dX1_startAttempts_74 rfl (lv_at hl 0 rfl) ?_
              refine lv_iload_n (pc := 75) hx hb dX1_startAttempts_75 rfl (lv_at hl 2 rfl) ?_
              refine x_callv (pc := 76) C I hA (m_X1_start h) c_RX1_85 wC_0 rfl ⟨Nat.le_of_ble_eq_true rfl, Nat.le_of_ble_eq_true rfl⟩ ⟨rfl, rfl⟩ ⟨Nat.le_of_ble_eq_true rfl, Nat.le_of_ble_eq_true rfl⟩ (As := [.int r16, .int x1]) rfl hl.1 rfl (Nat.le_of_ble_eq_true rfl) dX1_startAttempts_76 (fun M18 H locs h I => ?_)
              obtain ⟨y19, ey19⟩ : ∃ y : Int32, y = (x2 + 1) := ⟨_, rfl⟩
              have h := h y19 ey19
              refine lv_iinc (pc := 79) (v := y19) (lv' := [(2, .int y19), (3, .int r16), (0, .ref (a 0)), (1, .int x1)]) hx hb dX1_startAttempts_79 hl (k := 3) rfl (by rw [ey19]; rfl) (by decide) rfl (fun ls hl => ?_)
              refine lv_goto (pc := 82) (tgt := 15) hx hb dX1_startAttempts_82 (by decide) ?_
              exact ih15 M18 x1 y19 _ _ _ h I (lv_sub hl [2, 3, 0] rfl)
            · have h := h.1 g17
              refine lv_goto (pc := 70) (tgt := 85) hx hb dX1_startAttempts_70 (by decide) ?_
              exact hK M15 x1 _ _ _ h I (lv_sub hl [1, 2] rfl)
        · have h := h.2 g8
          refine lv_goto (pc := 41) (tgt := 85) hx hb dX1_startAttempts_41 (by decide) ?_
          exact hK M6 x1 _ _ _ h I (lv_sub hl [0, 1] rfl)
set_option maxHeartbeats 4000000 in
set_option maxRecDepth 100000 in
theorem k_X1_startAttempts_L2 {l : Launch} {D : va_G} {cI cZ : ClassId} {a : Nat → Nat} {p : Program} {e : Env} {s : State} {m : MethodId} {below : List Frame} {meth : Method} {c : Code} {A : Nat → Prop} {args : Array Value} {post : xM → Prop} (C : xC p s m args c cX1_startAttempts 4 RX1 D cI cZ) (hr : meth.sig.returnType = none) (hlocks : meth.locks = false) (hA : ∀ q : Nat, s.heap.size ≤ q → A q) (n : Nat) : ∀ (M0 : xM) (x1 : Int32) (H : Heap) (locs : List Loc) (ls : Array Slot), V_X1_startAttempts_L2 post n M0 x1 → xI D (wC cI cZ a M0) A s.heap H locs → lv_has ls 4 [(0, .ref (a 0)), (1, .int x1)] → W p l e { frames := 4, cells := 0, slots := 0, locals := 90 } s m args below meth c H locs 0 0 (MQ below (va_Qv post (xPost D cI cZ A (wC cI cZ a)) A) args s 0 0 A) (F0 m 2 ls []) := by
  have hx := C.1.1
  have hb := C.1.2.1
  induction n with
  | zero =>
    intro M0 x1 H locs ls h I hl
    exact absurd h id
  | succ n ih2 =>
    intro M0 x1 H locs ls h I hl
    rw [V_X1_startAttempts_L2] at h
    refine lv_iload_n (pc := 2) hx hb dX1_startAttempts_2 rfl (lv_at hl 1 rfl) ?_
    refine lv_aload_n (pc := 3) hx hb dX1_startAttempts_3 rfl (lv_at hl 0 rfl) ?_
    refine x_get (pc := 4) C I wC_0 rfl inlX1 (k := 1) q_2_3 (by decide) rfl rfl dX1_startAttempts_4 ?_
    refine x_get (pc := 7) C I wC_2 rfl inlX2 (k := 0) q_11_3 (by decide) rfl rfl dX1_startAttempts_7 ?_
    refine lv_icmp_ge (pc := 10) (tgt := 91) hx hb dX1_startAttempts_10 (by decide) (fun g1 => ?_) (fun g1 => ?_)
    · have h := h.1 g1
      exact x_retv (pc := 91) C I hr hlocks h dX1_startAttempts_91
    · have h := h.2 g1
      refine lv_iconst (pc := 13) (v := 0) hx hb dX1_startAttempts_13 (by decide) ?_
      refine lv_istore_n (pc := 14) (lv' := [(2, .int 0), (0, .ref (a 0)), (1, .int x1)]) hx hb dX1_startAttempts_14 rfl hl (by decide) rfl (fun ls hl => ?_)
      obtain ⟨n23, h⟩ := h
      refine k_X1_startAttempts_L15 C hA ?_ n23 M0 x1 0 _ _ _ h I (lv_sub hl [1, 2, 0] rfl)
      intro M20 x21 H locs ls h I hl
      obtain ⟨y22, ey22⟩ : ∃ y : Int32, y = (x21 + 1) := ⟨_, rfl⟩
      have h := h y22 ey22
      refine lv_iinc (pc := 85) (v := y22) (lv' := [(1, .int y22), (0, .ref (a 0))]) hx hb dX1_startAttempts_85 hl (k := 1) rfl (by rw [ey22]; rfl) (by decide) rfl (fun ls hl => ?_)
      refine lv_goto (pc := 88) (tgt := 2) hx hb dX1_startAttempts_88 (by decide) ?_
      exact ih2 M20 y22 _ _ _ h I (lv_sub hl [1, 0] rfl)
set_option maxHeartbeats 4000000 in
set_option maxRecDepth 100000 in
theorem m_X1_startAttempts {l : Launch} {D : va_G} {cI cZ : ClassId} {a : Nat → Nat} {M : xM} {post : xM → Prop} (h : V_X1_startAttempts M post) : xMv l yX1_startAttempts cX1_startAttempts 4 none { frames := 4, cells := 0, slots := 0, locals := 90 } D cI cZ (wC cI cZ a) M [.ref (a 0)] post := by
  refine x_bodyv (own := RX1) (by decide) rfl (Nat.le_of_ble_eq_true rfl) ?_
  intro p e s m below meth c A ls C hr hlocks hA I hl
  have hx := C.1.1
  have hb := C.1.2.1
  have hl : lv_has ls 4 [(0, .ref (a 0))] := hl
  unfold V_X1_startAttempts at h
  refine lv_iconst (pc := 0) (v := 0) hx hb dX1_startAttempts_0 (by decide) ?_
  refine lv_istore_n (pc := 1) (lv' := [(1, .int 0), (0, .ref (a 0))]) hx hb dX1_startAttempts_1 rfl hl (by decide) rfl (fun ls hl => ?_)
  obtain ⟨n24, h⟩ := h
  exact k_X1_startAttempts_L2 C hr hlocks hA n24 M 0 _ _ _ h I (lv_sub hl [1, 0] rfl)
def V_X1_doWork_L2 (post : xM → Prop) : Nat → xM → Int32 → Prop
  | 0, _, _ => False
  | n + 1, M0, x1 => (((M0 4 10) ≤ x1 → post M0) ∧ (¬ (M0 4 10) ≤ x1 → (vp_in x1 32 ∧ (∀ y3 : Int32, y3 = (M0 23 (x1).toNatClampNeg) → (vp_in y3 200 ∧ (∀ y5 : Int32, y5 = (M0 16 (y3).toNatClampNeg) → (vp_in y5 8 ∧ (vp_in y3 200 ∧ (vp_in (M0 15 (y3).toNatClampNeg) 24 ∧ (V_X0_grow M0 y3 (M0 5 (y5).toNatClampNeg) (M0 11 ((M0 15 (y3).toNatClampNeg)).toNatClampNeg) (fun M9 => (vp_in y5 8 ∧ (vp_in y5 8 ∧ ∀ M12 : xM, M12 = xu M9 10 (y5).toNatClampNeg ((M9 10 (y5).toNatClampNeg) + 1) → (vp_in y5 8 ∧ (vp_in y5 8 ∧ (vp_in y5 8 ∧ ∀ M16 : xM, M16 = xu M12 9 (y5).toNatClampNeg ((M12 9 (y5).toNatClampNeg) + (M12 5 (y5).toNatClampNeg)) → (∀ y17 : Int32, y17 = (x1 + 1) → (V_X1_doWork_L2 post n M16 y17))))))))))))))))))
def V_X1_doWork (M : xM) (post : xM → Prop) : Prop := (∃ n18 : Nat, V_X1_doWork_L2 post n18 M 0)
set_option maxHeartbeats 4000000 in
set_option maxRecDepth 100000 in
theorem k_X1_doWork_L2 {l : Launch} {D : va_G} {cI cZ : ClassId} {a : Nat → Nat} {p : Program} {e : Env} {s : State} {m : MethodId} {below : List Frame} {meth : Method} {c : Code} {A : Nat → Prop} {args : Array Value} {post : xM → Prop} (C : xC p s m args c cX1_doWork 4 RX1 D cI cZ) (hr : meth.sig.returnType = none) (hlocks : meth.locks = false) (hA : ∀ q : Nat, s.heap.size ≤ q → A q) (n : Nat) : ∀ (M0 : xM) (x1 : Int32) (H : Heap) (locs : List Loc) (ls : Array Slot), V_X1_doWork_L2 post n M0 x1 → xI D (wC cI cZ a M0) A s.heap H locs → lv_has ls 4 [(0, .ref (a 0)), (1, .int x1)] → W p l e { frames := 2, cells := 0, slots := 0, locals := 45 } s m args below meth c H locs 0 0 (MQ below (va_Qv post (xPost D cI cZ A (wC cI cZ a)) A) args s 0 0 A) (F0 m 2 ls []) := by
  have hx := C.1.1
  have hb := C.1.2.1
  induction n with
  | zero =>
    intro M0 x1 H locs ls h I hl
    exact absurd h id
  | succ n ih2 =>
    intro M0 x1 H locs ls h I hl
    rw [V_X1_doWork_L2] at h
    refine lv_iload_n (pc := 2) hx hb dX1_doWork_2 rfl (lv_at hl 1 rfl) ?_
    refine lv_aload_n (pc := 3) hx hb dX1_doWork_3 rfl (lv_at hl 0 rfl) ?_
    refine x_get (pc := 4) C I wC_0 rfl inlX1 (k := 3) q_2_11 (by decide) rfl rfl dX1_doWork_4 ?_
    refine x_get (pc := 7) C I wC_4 rfl inlX0 (k := 10) q_7_8 (by decide) rfl rfl dX1_doWork_7 ?_
    refine lv_icmp_ge (pc := 10) (tgt := 107) hx hb dX1_doWork_10 (by decide) (fun g1 => ?_) (fun g1 => ?_)
    · have h := h.1 g1
      exact x_retv (pc := 107) C I hr hlocks h dX1_doWork_107
    · have h := h.2 g1
      refine lv_aload_n (pc := 13) hx hb dX1_doWork_13 rfl (lv_at hl 0 rfl) ?_
      refine x_get (pc := 14) C I wC_0 rfl inlX1 (k := 3) q_2_11 (by decide) rfl rfl dX1_doWork_14 ?_
      refine x_get (pc := 17) C I wC_4 rfl inlX0 (k := 9) q_7_9 (by decide) rfl rfl dX1_doWork_17 ?_
      refine lv_iload_n (pc := 20) hx hb dX1_doWork_20 rfl (lv_at hl 1 rfl) ?_
      obtain ⟨g2, h⟩ := h
      refine x_ald (pc := 21) C I wC_23 g2 dX1_doWork_21 ?_
      refine lv_topi (fun y3 ey3 => ?_)
      have h := h y3 ey3
      refine lv_istore_n (pc := 22) (lv' := [(2, .int y3), (0, .ref (a 0)), (1, .int x1)]) hx hb dX1_doWork_22 rfl hl (by decide) rfl (fun ls hl => ?_)
      refine lv_aload_n (pc := 23) hx hb dX1_doWork_23 rfl (lv_at hl 1 rfl) ?_
      refine x_get (pc := 24) C I wC_0 rfl inlX1 (k := 3) q_2_11 (by decide) rfl rfl dX1_doWork_24 ?_
      refine x_get (pc := 27) C I wC_4 rfl inlX0 (k := 2) q_7_10 (by decide) rfl rfl dX1_doWork_27 ?_
      refine lv_iload_n (pc := 30) hx hb dX1_doWork_30 rfl (lv_at hl 0 rfl) ?_
      obtain ⟨g4, h⟩ := h
      refine x_ald (pc := 31) C I wC_16 g4 dX1_doWork_31 ?_
      refine lv_topi (fun y5 ey5 => ?_)
      have h := h y5 ey5
      refine lv_istore_n (pc := 32) (lv' := [(3, .int y5), (2, .int y3), (0, .ref (a 0)), (1, .int x1)]) hx hb dX1_doWork_32 rfl hl (by decide) rfl (fun ls hl => ?_)
      refine lv_aload_n (pc := 33) hx hb dX1_doWork_33 rfl (lv_at hl 2 rfl) ?_
      refine x_get (pc := 34) C I wC_0 rfl inlX1 (k := 3) q_2_11 (by decide) rfl rfl dX1_doWork_34 ?_
      refine lv_iload_n (pc := 37) hx hb dX1_doWork_37 rfl (lv_at hl 1 rfl) ?_
      refine lv_aload_n (pc := 38) hx hb dX1_doWork_38 rfl (lv_at hl 2 rfl) ?_
      refine x_get (pc := 39) C I wC_0 rfl inlX1 (k := 1) q_2_3 (by decide) rfl rfl dX1_doWork_39 ?_
      refine x_get (pc := 42) C I wC_2 rfl inlX2 (k := 1) q_14_14 (by decide) rfl rfl dX1_doWork_42 ?_
      refine lv_iload_n (pc := 45) hx hb dX1_doWork_45 rfl (lv_at hl 0 rfl) ?_
      obtain ⟨g6, h⟩ := h
      refine x_ald (pc := 46) C I wC_5 g6 dX1_doWork_46 ?_
      refine lv_aload_n (pc := 47) hx hb dX1_doWork_47 rfl (lv_at hl 2 rfl) ?_
      refine x_get (pc := 48) C I wC_0 rfl inlX1 (k := 2) q_2_7 (by decide) rfl rfl dX1_doWork_48 ?_
      refine x_get (pc := 51) C I wC_3 rfl inlX4 (k := 1) q_14_15 (by decide) rfl rfl dX1_doWork_51 ?_
      refine lv_aload_n (pc := 54) hx hb dX1_doWork_54 rfl (lv_at hl 2 rfl) ?_
      refine x_get (pc := 55) C I wC_0 rfl inlX1 (k := 3) q_2_11 (by decide) rfl rfl dX1_doWork_55 ?_
      refine x_get (pc := 58) C I wC_4 rfl inlX0 (k := 1) q_7_17 (by decide) rfl rfl dX1_doWork_58 ?_
      refine lv_iload_n (pc := 61) hx hb dX1_doWork_61 rfl (lv_at hl 1 rfl) ?_
      obtain ⟨g7, h⟩ := h
      refine x_ald (pc := 62) C I wC_15 g7 dX1_doWork_62 ?_
      obtain ⟨g8, h⟩ := h
      refine x_ald (pc := 63) C I wC_11 g8 dX1_doWork_63 ?_
      refine x_callv (pc := 64) C I hA (m_X0_grow h) c_RX1_137 wC_4 rfl ⟨Nat.le_of_ble_eq_true rfl, Nat.le_of_ble_eq_true rfl⟩ ⟨rfl, rfl⟩ ⟨Nat.le_of_ble_eq_true rfl, Nat.le_of_ble_eq_true rfl⟩ (As := [.int y3, .int (M0 5 (y5).toNatClampNeg), .int (M0 11 ((M0 15 (y3).toNatClampNeg)).toNatClampNeg)]) rfl hl.1 rfl (Nat.le_of_ble_eq_true rfl) dX1_doWork_64 (fun M9 H locs h I => ?_)
      refine lv_aload_n (pc := 67) hx hb dX1_doWork_67 rfl (lv_at hl 2 rfl) ?_
      refine x_get (pc := 68) C I wC_0 rfl inlX1 (k := 1) q_2_3 (by decide) rfl rfl dX1_doWork_68 ?_
      refine x_get (pc := 71) C I wC_2 rfl inlX2 (k := 6) q_14_16 (by decide) rfl rfl dX1_doWork_71 ?_
      refine lv_iload_n (pc := 74) hx hb dX1_doWork_74 rfl (lv_at hl 0 rfl) ?_
      refine lv_dup2_11 (pc := 75) hx hb dX1_doWork_75 rfl rfl ?_
      obtain ⟨g10, h⟩ := h
      refine x_ald (pc := 76) C I wC_10 g10 dX1_doWork_76 ?_
      refine lv_iconst (pc := 77) (v := 1) hx hb dX1_doWork_77 (by decide) ?_
      refine lv_iadd (pc := 78) hx hb dX1_doWork_78 ?_
      obtain ⟨g11, h⟩ := h
      refine x_ast (pc := 79) C I wC_10 g11 sC_10 dX1_doWork_79 (fun H locs I => ?_)
      obtain ⟨M12, eM12⟩ : ∃ z : xM, z = xu M9 10 (y5).toNatClampNeg ((M9 10 (y5).toNatClampNeg) + 1) := ⟨_, rfl⟩
      have h := h M12 eM12
      rw [← eM12] at I
      refine lv_aload_n (pc := 80) hx hb dX1_doWork_80 rfl (lv_at hl 2 rfl) ?_
      refine x_get (pc := 81) C I wC_0 rfl inlX1 (k := 1) q_2_3 (by decide) rfl rfl dX1_doWork_81 ?_
      refine x_get (pc := 84) C I wC_2 rfl inlX2 (k := 5) q_14_17 (by decide) rfl rfl dX1_doWork_84 ?_
      refine lv_iload_n (pc := 87) hx hb dX1_doWork_87 rfl (lv_at hl 0 rfl) ?_
      refine lv_dup2_11 (pc := 88) hx hb dX1_doWork_88 rfl rfl ?_
      obtain ⟨g13, h⟩ := h
      refine x_ald (pc := 89) C I wC_9 g13 dX1_doWork_89 ?_
      refine lv_aload_n (pc := 90) hx hb dX1_doWork_90 rfl (lv_at hl 2 rfl) ?_
      refine x_get (pc := 91) C I wC_0 rfl inlX1 (k := 1) q_2_3 (by decide) rfl rfl dX1_doWork_91 ?_
      refine x_get (pc := 94) C I wC_2 rfl inlX2 (k := 1) q_14_14 (by decide) rfl rfl dX1_doWork_94 ?_
      refine lv_iload_n (pc := 97) hx hb dX1_doWork_97 rfl (lv_at hl 0 rfl) ?_
      obtain ⟨g14, h⟩ := h
      refine x_ald (pc := 98) C I wC_5 g14 dX1_doWork_98 ?_
      refine lv_iadd (pc := 99) hx hb dX1_doWork_99 ?_
      obtain ⟨g15, h⟩ := h
      refine x_ast (pc := 100) C I wC_9 g15 sC_9 dX1_doWork_100 (fun H locs I => ?_)
      obtain ⟨M16, eM16⟩ : ∃ z : xM, z = xu M12 9 (y5).toNatClampNeg ((M12 9 (y5).toNatClampNeg) + (M12 5 (y5).toNatClampNeg)) := ⟨_, rfl⟩
      have h := h M16 eM16
      rw [← eM16] at I
      obtain ⟨y17, ey17⟩ : ∃ y : Int32, y = (x1 + 1) := ⟨_, rfl⟩
      have h := h y17 ey17
      refine lv_iinc (pc := 101) (v := y17) (lv' := [(1, .int y17), (3, .int y5), (2, .int y3), (0, .ref (a 0))]) hx hb dX1_doWork_101 hl (k := 3) rfl (by rw [ey17]; rfl) (by decide) rfl (fun ls hl => ?_)
      refine lv_goto (pc := 104) (tgt := 2) hx hb dX1_doWork_104 (by decide) ?_
      exact ih2 M16 y17 _ _ _ h I (lv_sub hl [3, 0] rfl)
set_option maxHeartbeats 4000000 in
set_option maxRecDepth 100000 in
theorem m_X1_doWork {l : Launch} {D : va_G} {cI cZ : ClassId} {a : Nat → Nat} {M : xM} {post : xM → Prop} (h : V_X1_doWork M post) : xMv l yX1_doWork cX1_doWork 4 none { frames := 2, cells := 0, slots := 0, locals := 45 } D cI cZ (wC cI cZ a) M [.ref (a 0)] post := by
  refine x_bodyv (own := RX1) (by decide) rfl (Nat.le_of_ble_eq_true rfl) ?_
  intro p e s m below meth c A ls C hr hlocks hA I hl
  have hx := C.1.1
  have hb := C.1.2.1
  have hl : lv_has ls 4 [(0, .ref (a 0))] := hl
  unfold V_X1_doWork at h
  refine lv_iconst (pc := 0) (v := 0) hx hb dX1_doWork_0 (by decide) ?_
  refine lv_istore_n (pc := 1) (lv' := [(1, .int 0), (0, .ref (a 0))]) hx hb dX1_doWork_1 rfl hl (by decide) rfl (fun ls hl => ?_)
  obtain ⟨n18, h⟩ := h
  exact k_X1_doWork_L2 C hr hlocks hA n18 M 0 _ _ _ h I (lv_sub hl [1, 0] rfl)
def V_X1_commit_L33 (post : xM → Prop) : Nat → xM → Int32 → Int32 → Prop
  | 0, _, _, _ => False
  | n + 1, M0, x2, x3 => (((M0 4 10) ≤ x3 → post M0) ∧ (¬ (M0 4 10) ≤ x3 → (vp_in x3 32 ∧ (∀ y8 : Int32, y8 = (M0 23 (x3).toNatClampNeg) → (vp_in y8 200 ∧ (((M0 15 (y8).toNatClampNeg) = x2 → (vp_in y8 200 ∧ (((M0 17 (y8).toNatClampNeg) = 1 → (V_X1_end M0 y8 3 (fun M15 => (∀ y16 : Int32, y16 = (x3 + 1) → (V_X1_commit_L33 post n M15 x2 y16))))) ∧ (¬ (M0 17 (y8).toNatClampNeg) = 1 → (∀ y14 : Int32, y14 = (x3 + 1) → (V_X1_commit_L33 post n M0 x2 y14)))))) ∧ (¬ (M0 15 (y8).toNatClampNeg) = x2 → (∀ y11 : Int32, y11 = (x3 + 1) → (V_X1_commit_L33 post n M0 x2 y11)))))))))
def V_X1_commit (M : xM) (x1 x2 : Int32) (post : xM → Prop) : Prop := (V_X1_end M x1 2 (fun M1 => (vp_in x2 24 ∧ ∀ M3 : xM, M3 = xu M1 13 (x2).toNatClampNeg x1 → (vp_in x2 24 ∧ ∀ M5 : xM, M5 = xu M3 14 (x2).toNatClampNeg ((M3 0 4) + 1) → (∃ n17 : Nat, V_X1_commit_L33 post n17 M5 x2 0)))))
set_option maxHeartbeats 4000000 in
set_option maxRecDepth 100000 in
theorem k_X1_commit_L33 {l : Launch} {D : va_G} {cI cZ : ClassId} {a : Nat → Nat} {p : Program} {e : Env} {s : State} {m : MethodId} {below : List Frame} {meth : Method} {c : Code} {A : Nat → Prop} {args : Array Value} {post : xM → Prop} (C : xC p s m args c cX1_commit 5 RX1 D cI cZ) (hr : meth.sig.returnType = none) (hlocks : meth.locks = false) (hA : ∀ q : Nat, s.heap.size ≤ q → A q) (n : Nat) : ∀ (M0 : xM) (x2 x3 : Int32) (H : Heap) (locs : List Loc) (ls : Array Slot), V_X1_commit_L33 post n M0 x2 x3 → xI D (wC cI cZ a M0) A s.heap H locs → lv_has ls 5 [(0, .ref (a 0)), (2, .int x2), (3, .int x3)] → W p l e { frames := 1, cells := 0, slots := 0, locals := 22 } s m args below meth c H locs 0 0 (MQ below (va_Qv post (xPost D cI cZ A (wC cI cZ a)) A) args s 0 0 A) (F0 m 33 ls []) := by
  have hx := C.1.1
  have hb := C.1.2.1
  induction n with
  | zero =>
    intro M0 x2 x3 H locs ls h I hl
    exact absurd h id
  | succ n ih33 =>
    intro M0 x2 x3 H locs ls h I hl
    rw [V_X1_commit_L33] at h
    refine lv_iload_n (pc := 33) hx hb dX1_commit_33 rfl (lv_at hl 2 rfl) ?_
    refine lv_aload_n (pc := 34) hx hb dX1_commit_34 rfl (lv_at hl 0 rfl) ?_
    refine x_get (pc := 35) C I wC_0 rfl inlX1 (k := 3) q_2_11 (by decide) rfl rfl dX1_commit_35 ?_
    refine x_get (pc := 38) C I wC_4 rfl inlX0 (k := 10) q_7_8 (by decide) rfl rfl dX1_commit_38 ?_
    refine lv_icmp_ge (pc := 41) (tgt := 96) hx hb dX1_commit_41 (by decide) (fun g6 => ?_) (fun g6 => ?_)
    · have h := h.1 g6
      exact x_retv (pc := 96) C I hr hlocks h dX1_commit_96
    · have h := h.2 g6
      refine lv_aload_n (pc := 44) hx hb dX1_commit_44 rfl (lv_at hl 0 rfl) ?_
      refine x_get (pc := 45) C I wC_0 rfl inlX1 (k := 3) q_2_11 (by decide) rfl rfl dX1_commit_45 ?_
      refine x_get (pc := 48) C I wC_4 rfl inlX0 (k := 9) q_7_9 (by decide) rfl rfl dX1_commit_48 ?_
      refine lv_iload_n (pc := 51) hx hb dX1_commit_51 rfl (lv_at hl 2 rfl) ?_
      obtain ⟨g7, h⟩ := h
      refine x_ald (pc := 52) C I wC_23 g7 dX1_commit_52 ?_
      refine lv_topi (fun y8 ey8 => ?_)
      have h := h y8 ey8
      refine lv_istore (pc := 53) (lv' := [(4, .int y8), (0, .ref (a 0)), (2, .int x2), (3, .int x3)]) hx hb dX1_commit_53 hl (by decide) rfl (fun ls hl => ?_)
      refine lv_aload_n (pc := 55) hx hb dX1_commit_55 rfl (lv_at hl 1 rfl) ?_
      refine x_get (pc := 56) C I wC_0 rfl inlX1 (k := 3) q_2_11 (by decide) rfl rfl dX1_commit_56 ?_
      refine x_get (pc := 59) C I wC_4 rfl inlX0 (k := 1) q_7_17 (by decide) rfl rfl dX1_commit_59 ?_
      refine lv_iload (pc := 62) hx hb dX1_commit_62 (lv_at hl 0 rfl) ?_
      obtain ⟨g9, h⟩ := h
      refine x_ald (pc := 64) C I wC_15 g9 dX1_commit_64 ?_
      refine lv_iload_n (pc := 65) hx hb dX1_commit_65 rfl (lv_at hl 2 rfl) ?_
      refine lv_icmp_ne (pc := 66) (tgt := 90) hx hb dX1_commit_66 (by decide) (fun g10 => ?_) (fun g10 => ?_)
      · have h := h.2 g10
        obtain ⟨y11, ey11⟩ : ∃ y : Int32, y = (x3 + 1) := ⟨_, rfl⟩
        have h := h y11 ey11
        refine lv_iinc (pc := 90) (v := y11) (lv' := [(3, .int y11), (4, .int y8), (0, .ref (a 0)), (2, .int x2)]) hx hb dX1_commit_90 hl (k := 3) rfl (by rw [ey11]; rfl) (by decide) rfl (fun ls hl => ?_)
        refine lv_goto (pc := 93) (tgt := 33) hx hb dX1_commit_93 (by decide) ?_
        exact ih33 M0 x2 y11 _ _ _ h I (lv_sub hl [2, 3, 0] rfl)
      · have h := h.1 g10
        refine lv_aload_n (pc := 69) hx hb dX1_commit_69 rfl (lv_at hl 1 rfl) ?_
        refine x_get (pc := 70) C I wC_0 rfl inlX1 (k := 3) q_2_11 (by decide) rfl rfl dX1_commit_70 ?_
        refine x_get (pc := 73) C I wC_4 rfl inlX0 (k := 3) q_7_15 (by decide) rfl rfl dX1_commit_73 ?_
        refine lv_iload (pc := 76) hx hb dX1_commit_76 (lv_at hl 0 rfl) ?_
        obtain ⟨g12, h⟩ := h
        refine x_ald (pc := 78) C I wC_17 g12 dX1_commit_78 ?_
        refine lv_iconst (pc := 79) (v := 1) hx hb dX1_commit_79 (by decide) ?_
        refine lv_icmp_ne (pc := 80) (tgt := 90) hx hb dX1_commit_80 (by decide) (fun g13 => ?_) (fun g13 => ?_)
        · have h := h.2 g13
          obtain ⟨y14, ey14⟩ : ∃ y : Int32, y = (x3 + 1) := ⟨_, rfl⟩
          have h := h y14 ey14
          refine lv_iinc (pc := 90) (v := y14) (lv' := [(3, .int y14), (4, .int y8), (0, .ref (a 0)), (2, .int x2)]) hx hb dX1_commit_90 hl (k := 3) rfl (by rw [ey14]; rfl) (by decide) rfl (fun ls hl => ?_)
          refine lv_goto (pc := 93) (tgt := 33) hx hb dX1_commit_93 (by decide) ?_
          exact ih33 M0 x2 y14 _ _ _ h I (lv_sub hl [2, 3, 0] rfl)
        · have h := h.1 g13
          refine lv_aload_n (pc := 83) hx hb dX1_commit_83 rfl (lv_at hl 1 rfl) ?_
          refine lv_iload (pc := 84) hx hb dX1_commit_84 (lv_at hl 0 rfl) ?_
          refine lv_iconst (pc := 86) (v := 3) hx hb dX1_commit_86 (by decide) ?_
          refine x_callv (pc := 87) C I hA (m_X1_end h) c_RX1_159 wC_0 rfl ⟨Nat.le_of_ble_eq_true rfl, Nat.le_of_ble_eq_true rfl⟩ ⟨rfl, rfl⟩ ⟨Nat.le_of_ble_eq_true rfl, Nat.le_of_ble_eq_true rfl⟩ (As := [.int y8, .int 3]) rfl hl.1 rfl (Nat.le_of_ble_eq_true rfl) dX1_commit_87 (fun M15 H locs h I => ?_)
          obtain ⟨y16, ey16⟩ : ∃ y : Int32, y = (x3 + 1) := ⟨_, rfl⟩
          have h := h y16 ey16
          refine lv_iinc (pc := 90) (v := y16) (lv' := [(3, .int y16), (4, .int y8), (0, .ref (a 0)), (2, .int x2)]) hx hb dX1_commit_90 hl (k := 3) rfl (by rw [ey16]; rfl) (by decide) rfl (fun ls hl => ?_)
          refine lv_goto (pc := 93) (tgt := 33) hx hb dX1_commit_93 (by decide) ?_
          exact ih33 M15 x2 y16 _ _ _ h I (lv_sub hl [2, 3, 0] rfl)
set_option maxHeartbeats 4000000 in
set_option maxRecDepth 100000 in
theorem m_X1_commit {l : Launch} {D : va_G} {cI cZ : ClassId} {a : Nat → Nat} {M : xM} {x1 x2 : Int32} {post : xM → Prop} (h : V_X1_commit M x1 x2 post) : xMv l yX1_commit cX1_commit 5 none { frames := 1, cells := 0, slots := 0, locals := 22 } D cI cZ (wC cI cZ a) M [.ref (a 0), .int x1, .int x2] post := by
  refine x_bodyv (own := RX1) (by decide) rfl (Nat.le_of_ble_eq_true rfl) ?_
  intro p e s m below meth c A ls C hr hlocks hA I hl
  have hx := C.1.1
  have hb := C.1.2.1
  have hl : lv_has ls 5 [(0, .ref (a 0)), (1, .int x1), (2, .int x2)] := hl
  unfold V_X1_commit at h
  refine lv_aload_n (pc := 0) hx hb dX1_commit_0 rfl (lv_at hl 0 rfl) ?_
  refine lv_iload_n (pc := 1) hx hb dX1_commit_1 rfl (lv_at hl 1 rfl) ?_
  refine lv_iconst (pc := 2) (v := 2) hx hb dX1_commit_2 (by decide) ?_
  refine x_callv (pc := 3) C I hA (m_X1_end h) c_RX1_159 wC_0 rfl ⟨Nat.le_of_ble_eq_true rfl, Nat.le_of_ble_eq_true rfl⟩ ⟨rfl, rfl⟩ ⟨Nat.le_of_ble_eq_true rfl, Nat.le_of_ble_eq_true rfl⟩ (As := [.int x1, .int 2]) rfl hl.1 rfl (Nat.le_of_ble_eq_true rfl) dX1_commit_3 (fun M1 H locs h I => ?_)
  refine lv_aload_n (pc := 6) hx hb dX1_commit_6 rfl (lv_at hl 0 rfl) ?_
  refine x_get (pc := 7) C I wC_0 rfl inlX1 (k := 2) q_2_7 (by decide) rfl rfl dX1_commit_7 ?_
  refine x_get (pc := 10) C I wC_3 rfl inlX4 (k := 3) q_15_11 (by decide) rfl rfl dX1_commit_10 ?_
  refine lv_iload_n (pc := 13) hx hb dX1_commit_13 rfl (lv_at hl 2 rfl) ?_
  refine lv_iload_n (pc := 14) hx hb dX1_commit_14 rfl (lv_at hl 1 rfl) ?_
  obtain ⟨g2, h⟩ := h
  refine x_ast (pc := 15) C I wC_13 g2 sC_13 dX1_commit_15 (fun H locs I => ?_)
  obtain ⟨M3, eM3⟩ : ∃ z : xM, z = xu M1 13 (x2).toNatClampNeg x1 := ⟨_, rfl⟩
  have h := h M3 eM3
  rw [← eM3] at I
  refine lv_aload_n (pc := 16) hx hb dX1_commit_16 rfl (lv_at hl 0 rfl) ?_
  refine x_get (pc := 17) C I wC_0 rfl inlX1 (k := 2) q_2_7 (by decide) rfl rfl dX1_commit_17 ?_
  refine x_get (pc := 20) C I wC_3 rfl inlX4 (k := 4) q_15_12 (by decide) rfl rfl dX1_commit_20 ?_
  refine lv_iload_n (pc := 23) hx hb dX1_commit_23 rfl (lv_at hl 2 rfl) ?_
  refine lv_aload_n (pc := 24) hx hb dX1_commit_24 rfl (lv_at hl 0 rfl) ?_
  refine x_get (pc := 25) C I wC_0 rfl inlX1 (k := 4) q_2_12 (by decide) rfl rfl dX1_commit_25 ?_
  refine lv_iconst (pc := 28) (v := 1) hx hb dX1_commit_28 (by decide) ?_
  refine lv_iadd (pc := 29) hx hb dX1_commit_29 ?_
  obtain ⟨g4, h⟩ := h
  refine x_ast (pc := 30) C I wC_14 g4 sC_14 dX1_commit_30 (fun H locs I => ?_)
  obtain ⟨M5, eM5⟩ : ∃ z : xM, z = xu M3 14 (x2).toNatClampNeg ((M3 0 4) + 1) := ⟨_, rfl⟩
  have h := h M5 eM5
  rw [← eM5] at I
  refine lv_iconst (pc := 31) (v := 0) hx hb dX1_commit_31 (by decide) ?_
  refine lv_istore_n (pc := 32) (lv' := [(3, .int 0), (0, .ref (a 0)), (1, .int x1), (2, .int x2)]) hx hb dX1_commit_32 rfl hl (by decide) rfl (fun ls hl => ?_)
  obtain ⟨n17, h⟩ := h
  exact k_X1_commit_L33 C hr hlocks hA n17 M5 x2 0 _ _ _ h I (lv_sub hl [1, 3, 0] rfl)
def V_X1_commitFinished_L4 (post : Int32 → xM → Prop) : Nat → xM → Int32 → Int32 → Prop
  | 0, _, _, _ => False
  | n + 1, M0, x1, x2 => (((M0 4 10) ≤ x2 → (V_X0_dropEnded M0  (fun M2 => post x1 M2))) ∧ (¬ (M0 4 10) ≤ x2 → (vp_in x2 32 ∧ (∀ y4 : Int32, y4 = (M0 23 (x2).toNatClampNeg) → (vp_in y4 200 ∧ (∀ y6 : Int32, y6 = (M0 15 (y4).toNatClampNeg) → (vp_in y4 200 ∧ (((M0 17 (y4).toNatClampNeg) = 1 → (vp_in y4 200 ∧ (vp_in y6 24 ∧ (((M0 20 (y4).toNatClampNeg) < (M0 11 (y6).toNatClampNeg) → (∀ y13 : Int32, y13 = (x2 + 1) → (V_X1_commitFinished_L4 post n M0 x1 y13))) ∧ (¬ (M0 20 (y4).toNatClampNeg) < (M0 11 (y6).toNatClampNeg) → (V_X1_commit M0 y4 y6 (fun M14 => (∀ y15 : Int32, y15 = (x1 + 1) → (∀ y16 : Int32, y16 = (x2 + 1) → (V_X1_commitFinished_L4 post n M14 y15 y16)))))))))) ∧ (¬ (M0 17 (y4).toNatClampNeg) = 1 → (∀ y9 : Int32, y9 = (x2 + 1) → (V_X1_commitFinished_L4 post n M0 x1 y9)))))))))))
def V_X1_commitFinished (M : xM) (post : Int32 → xM → Prop) : Prop := (∃ n17 : Nat, V_X1_commitFinished_L4 post n17 M 0 0)
set_option maxHeartbeats 4000000 in
set_option maxRecDepth 100000 in
theorem k_X1_commitFinished_L4 {l : Launch} {D : va_G} {cI cZ : ClassId} {a : Nat → Nat} {p : Program} {e : Env} {s : State} {m : MethodId} {below : List Frame} {meth : Method} {c : Code} {A : Nat → Prop} {args : Array Value} {post : Int32 → xM → Prop} (C : xC p s m args c cX1_commitFinished 6 RX1 D cI cZ) (hr : meth.sig.returnType = (some .int)) (hlocks : meth.locks = false) (hA : ∀ q : Nat, s.heap.size ≤ q → A q) (n : Nat) : ∀ (M0 : xM) (x1 x2 : Int32) (H : Heap) (locs : List Loc) (ls : Array Slot), V_X1_commitFinished_L4 post n M0 x1 x2 → xI D (wC cI cZ a M0) A s.heap H locs → lv_has ls 6 [(0, .ref (a 0)), (1, .int x1), (2, .int x2)] → W p l e { frames := 2, cells := 0, slots := 0, locals := 46 } s m args below meth c H locs 0 0 (MQ below (va_Qi post (xPost D cI cZ A (wC cI cZ a)) A) args s 0 0 A) (F0 m 4 ls []) := by
  have hx := C.1.1
  have hb := C.1.2.1
  induction n with
  | zero =>
    intro M0 x1 x2 H locs ls h I hl
    exact absurd h id
  | succ n ih4 =>
    intro M0 x1 x2 H locs ls h I hl
    rw [V_X1_commitFinished_L4] at h
    refine lv_iload_n (pc := 4) hx hb dX1_commitFinished_4 rfl (lv_at hl 2 rfl) ?_
    refine lv_aload_n (pc := 5) hx hb dX1_commitFinished_5 rfl (lv_at hl 0 rfl) ?_
    refine x_get (pc := 6) C I wC_0 rfl inlX1 (k := 3) q_2_11 (by decide) rfl rfl dX1_commitFinished_6 ?_
    refine x_get (pc := 9) C I wC_4 rfl inlX0 (k := 10) q_7_8 (by decide) rfl rfl dX1_commitFinished_9 ?_
    refine lv_icmp_ge (pc := 12) (tgt := 99) hx hb dX1_commitFinished_12 (by decide) (fun g1 => ?_) (fun g1 => ?_)
    · have h := h.1 g1
      refine lv_aload_n (pc := 99) hx hb dX1_commitFinished_99 rfl (lv_at hl 0 rfl) ?_
      refine x_get (pc := 100) C I wC_0 rfl inlX1 (k := 3) q_2_11 (by decide) rfl rfl dX1_commitFinished_100 ?_
      refine x_callv (pc := 103) C I hA (m_X0_dropEnded h) c_RX1_156 wC_4 rfl ⟨Nat.le_of_ble_eq_true rfl, Nat.le_of_ble_eq_true rfl⟩ ⟨rfl, rfl⟩ ⟨Nat.le_of_ble_eq_true rfl, Nat.le_of_ble_eq_true rfl⟩ (As := []) rfl hl.1 rfl (Nat.le_of_ble_eq_true rfl) dX1_commitFinished_103 (fun M2 H locs h I => ?_)
      refine lv_iload_n (pc := 106) hx hb dX1_commitFinished_106 rfl (lv_at hl 1 rfl) ?_
      exact x_ireti (pc := 107) C I hr hlocks h dX1_commitFinished_107
    · have h := h.2 g1
      refine lv_aload_n (pc := 15) hx hb dX1_commitFinished_15 rfl (lv_at hl 0 rfl) ?_
      refine x_get (pc := 16) C I wC_0 rfl inlX1 (k := 3) q_2_11 (by decide) rfl rfl dX1_commitFinished_16 ?_
      refine x_get (pc := 19) C I wC_4 rfl inlX0 (k := 9) q_7_9 (by decide) rfl rfl dX1_commitFinished_19 ?_
      refine lv_iload_n (pc := 22) hx hb dX1_commitFinished_22 rfl (lv_at hl 2 rfl) ?_
      obtain ⟨g3, h⟩ := h
      refine x_ald (pc := 23) C I wC_23 g3 dX1_commitFinished_23 ?_
      refine lv_topi (fun y4 ey4 => ?_)
      have h := h y4 ey4
      refine lv_istore_n (pc := 24) (lv' := [(3, .int y4), (0, .ref (a 0)), (1, .int x1), (2, .int x2)]) hx hb dX1_commitFinished_24 rfl hl (by decide) rfl (fun ls hl => ?_)
      refine lv_aload_n (pc := 25) hx hb dX1_commitFinished_25 rfl (lv_at hl 1 rfl) ?_
      refine x_get (pc := 26) C I wC_0 rfl inlX1 (k := 3) q_2_11 (by decide) rfl rfl dX1_commitFinished_26 ?_
      refine x_get (pc := 29) C I wC_4 rfl inlX0 (k := 1) q_7_17 (by decide) rfl rfl dX1_commitFinished_29 ?_
      refine lv_iload_n (pc := 32) hx hb dX1_commitFinished_32 rfl (lv_at hl 0 rfl) ?_
      obtain ⟨g5, h⟩ := h
      refine x_ald (pc := 33) C I wC_15 g5 dX1_commitFinished_33 ?_
      refine lv_topi (fun y6 ey6 => ?_)
      have h := h y6 ey6
      refine lv_istore (pc := 34) (lv' := [(4, .int y6), (3, .int y4), (0, .ref (a 0)), (1, .int x1), (2, .int x2)]) hx hb dX1_commitFinished_34 hl (by decide) rfl (fun ls hl => ?_)
      refine lv_aload_n (pc := 36) hx hb dX1_commitFinished_36 rfl (lv_at hl 2 rfl) ?_
      refine x_get (pc := 37) C I wC_0 rfl inlX1 (k := 3) q_2_11 (by decide) rfl rfl dX1_commitFinished_37 ?_
      refine x_get (pc := 40) C I wC_4 rfl inlX0 (k := 3) q_7_15 (by decide) rfl rfl dX1_commitFinished_40 ?_
      refine lv_iload_n (pc := 43) hx hb dX1_commitFinished_43 rfl (lv_at hl 1 rfl) ?_
      obtain ⟨g7, h⟩ := h
      refine x_ald (pc := 44) C I wC_17 g7 dX1_commitFinished_44 ?_
      refine lv_iconst (pc := 45) (v := 1) hx hb dX1_commitFinished_45 (by decide) ?_
      refine lv_icmp_ne (pc := 46) (tgt := 53) hx hb dX1_commitFinished_46 (by decide) (fun g8 => ?_) (fun g8 => ?_)
      · have h := h.2 g8
        refine lv_iconst (pc := 53) (v := 0) hx hb dX1_commitFinished_53 (by decide) ?_
        refine lv_istore (pc := 54) (lv' := [(5, .int 0), (4, .int y6), (3, .int y4), (0, .ref (a 0)), (1, .int x1), (2, .int x2)]) hx hb dX1_commitFinished_54 hl (by decide) rfl (fun ls hl => ?_)
        refine lv_iload (pc := 56) hx hb dX1_commitFinished_56 (lv_at hl 0 rfl) ?_
        refine lv_if_eq (pc := 58) (tgt := 93) hx hb dX1_commitFinished_58 (by decide) (fun _ => ?_) (fun g => absurd g (by decide))
        obtain ⟨y9, ey9⟩ : ∃ y : Int32, y = (x2 + 1) := ⟨_, rfl⟩
        have h := h y9 ey9
        refine lv_iinc (pc := 93) (v := y9) (lv' := [(2, .int y9), (5, .int 0), (4, .int y6), (3, .int y4), (0, .ref (a 0)), (1, .int x1)]) hx hb dX1_commitFinished_93 hl (k := 5) rfl (by rw [ey9]; rfl) (by decide) rfl (fun ls hl => ?_)
        refine lv_goto (pc := 96) (tgt := 4) hx hb dX1_commitFinished_96 (by decide) ?_
        exact ih4 M0 x1 y9 _ _ _ h I (lv_sub hl [4, 5, 0] rfl)
      · have h := h.1 g8
        refine lv_iconst (pc := 49) (v := 1) hx hb dX1_commitFinished_49 (by decide) ?_
        refine lv_goto (pc := 50) (tgt := 54) hx hb dX1_commitFinished_50 (by decide) ?_
        refine lv_istore (pc := 54) (lv' := [(5, .int 1), (4, .int y6), (3, .int y4), (0, .ref (a 0)), (1, .int x1), (2, .int x2)]) hx hb dX1_commitFinished_54 hl (by decide) rfl (fun ls hl => ?_)
        refine lv_iload (pc := 56) hx hb dX1_commitFinished_56 (lv_at hl 0 rfl) ?_
        refine lv_if_eq (pc := 58) (tgt := 93) hx hb dX1_commitFinished_58 (by decide) (fun g => absurd g (by decide)) (fun _ => ?_)
        refine lv_aload_n (pc := 61) hx hb dX1_commitFinished_61 rfl (lv_at hl 3 rfl) ?_
        refine x_get (pc := 62) C I wC_0 rfl inlX1 (k := 3) q_2_11 (by decide) rfl rfl dX1_commitFinished_62 ?_
        refine x_get (pc := 65) C I wC_4 rfl inlX0 (k := 6) q_15_6 (by decide) rfl rfl dX1_commitFinished_65 ?_
        refine lv_iload_n (pc := 68) hx hb dX1_commitFinished_68 rfl (lv_at hl 2 rfl) ?_
        obtain ⟨g10, h⟩ := h
        refine x_ald (pc := 69) C I wC_20 g10 dX1_commitFinished_69 ?_
        refine lv_aload_n (pc := 70) hx hb dX1_commitFinished_70 rfl (lv_at hl 3 rfl) ?_
        refine x_get (pc := 71) C I wC_0 rfl inlX1 (k := 2) q_2_7 (by decide) rfl rfl dX1_commitFinished_71 ?_
        refine x_get (pc := 74) C I wC_3 rfl inlX4 (k := 1) q_14_15 (by decide) rfl rfl dX1_commitFinished_74 ?_
        refine lv_iload (pc := 77) hx hb dX1_commitFinished_77 (lv_at hl 1 rfl) ?_
        obtain ⟨g11, h⟩ := h
        refine x_ald (pc := 79) C I wC_11 g11 dX1_commitFinished_79 ?_
        refine lv_icmp_lt (pc := 80) (tgt := 93) hx hb dX1_commitFinished_80 (by decide) (fun g12 => ?_) (fun g12 => ?_)
        · have h := h.1 g12
          obtain ⟨y13, ey13⟩ : ∃ y : Int32, y = (x2 + 1) := ⟨_, rfl⟩
          have h := h y13 ey13
          refine lv_iinc (pc := 93) (v := y13) (lv' := [(2, .int y13), (5, .int 1), (4, .int y6), (3, .int y4), (0, .ref (a 0)), (1, .int x1)]) hx hb dX1_commitFinished_93 hl (k := 5) rfl (by rw [ey13]; rfl) (by decide) rfl (fun ls hl => ?_)
          refine lv_goto (pc := 96) (tgt := 4) hx hb dX1_commitFinished_96 (by decide) ?_
          exact ih4 M0 x1 y13 _ _ _ h I (lv_sub hl [4, 5, 0] rfl)
        · have h := h.2 g12
          refine lv_aload_n (pc := 83) hx hb dX1_commitFinished_83 rfl (lv_at hl 3 rfl) ?_
          refine lv_iload_n (pc := 84) hx hb dX1_commitFinished_84 rfl (lv_at hl 2 rfl) ?_
          refine lv_iload (pc := 85) hx hb dX1_commitFinished_85 (lv_at hl 1 rfl) ?_
          refine x_callv (pc := 87) C I hA (m_X1_commit h) c_RX1_153 wC_0 rfl ⟨Nat.le_of_ble_eq_true rfl, Nat.le_of_ble_eq_true rfl⟩ ⟨rfl, rfl⟩ ⟨Nat.le_of_ble_eq_true rfl, Nat.le_of_ble_eq_true rfl⟩ (As := [.int y4, .int y6]) rfl hl.1 rfl (Nat.le_of_ble_eq_true rfl) dX1_commitFinished_87 (fun M14 H locs h I => ?_)
          obtain ⟨y15, ey15⟩ : ∃ y : Int32, y = (x1 + 1) := ⟨_, rfl⟩
          have h := h y15 ey15
          refine lv_iinc (pc := 90) (v := y15) (lv' := [(1, .int y15), (5, .int 1), (4, .int y6), (3, .int y4), (0, .ref (a 0)), (2, .int x2)]) hx hb dX1_commitFinished_90 hl (k := 4) rfl (by rw [ey15]; rfl) (by decide) rfl (fun ls hl => ?_)
          obtain ⟨y16, ey16⟩ : ∃ y : Int32, y = (x2 + 1) := ⟨_, rfl⟩
          have h := h y16 ey16
          refine lv_iinc (pc := 93) (v := y16) (lv' := [(2, .int y16), (1, .int y15), (5, .int 1), (4, .int y6), (3, .int y4), (0, .ref (a 0))]) hx hb dX1_commitFinished_93 hl (k := 5) rfl (by rw [ey16]; rfl) (by decide) rfl (fun ls hl => ?_)
          refine lv_goto (pc := 96) (tgt := 4) hx hb dX1_commitFinished_96 (by decide) ?_
          exact ih4 M14 y15 y16 _ _ _ h I (lv_sub hl [5, 1, 0] rfl)
set_option maxHeartbeats 4000000 in
set_option maxRecDepth 100000 in
theorem m_X1_commitFinished {l : Launch} {D : va_G} {cI cZ : ClassId} {a : Nat → Nat} {M : xM} {post : Int32 → xM → Prop} (h : V_X1_commitFinished M post) : xMi l yX1_commitFinished cX1_commitFinished 6 (some .int) { frames := 2, cells := 0, slots := 0, locals := 46 } D cI cZ (wC cI cZ a) M [.ref (a 0)] post := by
  refine x_bodyi (own := RX1) (by decide) rfl (Nat.le_of_ble_eq_true rfl) ?_
  intro p e s m below meth c A ls C hr hlocks hA I hl
  have hx := C.1.1
  have hb := C.1.2.1
  have hl : lv_has ls 6 [(0, .ref (a 0))] := hl
  unfold V_X1_commitFinished at h
  refine lv_iconst (pc := 0) (v := 0) hx hb dX1_commitFinished_0 (by decide) ?_
  refine lv_istore_n (pc := 1) (lv' := [(1, .int 0), (0, .ref (a 0))]) hx hb dX1_commitFinished_1 rfl hl (by decide) rfl (fun ls hl => ?_)
  refine lv_iconst (pc := 2) (v := 0) hx hb dX1_commitFinished_2 (by decide) ?_
  refine lv_istore_n (pc := 3) (lv' := [(2, .int 0), (1, .int 0), (0, .ref (a 0))]) hx hb dX1_commitFinished_3 rfl hl (by decide) rfl (fun ls hl => ?_)
  obtain ⟨n17, h⟩ := h
  exact k_X1_commitFinished_L4 C hr hlocks hA n17 M 0 0 _ _ _ h I (lv_sub hl [2, 1, 0] rfl)
def V_X1_runOneTick (M : xM) (post : Int32 → xM → Prop) : Prop := (V_X1_startAttempts M  (fun M1 => (V_X1_doWork M1  (fun M2 => (V_X1_commitFinished M2  (fun r4 M3 => (∀ M5 : xM, M5 = xu M3 0 4 ((M3 0 4) + 1) → post r4 M5)))))))
set_option maxHeartbeats 4000000 in
set_option maxRecDepth 100000 in
theorem m_X1_runOneTick {l : Launch} {D : va_G} {cI cZ : ClassId} {a : Nat → Nat} {M : xM} {post : Int32 → xM → Prop} (h : V_X1_runOneTick M post) : xMi l yX1_runOneTick cX1_runOneTick 2 (some .int) { frames := 5, cells := 0, slots := 0, locals := 113 } D cI cZ (wC cI cZ a) M [.ref (a 0)] post := by
  refine x_bodyi (own := RX1) (by decide) rfl (Nat.le_of_ble_eq_true rfl) ?_
  intro p e s m below meth c A ls C hr hlocks hA I hl
  have hx := C.1.1
  have hb := C.1.2.1
  have hl : lv_has ls 2 [(0, .ref (a 0))] := hl
  unfold V_X1_runOneTick at h
  refine lv_aload_n (pc := 0) hx hb dX1_runOneTick_0 rfl (lv_at hl 0 rfl) ?_
  refine x_callv (pc := 1) C I hA (m_X1_startAttempts h) c_RX1_57 wC_0 rfl ⟨Nat.le_of_ble_eq_true rfl, Nat.le_of_ble_eq_true rfl⟩ ⟨rfl, rfl⟩ ⟨Nat.le_of_ble_eq_true rfl, Nat.le_of_ble_eq_true rfl⟩ (As := []) rfl hl.1 rfl (Nat.le_of_ble_eq_true rfl) dX1_runOneTick_1 (fun M1 H locs h I => ?_)
  refine lv_aload_n (pc := 4) hx hb dX1_runOneTick_4 rfl (lv_at hl 0 rfl) ?_
  refine x_callv (pc := 5) C I hA (m_X1_doWork h) c_RX1_60 wC_0 rfl ⟨Nat.le_of_ble_eq_true rfl, Nat.le_of_ble_eq_true rfl⟩ ⟨rfl, rfl⟩ ⟨Nat.le_of_ble_eq_true rfl, Nat.le_of_ble_eq_true rfl⟩ (As := []) rfl hl.1 rfl (Nat.le_of_ble_eq_true rfl) dX1_runOneTick_5 (fun M2 H locs h I => ?_)
  refine lv_aload_n (pc := 8) hx hb dX1_runOneTick_8 rfl (lv_at hl 0 rfl) ?_
  refine x_calli (pc := 9) C I hA (m_X1_commitFinished h) c_RX1_63 wC_0 rfl ⟨Nat.le_of_ble_eq_true rfl, Nat.le_of_ble_eq_true rfl⟩ ⟨rfl, rfl⟩ ⟨Nat.le_of_ble_eq_true rfl, Nat.le_of_ble_eq_true rfl⟩ (As := []) rfl hl.1 rfl (Nat.le_of_ble_eq_true rfl) dX1_runOneTick_9 (fun r4 M3 H locs h I => ?_)
  refine lv_istore_n (pc := 12) (lv' := [(1, .int r4), (0, .ref (a 0))]) hx hb dX1_runOneTick_12 rfl hl (by decide) rfl (fun ls hl => ?_)
  refine lv_aload_n (pc := 13) hx hb dX1_runOneTick_13 rfl (lv_at hl 1 rfl) ?_
  refine lv_dup (pc := 14) hx hb dX1_runOneTick_14 rfl ?_
  refine x_get (pc := 15) C I wC_0 rfl inlX1 (k := 4) q_2_12 (by decide) rfl rfl dX1_runOneTick_15 ?_
  refine lv_iconst (pc := 18) (v := 1) hx hb dX1_runOneTick_18 (by decide) ?_
  refine lv_iadd (pc := 19) hx hb dX1_runOneTick_19 ?_
  refine x_puti (pc := 20) C I wC_0 rfl inlX1 tyX1_ok nmX1 (k := 4) q_2_12 (by decide) rfl rfl rfl (Nat.le_of_ble_eq_true rfl) sC_0_4 dX1_runOneTick_20 (fun H locs I => ?_)
  obtain ⟨M5, eM5⟩ : ∃ z : xM, z = xu M3 0 4 ((M3 0 4) + 1) := ⟨_, rfl⟩
  have h := h M5 eM5
  rw [← eM5] at I
  refine lv_iload_n (pc := 23) hx hb dX1_runOneTick_23 rfl (lv_at hl 0 rfl) ?_
  exact x_ireti (pc := 24) C I hr hlocks h dX1_runOneTick_24
def V_X1_loseAttemptsOn_L4 (post : Int32 → xM → Prop) : Nat → xM → Int32 → Int32 → Int32 → Prop
  | 0, _, _, _, _ => False
  | n + 1, M0, x1, x2, x3 => (((M0 4 10) ≤ x3 → (V_X0_dropEnded M0  (fun M2 => post x2 M2))) ∧ (¬ (M0 4 10) ≤ x3 → (vp_in x3 32 ∧ (∀ y4 : Int32, y4 = (M0 23 (x3).toNatClampNeg) → (vp_in y4 200 ∧ (((M0 16 (y4).toNatClampNeg) = x1 → (V_X1_end M0 y4 4 (fun M8 => (∀ y9 : Int32, y9 = (x2 + 1) → (∀ y10 : Int32, y10 = (x3 + 1) → (V_X1_loseAttemptsOn_L4 post n M8 x1 y9 y10)))))) ∧ (¬ (M0 16 (y4).toNatClampNeg) = x1 → (∀ y7 : Int32, y7 = (x3 + 1) → (V_X1_loseAttemptsOn_L4 post n M0 x1 x2 y7)))))))))
def V_X1_loseAttemptsOn (M : xM) (x1 : Int32) (post : Int32 → xM → Prop) : Prop := (∃ n11 : Nat, V_X1_loseAttemptsOn_L4 post n11 M x1 0 0)
set_option maxHeartbeats 4000000 in
set_option maxRecDepth 100000 in
theorem k_X1_loseAttemptsOn_L4 {l : Launch} {D : va_G} {cI cZ : ClassId} {a : Nat → Nat} {p : Program} {e : Env} {s : State} {m : MethodId} {below : List Frame} {meth : Method} {c : Code} {A : Nat → Prop} {args : Array Value} {post : Int32 → xM → Prop} (C : xC p s m args c cX1_loseAttemptsOn 5 RX1 D cI cZ) (hr : meth.sig.returnType = (some .int)) (hlocks : meth.locks = false) (hA : ∀ q : Nat, s.heap.size ≤ q → A q) (n : Nat) : ∀ (M0 : xM) (x1 x2 x3 : Int32) (H : Heap) (locs : List Loc) (ls : Array Slot), V_X1_loseAttemptsOn_L4 post n M0 x1 x2 x3 → xI D (wC cI cZ a M0) A s.heap H locs → lv_has ls 5 [(0, .ref (a 0)), (1, .int x1), (2, .int x2), (3, .int x3)] → W p l e { frames := 1, cells := 0, slots := 0, locals := 23 } s m args below meth c H locs 0 0 (MQ below (va_Qi post (xPost D cI cZ A (wC cI cZ a)) A) args s 0 0 A) (F0 m 4 ls []) := by
  have hx := C.1.1
  have hb := C.1.2.1
  induction n with
  | zero =>
    intro M0 x1 x2 x3 H locs ls h I hl
    exact absurd h id
  | succ n ih4 =>
    intro M0 x1 x2 x3 H locs ls h I hl
    rw [V_X1_loseAttemptsOn_L4] at h
    refine lv_iload_n (pc := 4) hx hb dX1_loseAttemptsOn_4 rfl (lv_at hl 3 rfl) ?_
    refine lv_aload_n (pc := 5) hx hb dX1_loseAttemptsOn_5 rfl (lv_at hl 0 rfl) ?_
    refine x_get (pc := 6) C I wC_0 rfl inlX1 (k := 3) q_2_11 (by decide) rfl rfl dX1_loseAttemptsOn_6 ?_
    refine x_get (pc := 9) C I wC_4 rfl inlX0 (k := 10) q_7_8 (by decide) rfl rfl dX1_loseAttemptsOn_9 ?_
    refine lv_icmp_ge (pc := 12) (tgt := 56) hx hb dX1_loseAttemptsOn_12 (by decide) (fun g1 => ?_) (fun g1 => ?_)
    · have h := h.1 g1
      refine lv_aload_n (pc := 56) hx hb dX1_loseAttemptsOn_56 rfl (lv_at hl 0 rfl) ?_
      refine x_get (pc := 57) C I wC_0 rfl inlX1 (k := 3) q_2_11 (by decide) rfl rfl dX1_loseAttemptsOn_57 ?_
      refine x_callv (pc := 60) C I hA (m_X0_dropEnded h) c_RX1_156 wC_4 rfl ⟨Nat.le_of_ble_eq_true rfl, Nat.le_of_ble_eq_true rfl⟩ ⟨rfl, rfl⟩ ⟨Nat.le_of_ble_eq_true rfl, Nat.le_of_ble_eq_true rfl⟩ (As := []) rfl hl.1 rfl (Nat.le_of_ble_eq_true rfl) dX1_loseAttemptsOn_60 (fun M2 H locs h I => ?_)
      refine lv_iload_n (pc := 63) hx hb dX1_loseAttemptsOn_63 rfl (lv_at hl 2 rfl) ?_
      exact x_ireti (pc := 64) C I hr hlocks h dX1_loseAttemptsOn_64
    · have h := h.2 g1
      refine lv_aload_n (pc := 15) hx hb dX1_loseAttemptsOn_15 rfl (lv_at hl 0 rfl) ?_
      refine x_get (pc := 16) C I wC_0 rfl inlX1 (k := 3) q_2_11 (by decide) rfl rfl dX1_loseAttemptsOn_16 ?_
      refine x_get (pc := 19) C I wC_4 rfl inlX0 (k := 9) q_7_9 (by decide) rfl rfl dX1_loseAttemptsOn_19 ?_
      refine lv_iload_n (pc := 22) hx hb dX1_loseAttemptsOn_22 rfl (lv_at hl 3 rfl) ?_
      obtain ⟨g3, h⟩ := h
      refine x_ald (pc := 23) C I wC_23 g3 dX1_loseAttemptsOn_23 ?_
      refine lv_topi (fun y4 ey4 => ?_)
      have h := h y4 ey4
      refine lv_istore (pc := 24) (lv' := [(4, .int y4), (0, .ref (a 0)), (1, .int x1), (2, .int x2), (3, .int x3)]) hx hb dX1_loseAttemptsOn_24 hl (by decide) rfl (fun ls hl => ?_)
      refine lv_aload_n (pc := 26) hx hb dX1_loseAttemptsOn_26 rfl (lv_at hl 1 rfl) ?_
      refine x_get (pc := 27) C I wC_0 rfl inlX1 (k := 3) q_2_11 (by decide) rfl rfl dX1_loseAttemptsOn_27 ?_
      refine x_get (pc := 30) C I wC_4 rfl inlX0 (k := 2) q_7_10 (by decide) rfl rfl dX1_loseAttemptsOn_30 ?_
      refine lv_iload (pc := 33) hx hb dX1_loseAttemptsOn_33 (lv_at hl 0 rfl) ?_
      obtain ⟨g5, h⟩ := h
      refine x_ald (pc := 35) C I wC_16 g5 dX1_loseAttemptsOn_35 ?_
      refine lv_iload_n (pc := 36) hx hb dX1_loseAttemptsOn_36 rfl (lv_at hl 2 rfl) ?_
      refine lv_icmp_ne (pc := 37) (tgt := 50) hx hb dX1_loseAttemptsOn_37 (by decide) (fun g6 => ?_) (fun g6 => ?_)
      · have h := h.2 g6
        obtain ⟨y7, ey7⟩ : ∃ y : Int32, y = (x3 + 1) := ⟨_, rfl⟩
        have h := h y7 ey7
        refine lv_iinc (pc := 50) (v := y7) (lv' := [(3, .int y7), (4, .int y4), (0, .ref (a 0)), (1, .int x1), (2, .int x2)]) hx hb dX1_loseAttemptsOn_50 hl (k := 4) rfl (by rw [ey7]; rfl) (by decide) rfl (fun ls hl => ?_)
        refine lv_goto (pc := 53) (tgt := 4) hx hb dX1_loseAttemptsOn_53 (by decide) ?_
        exact ih4 M0 x1 x2 y7 _ _ _ h I (lv_sub hl [2, 3, 4, 0] rfl)
      · have h := h.1 g6
        refine lv_aload_n (pc := 40) hx hb dX1_loseAttemptsOn_40 rfl (lv_at hl 1 rfl) ?_
        refine lv_iload (pc := 41) hx hb dX1_loseAttemptsOn_41 (lv_at hl 0 rfl) ?_
        refine lv_iconst (pc := 43) (v := 4) hx hb dX1_loseAttemptsOn_43 (by decide) ?_
        refine x_callv (pc := 44) C I hA (m_X1_end h) c_RX1_159 wC_0 rfl ⟨Nat.le_of_ble_eq_true rfl, Nat.le_of_ble_eq_true rfl⟩ ⟨rfl, rfl⟩ ⟨Nat.le_of_ble_eq_true rfl, Nat.le_of_ble_eq_true rfl⟩ (As := [.int y4, .int 4]) rfl hl.1 rfl (Nat.le_of_ble_eq_true rfl) dX1_loseAttemptsOn_44 (fun M8 H locs h I => ?_)
        obtain ⟨y9, ey9⟩ : ∃ y : Int32, y = (x2 + 1) := ⟨_, rfl⟩
        have h := h y9 ey9
        refine lv_iinc (pc := 47) (v := y9) (lv' := [(2, .int y9), (4, .int y4), (0, .ref (a 0)), (1, .int x1), (3, .int x3)]) hx hb dX1_loseAttemptsOn_47 hl (k := 3) rfl (by rw [ey9]; rfl) (by decide) rfl (fun ls hl => ?_)
        obtain ⟨y10, ey10⟩ : ∃ y : Int32, y = (x3 + 1) := ⟨_, rfl⟩
        have h := h y10 ey10
        refine lv_iinc (pc := 50) (v := y10) (lv' := [(3, .int y10), (2, .int y9), (4, .int y4), (0, .ref (a 0)), (1, .int x1)]) hx hb dX1_loseAttemptsOn_50 hl (k := 4) rfl (by rw [ey10]; rfl) (by decide) rfl (fun ls hl => ?_)
        refine lv_goto (pc := 53) (tgt := 4) hx hb dX1_loseAttemptsOn_53 (by decide) ?_
        exact ih4 M8 x1 y9 y10 _ _ _ h I (lv_sub hl [3, 4, 1, 0] rfl)
set_option maxHeartbeats 4000000 in
set_option maxRecDepth 100000 in
theorem m_X1_loseAttemptsOn {l : Launch} {D : va_G} {cI cZ : ClassId} {a : Nat → Nat} {M : xM} {x1 : Int32} {post : Int32 → xM → Prop} (h : V_X1_loseAttemptsOn M x1 post) : xMi l yX1_loseAttemptsOn cX1_loseAttemptsOn 5 (some .int) { frames := 1, cells := 0, slots := 0, locals := 23 } D cI cZ (wC cI cZ a) M [.ref (a 0), .int x1] post := by
  refine x_bodyi (own := RX1) (by decide) rfl (Nat.le_of_ble_eq_true rfl) ?_
  intro p e s m below meth c A ls C hr hlocks hA I hl
  have hx := C.1.1
  have hb := C.1.2.1
  have hl : lv_has ls 5 [(0, .ref (a 0)), (1, .int x1)] := hl
  unfold V_X1_loseAttemptsOn at h
  refine lv_iconst (pc := 0) (v := 0) hx hb dX1_loseAttemptsOn_0 (by decide) ?_
  refine lv_istore_n (pc := 1) (lv' := [(2, .int 0), (0, .ref (a 0)), (1, .int x1)]) hx hb dX1_loseAttemptsOn_1 rfl hl (by decide) rfl (fun ls hl => ?_)
  refine lv_iconst (pc := 2) (v := 0) hx hb dX1_loseAttemptsOn_2 (by decide) ?_
  refine lv_istore_n (pc := 3) (lv' := [(3, .int 0), (2, .int 0), (0, .ref (a 0)), (1, .int x1)]) hx hb dX1_loseAttemptsOn_3 rfl hl (by decide) rfl (fun ls hl => ?_)
  obtain ⟨n11, h⟩ := h
  exact k_X1_loseAttemptsOn_L4 C hr hlocks hA n11 M x1 0 0 _ _ _ h I (lv_sub hl [2, 3, 1, 0] rfl)
