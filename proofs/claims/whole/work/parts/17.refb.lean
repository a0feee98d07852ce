def V_X6_naiveStraggler_L8 (post : Int32 → xM → Prop) : Nat → xM → Int32 → Int32 → Prop
  | 0, _, _, _ => False
  | n + 1, N0, x1, x2 => (V_X6_last N0  (fun r4 N3 => ((r4 ≤ x2 → ((x1 = (-6) → post (-6) N3) ∧ (¬ x1 = (-6) → (V_X6_progressOf N3 x1 (fun r8 N7 => (V_X6_meanProgress N7  (fun r10 N9 => ((r10 ≤ (r8 + 200) → post (-6) N9) ∧ (¬ r10 ≤ (r8 + 200) → post x1 N9))))))))) ∧ (¬ r4 ≤ x2 → (V_X6_isCandidate N3 x2 (fun r13 N12 => ((r13 = 0 → (∀ y15 : Int32, y15 = (x2 + 1) → (V_X6_naiveStraggler_L8 post n N12 x1 y15))) ∧ (¬ r13 = 0 → ((x1 = (-6) → (∀ y17 : Int32, y17 = (x2 + 1) → (V_X6_naiveStraggler_L8 post n N12 x2 y17))) ∧ (¬ x1 = (-6) → (V_X6_progressOf N12 x2 (fun r19 N18 => (V_X6_progressOf N18 x1 (fun r21 N20 => ((r21 ≤ r19 → (∀ y23 : Int32, y23 = (x2 + 1) → (V_X6_naiveStraggler_L8 post n N20 x1 y23))) ∧ (¬ r21 ≤ r19 → (∀ y24 : Int32, y24 = (x2 + 1) → (V_X6_naiveStraggler_L8 post n N20 x2 y24))))))))))))))))))
def V_X6_naiveStraggler (N : xM) (post : Int32 → xM → Prop) : Prop := (V_X6_first N  (fun r2 N1 => (∃ n25 : Nat, V_X6_naiveStraggler_L8 post n25 N1 (-6) r2)))
set_option maxHeartbeats 4000000 in
set_option maxRecDepth 100000 in
theorem k_X6_naiveStraggler_L8 {l : Launch} {D : va_G} {cI cZ : ClassId} {r : Nat → Nat} {p : Program} {e : Env} {s : State} {m : MethodId} {below : List Frame} {meth : Method} {c : Code} {A : Nat → Prop} {args : Array Value} {post : Int32 → xM → Prop} (C : xC p s m args c cX6_naiveStraggler 3 RX6 D cI cZ) (hr : meth.sig.returnType = (some .int)) (hlocks : meth.locks = false) (hA : ∀ q : Nat, s.heap.size ≤ q → A q) (n : Nat) : ∀ (N0 : xM) (x1 x2 : Int32) (H : Heap) (locs : List Loc) (ls : Array Slot), V_X6_naiveStraggler_L8 post n N0 x1 x2 → xI D (wR cI cZ r N0) A s.heap H locs → lv_has ls 3 [(0, .ref (r 0)), (1, .int x1), (2, .int x2)] → W p l e { frames := 2, cells := 0, slots := 0, locals := 45 } s m args below meth c H locs 0 0 (MQ below (va_Qi post (xPost D cI cZ A (wR cI cZ r)) A) args s 0 0 A) (F0 m 8 ls []) := by
  have hx := C.1.1
  have hb := C.1.2.1
  induction n with
  | zero =>
    intro N0 x1 x2 H locs ls h I hl
    exact absurd h id
  | succ n ih8 =>
    intro N0 x1 x2 H locs ls h I hl
    rw [V_X6_naiveStraggler_L8] at h
    refine lv_iload_n (pc := 8) hx hb dX6_naiveStraggler_8 rfl (lv_at hl 2 rfl) ?_
    refine lv_aload_n (pc := 9) hx hb dX6_naiveStraggler_9 rfl (lv_at hl 0 rfl) ?_
    refine x_calli (pc := 10) C I hA (m_X6_last h) c_RX6_113 wR_0 rfl ⟨Nat.le_of_ble_eq_true rfl, Nat.le_of_ble_eq_true rfl⟩ ⟨rfl, rfl⟩ ⟨Nat.le_of_ble_eq_true rfl, Nat.le_of_ble_eq_true rfl⟩ (As := []) rfl hl.1 rfl (Nat.le_of_ble_eq_true rfl) dX6_naiveStraggler_10 (fun r4 N3 H locs h I => ?_)
    refine lv_icmp_ge (pc := 13) (tgt := 55) hx hb dX6_naiveStraggler_13 (by decide) (fun g5 => ?_) (fun g5 => ?_)
    · have h := h.1 g5
      refine lv_iload_n (pc := 55) hx hb dX6_naiveStraggler_55 rfl (lv_at hl 1 rfl) ?_
      refine lv_bipush (pc := 56) (v := (-6)) hx hb dX6_naiveStraggler_56 (by decide) ?_
      refine lv_icmp_eq (pc := 58) (tgt := 81) hx hb dX6_naiveStraggler_58 (by decide) (fun g6 => ?_) (fun g6 => ?_)
      · have h := h.1 g6
        refine lv_bipush (pc := 81) (v := (-6)) hx hb dX6_naiveStraggler_81 (by decide) ?_
        exact x_ireti (pc := 83) C I hr hlocks h dX6_naiveStraggler_83
      · have h := h.2 g6
        refine lv_aload_n (pc := 61) hx hb dX6_naiveStraggler_61 rfl (lv_at hl 0 rfl) ?_
        refine lv_iload_n (pc := 62) hx hb dX6_naiveStraggler_62 rfl (lv_at hl 1 rfl) ?_
        refine x_calli (pc := 63) C I hA (m_X6_progressOf h) c_RX6_102 wR_0 rfl ⟨Nat.le_of_ble_eq_true rfl, Nat.le_of_ble_eq_true rfl⟩ ⟨rfl, rfl⟩ ⟨Nat.le_of_ble_eq_true rfl, Nat.le_of_ble_eq_true rfl⟩ (As := [.int x1]) rfl hl.1 rfl (Nat.le_of_ble_eq_true rfl) dX6_naiveStraggler_63 (fun r8 N7 H locs h I => ?_)
        refine lv_sipush (pc := 66) (v := 200) hx hb dX6_naiveStraggler_66 (by decide) ?_
        refine lv_iadd (pc := 69) hx hb dX6_naiveStraggler_69 ?_
        refine lv_aload_n (pc := 70) hx hb dX6_naiveStraggler_70 rfl (lv_at hl 0 rfl) ?_
        refine x_calli (pc := 71) C I hA (m_X6_meanProgress h) c_RX6_128 wR_0 rfl ⟨Nat.le_of_ble_eq_true rfl, Nat.le_of_ble_eq_true rfl⟩ ⟨rfl, rfl⟩ ⟨Nat.le_of_ble_eq_true rfl, Nat.le_of_ble_eq_true rfl⟩ (As := []) rfl hl.1 rfl (Nat.le_of_ble_eq_true rfl) dX6_naiveStraggler_71 (fun r10 N9 H locs h I => ?_)
        refine lv_icmp_ge (pc := 74) (tgt := 81) hx hb dX6_naiveStraggler_74 (by decide) (fun g11 => ?_) (fun g11 => ?_)
        · have h := h.1 g11
          refine lv_bipush (pc := 81) (v := (-6)) hx hb dX6_naiveStraggler_81 (by decide) ?_
          exact x_ireti (pc := 83) C I hr hlocks h dX6_naiveStraggler_83
        · have h := h.2 g11
          refine lv_iload_n (pc := 77) hx hb dX6_naiveStraggler_77 rfl (lv_at hl 1 rfl) ?_
          refine lv_goto (pc := 78) (tgt := 83) hx hb dX6_naiveStraggler_78 (by decide) ?_
          exact x_ireti (pc := 83) C I hr hlocks h dX6_naiveStraggler_83
    · have h := h.2 g5
      refine lv_aload_n (pc := 16) hx hb dX6_naiveStraggler_16 rfl (lv_at hl 0 rfl) ?_
      refine lv_iload_n (pc := 17) hx hb dX6_naiveStraggler_17 rfl (lv_at hl 2 rfl) ?_
      refine x_calli (pc := 18) C I hA (m_X6_isCandidate h) c_RX6_125 wR_0 rfl ⟨Nat.le_of_ble_eq_true rfl, Nat.le_of_ble_eq_true rfl⟩ ⟨rfl, rfl⟩ ⟨Nat.le_of_ble_eq_true rfl, Nat.le_of_ble_eq_true rfl⟩ (As := [.int x2]) rfl hl.1 rfl (Nat.le_of_ble_eq_true rfl) dX6_naiveStraggler_18 (fun r13 N12 H locs h I => ?_)
      refine lv_if_eq (pc := 21) (tgt := 47) hx hb dX6_naiveStraggler_21 (by decide) (fun g14 => ?_) (fun g14 => ?_)
      · have h := h.1 g14
        refine lv_iload_n (pc := 47) hx hb dX6_naiveStraggler_47 rfl (lv_at hl 1 rfl) ?_
        refine lv_istore_n (pc := 48) (lv' := [(1, .int x1), (0, .ref (r 0)), (2, .int x2)]) hx hb dX6_naiveStraggler_48 rfl hl (by decide) rfl (fun ls hl => ?_)
        obtain ⟨y15, ey15⟩ : ∃ y : Int32, y = (x2 + 1) := ⟨_, rfl⟩
        have h := h y15 ey15
        refine lv_iinc (pc := 49) (v := y15) (lv' := [(2, .int y15), (1, .int x1), (0, .ref (r 0))]) hx hb dX6_naiveStraggler_49 hl (k := 2) rfl (by rw [ey15]; rfl) (by decide) rfl (fun ls hl => ?_)
        refine lv_goto (pc := 52) (tgt := 8) hx hb dX6_naiveStraggler_52 (by decide) ?_
        exact ih8 N12 x1 y15 _ _ _ h I (lv_sub hl [2, 1, 0] rfl)
      · have h := h.2 g14
        refine lv_iload_n (pc := 24) hx hb dX6_naiveStraggler_24 rfl (lv_at hl 1 rfl) ?_
        refine lv_bipush (pc := 25) (v := (-6)) hx hb dX6_naiveStraggler_25 (by decide) ?_
        refine lv_icmp_eq (pc := 27) (tgt := 43) hx hb dX6_naiveStraggler_27 (by decide) (fun g16 => ?_) (fun g16 => ?_)
        · have h := h.1 g16
          refine lv_iload_n (pc := 43) hx hb dX6_naiveStraggler_43 rfl (lv_at hl 2 rfl) ?_
          refine lv_goto (pc := 44) (tgt := 48) hx hb dX6_naiveStraggler_44 (by decide) ?_
          refine lv_istore_n (pc := 48) (lv' := [(1, .int x2), (0, .ref (r 0)), (2, .int x2)]) hx hb dX6_naiveStraggler_48 rfl hl (by decide) rfl (fun ls hl => ?_)
          obtain ⟨y17, ey17⟩ : ∃ y : Int32, y = (x2 + 1) := ⟨_, rfl⟩
          have h := h y17 ey17
          refine lv_iinc (pc := 49) (v := y17) (lv' := [(2, .int y17), (1, .int x2), (0, .ref (r 0))]) hx hb dX6_naiveStraggler_49 hl (k := 2) rfl (by rw [ey17]; rfl) (by decide) rfl (fun ls hl => ?_)
          refine lv_goto (pc := 52) (tgt := 8) hx hb dX6_naiveStraggler_52 (by decide) ?_
          exact ih8 N12 x2 y17 _ _ _ h I (lv_sub hl [2, 1, 0] rfl)
        · have h := h.2 g16
          refine lv_aload_n (pc := 30) hx hb dX6_naiveStraggler_30 rfl (lv_at hl 0 rfl) ?_
          refine lv_iload_n (pc := 31) hx hb dX6_naiveStraggler_31 rfl (lv_at hl 2 rfl) ?_
          refine x_calli (pc := 32) C I hA (m_X6_progressOf h) c_RX6_102 wR_0 rfl ⟨Nat.le_of_ble_eq_true rfl, Nat.le_of_ble_eq_true rfl⟩ ⟨rfl, rfl⟩ ⟨Nat.le_of_ble_eq_true rfl, Nat.le_of_ble_eq_true rfl⟩ (As := [.int x2]) rfl hl.1 rfl (Nat.le_of_ble_eq_true rfl) dX6_naiveStraggler_32 (fun r19 N18 H locs h I => ?_)
          refine lv_aload_n (pc := 35) hx hb dX6_naiveStraggler_35 rfl (lv_at hl 0 rfl) ?_
          refine lv_iload_n (pc := 36) hx hb dX6_naiveStraggler_36 rfl (lv_at hl 1 rfl) ?_
          refine x_calli (pc := 37) C I hA (m_X6_progressOf h) c_RX6_102 wR_0 rfl ⟨Nat.le_of_ble_eq_true rfl, Nat.le_of_ble_eq_true rfl⟩ ⟨rfl, rfl⟩ ⟨Nat.le_of_ble_eq_true rfl, Nat.le_of_ble_eq_true rfl⟩ (As := [.int x1]) rfl hl.1 rfl (Nat.le_of_ble_eq_true rfl) dX6_naiveStraggler_37 (fun r21 N20 H locs h I => ?_)
          refine lv_icmp_ge (pc := 40) (tgt := 47) hx hb dX6_naiveStraggler_40 (by decide) (fun g22 => ?_) (fun g22 => ?_)
          · have h := h.1 g22
            refine lv_iload_n (pc := 47) hx hb dX6_naiveStraggler_47 rfl (lv_at hl 1 rfl) ?_
            refine lv_istore_n (pc := 48) (lv' := [(1, .int x1), (0, .ref (r 0)), (2, .int x2)]) hx hb dX6_naiveStraggler_48 rfl hl (by decide) rfl (fun ls hl => ?_)
            obtain ⟨y23, ey23⟩ : ∃ y : Int32, y = (x2 + 1) := ⟨_, rfl⟩
            have h := h y23 ey23
            refine lv_iinc (pc := 49) (v := y23) (lv' := [(2, .int y23), (1, .int x1), (0, .ref (r 0))]) hx hb dX6_naiveStraggler_49 hl (k := 2) rfl (by rw [ey23]; rfl) (by decide) rfl (fun ls hl => ?_)
            refine lv_goto (pc := 52) (tgt := 8) hx hb dX6_naiveStraggler_52 (by decide) ?_
            exact ih8 N20 x1 y23 _ _ _ h I (lv_sub hl [2, 1, 0] rfl)
          · have h := h.2 g22
            refine lv_iload_n (pc := 43) hx hb dX6_naiveStraggler_43 rfl (lv_at hl 2 rfl) ?_
            refine lv_goto (pc := 44) (tgt := 48) hx hb dX6_naiveStraggler_44 (by decide) ?_
            refine lv_istore_n (pc := 48) (lv' := [(1, .int x2), (0, .ref (r 0)), (2, .int x2)]) hx hb dX6_naiveStraggler_48 rfl hl (by decide) rfl (fun ls hl => ?_)
            obtain ⟨y24, ey24⟩ : ∃ y : Int32, y = (x2 + 1) := ⟨_, rfl⟩
            have h := h y24 ey24
            refine lv_iinc (pc := 49) (v := y24) (lv' := [(2, .int y24), (1, .int x2), (0, .ref (r 0))]) hx hb dX6_naiveStraggler_49 hl (k := 2) rfl (by rw [ey24]; rfl) (by decide) rfl (fun ls hl => ?_)
            refine lv_goto (pc := 52) (tgt := 8) hx hb dX6_naiveStraggler_52 (by decide) ?_
            exact ih8 N20 x2 y24 _ _ _ h I (lv_sub hl [2, 1, 0] rfl)
set_option maxHeartbeats 4000000 in
set_option maxRecDepth 100000 in
theorem m_X6_naiveStraggler {l : Launch} {D : va_G} {cI cZ : ClassId} {r : Nat → Nat} {N : xM} {post : Int32 → xM → Prop} (h : V_X6_naiveStraggler N post) : xMi l yX6_naiveStraggler cX6_naiveStraggler 3 (some .int) { frames := 2, cells := 0, slots := 0, locals := 45 } D cI cZ (wR cI cZ r) N [.ref (r 0)] post := by
  refine x_bodyi (own := RX6) (by decide) rfl (Nat.le_of_ble_eq_true rfl) ?_
  intro p e s m below meth c A ls C hr hlocks hA I hl
  have hx := C.1.1
  have hb := C.1.2.1
  have hl : lv_has ls 3 [(0, .ref (r 0))] := hl
  unfold V_X6_naiveStraggler at h
  refine lv_bipush (pc := 0) (v := (-6)) hx hb dX6_naiveStraggler_0 (by decide) ?_
  refine lv_istore_n (pc := 2) (lv' := [(1, .int (-6)), (0, .ref (r 0))]) hx hb dX6_naiveStraggler_2 rfl hl (by decide) rfl (fun ls hl => ?_)
  refine lv_aload_n (pc := 3) hx hb dX6_naiveStraggler_3 rfl (lv_at hl 1 rfl) ?_
  refine x_calli (pc := 4) C I hA (m_X6_first h) c_RX6_109 wR_0 rfl ⟨Nat.le_of_ble_eq_true rfl, Nat.le_of_ble_eq_true rfl⟩ ⟨rfl, rfl⟩ ⟨Nat.le_of_ble_eq_true rfl, Nat.le_of_ble_eq_true rfl⟩ (As := []) rfl hl.1 rfl (Nat.le_of_ble_eq_true rfl) dX6_naiveStraggler_4 (fun r2 N1 H locs h I => ?_)
  refine lv_istore_n (pc := 7) (lv' := [(2, .int r2), (1, .int (-6)), (0, .ref (r 0))]) hx hb dX6_naiveStraggler_7 rfl hl (by decide) rfl (fun ls hl => ?_)
  obtain ⟨n25, h⟩ := h
  exact k_X6_naiveStraggler_L8 C hr hlocks hA n25 N1 (-6) r2 _ _ _ h I (lv_sub hl [2, 1, 0] rfl)
def V_X6_lateStraggler_L18 (post : Int32 → xM → Prop) : Nat → xM → Int32 → Int32 → Int32 → Prop
  | 0, _, _, _, _ => False
  | n + 1, N0, x1, x2, x3 => (V_X6_last N0  (fun r7 N6 => ((r7 ≤ x3 → post x2 N6) ∧ (¬ r7 ≤ x3 → (V_X6_isCandidate N6 x3 (fun r10 N9 => ((r10 = 0 → (∀ y12 : Int32, y12 = (x3 + 1) → (V_X6_lateStraggler_L18 post n N9 x1 x2 y12))) ∧ (¬ r10 = 0 → (V_X6_rateOf N9 x3 (fun r14 N13 => ((x1 ≤ (r14 * 100) → (∀ y16 : Int32, y16 = (x3 + 1) → (V_X6_lateStraggler_L18 post n N13 x1 x2 y16))) ∧ (¬ x1 ≤ (r14 * 100) → ((x2 = (-6) → (∀ y18 : Int32, y18 = (x3 + 1) → (V_X6_lateStraggler_L18 post n N13 x1 x3 y18))) ∧ (¬ x2 = (-6) → (V_X6_remainingOf N13 x3 (fun r20 N19 => (V_X6_remainingOf N19 x2 (fun r22 N21 => ((r20 ≤ r22 → (∀ y24 : Int32, y24 = (x3 + 1) → (V_X6_lateStraggler_L18 post n N21 x1 x2 y24))) ∧ (¬ r20 ≤ r22 → (∀ y25 : Int32, y25 = (x3 + 1) → (V_X6_lateStraggler_L18 post n N21 x1 x3 y25))))))))))))))))))))))
def V_X6_lateStraggler (N : xM) (post : Int32 → xM → Prop) : Prop := (V_X6_meanRate N  (fun r2 N1 => (∀ y3 : Int32, y3 = (r2 * (N1 0 9)) → (V_X6_first N1  (fun r5 N4 => (∃ n26 : Nat, V_X6_lateStraggler_L18 post n26 N4 y3 (-6) r5))))))
set_option maxHeartbeats 4000000 in
set_option maxRecDepth 100000 in
theorem k_X6_lateStraggler_L18 {l : Launch} {D : va_G} {cI cZ : ClassId} {r : Nat → Nat} {p : Program} {e : Env} {s : State} {m : MethodId} {below : List Frame} {meth : Method} {c : Code} {A : Nat → Prop} {args : Array Value} {post : Int32 → xM → Prop} (C : xC p s m args c cX6_lateStraggler 5 RX6 D cI cZ) (hr : meth.sig.returnType = (some .int)) (hlocks : meth.locks = false) (hA : ∀ q : Nat, s.heap.size ≤ q → A q) (n : Nat) : ∀ (N0 : xM) (x1 x2 x3 : Int32) (H : Heap) (locs : List Loc) (ls : Array Slot), V_X6_lateStraggler_L18 post n N0 x1 x2 x3 → xI D (wR cI cZ r N0) A s.heap H locs → lv_has ls 5 [(0, .ref (r 0)), (1, .int x1), (2, .int x2), (3, .int x3)] → W p l e { frames := 3, cells := 0, slots := 0, locals := 66 } s m args below meth c H locs 0 0 (MQ below (va_Qi post (xPost D cI cZ A (wR cI cZ r)) A) args s 0 0 A) (F0 m 18 ls []) := by
  have hx := C.1.1
  have hb := C.1.2.1
  induction n with
  | zero =>
    intro N0 x1 x2 x3 H locs ls h I hl
    exact absurd h id
  | succ n ih18 =>
    intro N0 x1 x2 x3 H locs ls h I hl
    rw [V_X6_lateStraggler_L18] at h
    refine lv_iload_n (pc := 18) hx hb dX6_lateStraggler_18 rfl (lv_at hl 3 rfl) ?_
    refine lv_aload_n (pc := 19) hx hb dX6_lateStraggler_19 rfl (lv_at hl 0 rfl) ?_
    refine x_calli (pc := 20) C I hA (m_X6_last h) c_RX6_113 wR_0 rfl ⟨Nat.le_of_ble_eq_true rfl, Nat.le_of_ble_eq_true rfl⟩ ⟨rfl, rfl⟩ ⟨Nat.le_of_ble_eq_true rfl, Nat.le_of_ble_eq_true rfl⟩ (As := []) rfl hl.1 rfl (Nat.le_of_ble_eq_true rfl) dX6_lateStraggler_20 (fun r7 N6 H locs h I => ?_)
    refine lv_icmp_ge (pc := 23) (tgt := 89) hx hb dX6_lateStraggler_23 (by decide) (fun g8 => ?_) (fun g8 => ?_)
    · have h := h.1 g8
      refine lv_iload_n (pc := 89) hx hb dX6_lateStraggler_89 rfl (lv_at hl 2 rfl) ?_
      exact x_ireti (pc := 90) C I hr hlocks h dX6_lateStraggler_90
    · have h := h.2 g8
      refine lv_aload_n (pc := 26) hx hb dX6_lateStraggler_26 rfl (lv_at hl 0 rfl) ?_
      refine lv_iload_n (pc := 27) hx hb dX6_lateStraggler_27 rfl (lv_at hl 3 rfl) ?_
      refine x_calli (pc := 28) C I hA (m_X6_isCandidate h) c_RX6_125 wR_0 rfl ⟨Nat.le_of_ble_eq_true rfl, Nat.le_of_ble_eq_true rfl⟩ ⟨rfl, rfl⟩ ⟨Nat.le_of_ble_eq_true rfl, Nat.le_of_ble_eq_true rfl⟩ (As := [.int x3]) rfl hl.1 rfl (Nat.le_of_ble_eq_true rfl) dX6_lateStraggler_28 (fun r10 N9 H locs h I => ?_)
      refine lv_if_eq (pc := 31) (tgt := 50) hx hb dX6_lateStraggler_31 (by decide) (fun g11 => ?_) (fun g11 => ?_)
      · have h := h.1 g11
        refine lv_iconst (pc := 50) (v := 0) hx hb dX6_lateStraggler_50 (by decide) ?_
        refine lv_istore (pc := 51) (lv' := [(4, .int 0), (0, .ref (r 0)), (1, .int x1), (2, .int x2), (3, .int x3)]) hx hb dX6_lateStraggler_51 hl (by decide) rfl (fun ls hl => ?_)
        refine lv_iload (pc := 53) hx hb dX6_lateStraggler_53 (lv_at hl 0 rfl) ?_
        refine lv_if_eq (pc := 55) (tgt := 81) hx hb dX6_lateStraggler_55 (by decide) (fun _ => ?_) (fun g => absurd g (by decide))
        refine lv_iload_n (pc := 81) hx hb dX6_lateStraggler_81 rfl (lv_at hl 3 rfl) ?_
        refine lv_istore_n (pc := 82) (lv' := [(2, .int x2), (4, .int 0), (0, .ref (r 0)), (1, .int x1), (3, .int x3)]) hx hb dX6_lateStraggler_82 rfl hl (by decide) rfl (fun ls hl => ?_)
        obtain ⟨y12, ey12⟩ : ∃ y : Int32, y = (x3 + 1) := ⟨_, rfl⟩
        have h := h y12 ey12
        refine lv_iinc (pc := 83) (v := y12) (lv' := [(3, .int y12), (2, .int x2), (4, .int 0), (0, .ref (r 0)), (1, .int x1)]) hx hb dX6_lateStraggler_83 hl (k := 4) rfl (by rw [ey12]; rfl) (by decide) rfl (fun ls hl => ?_)
        refine lv_goto (pc := 86) (tgt := 18) hx hb dX6_lateStraggler_86 (by decide) ?_
        exact ih18 N9 x1 x2 y12 _ _ _ h I (lv_sub hl [3, 4, 1, 0] rfl)
      · have h := h.2 g11
        refine lv_aload_n (pc := 34) hx hb dX6_lateStraggler_34 rfl (lv_at hl 0 rfl) ?_
        refine lv_iload_n (pc := 35) hx hb dX6_lateStraggler_35 rfl (lv_at hl 3 rfl) ?_
        refine x_calli (pc := 36) C I hA (m_X6_rateOf h) c_RX6_116 wR_0 rfl ⟨Nat.le_of_ble_eq_true rfl, Nat.le_of_ble_eq_true rfl⟩ ⟨rfl, rfl⟩ ⟨Nat.le_of_ble_eq_true rfl, Nat.le_of_ble_eq_true rfl⟩ (As := [.int x3]) rfl hl.1 rfl (Nat.le_of_ble_eq_true rfl) dX6_lateStraggler_36 (fun r14 N13 H locs h I => ?_)
        refine lv_bipush (pc := 39) (v := 100) hx hb dX6_lateStraggler_39 (by decide) ?_
        refine lv_imul (pc := 41) hx hb dX6_lateStraggler_41 ?_
        refine lv_iload_n (pc := 42) hx hb dX6_lateStraggler_42 rfl (lv_at hl 1 rfl) ?_
        refine lv_icmp_ge (pc := 43) (tgt := 50) hx hb dX6_lateStraggler_43 (by decide) (fun g15 => ?_) (fun g15 => ?_)
        · have h := h.1 g15
          refine lv_iconst (pc := 50) (v := 0) hx hb dX6_lateStraggler_50 (by decide) ?_
          refine lv_istore (pc := 51) (lv' := [(4, .int 0), (0, .ref (r 0)), (1, .int x1), (2, .int x2), (3, .int x3)]) hx hb dX6_lateStraggler_51 hl (by decide) rfl (fun ls hl => ?_)
          refine lv_iload (pc := 53) hx hb dX6_lateStraggler_53 (lv_at hl 0 rfl) ?_
          refine lv_if_eq (pc := 55) (tgt := 81) hx hb dX6_lateStraggler_55 (by decide) (fun _ => ?_) (fun g => absurd g (by decide))
          refine lv_iload_n (pc := 81) hx hb dX6_lateStraggler_81 rfl (lv_at hl 3 rfl) ?_
          refine lv_istore_n (pc := 82) (lv' := [(2, .int x2), (4, .int 0), (0, .ref (r 0)), (1, .int x1), (3, .int x3)]) hx hb dX6_lateStraggler_82 rfl hl (by decide) rfl (fun ls hl => ?_)
          obtain ⟨y16, ey16⟩ : ∃ y : Int32, y = (x3 + 1) := ⟨_, rfl⟩
          have h := h y16 ey16
          refine lv_iinc (pc := 83) (v := y16) (lv' := [(3, .int y16), (2, .int x2), (4, .int 0), (0, .ref (r 0)), (1, .int x1)]) hx hb dX6_lateStraggler_83 hl (k := 4) rfl (by rw [ey16]; rfl) (by decide) rfl (fun ls hl => ?_)
          refine lv_goto (pc := 86) (tgt := 18) hx hb dX6_lateStraggler_86 (by decide) ?_
          exact ih18 N13 x1 x2 y16 _ _ _ h I (lv_sub hl [3, 4, 1, 0] rfl)
        · have h := h.2 g15
          refine lv_iconst (pc := 46) (v := 1) hx hb dX6_lateStraggler_46 (by decide) ?_
          refine lv_goto (pc := 47) (tgt := 51) hx hb dX6_lateStraggler_47 (by decide) ?_
          refine lv_istore (pc := 51) (lv' := [(4, .int 1), (0, .ref (r 0)), (1, .int x1), (2, .int x2), (3, .int x3)]) hx hb dX6_lateStraggler_51 hl (by decide) rfl (fun ls hl => ?_)
          refine lv_iload (pc := 53) hx hb dX6_lateStraggler_53 (lv_at hl 0 rfl) ?_
          refine lv_if_eq (pc := 55) (tgt := 81) hx hb dX6_lateStraggler_55 (by decide) (fun g => absurd g (by decide)) (fun _ => ?_)
          refine lv_iload_n (pc := 58) hx hb dX6_lateStraggler_58 rfl (lv_at hl 3 rfl) ?_
          refine lv_bipush (pc := 59) (v := (-6)) hx hb dX6_lateStraggler_59 (by decide) ?_
          refine lv_icmp_eq (pc := 61) (tgt := 77) hx hb dX6_lateStraggler_61 (by decide) (fun g17 => ?_) (fun g17 => ?_)
          · have h := h.1 g17
            refine lv_iload_n (pc := 77) hx hb dX6_lateStraggler_77 rfl (lv_at hl 4 rfl) ?_
            refine lv_goto (pc := 78) (tgt := 82) hx hb dX6_lateStraggler_78 (by decide) ?_
            refine lv_istore_n (pc := 82) (lv' := [(2, .int x3), (4, .int 1), (0, .ref (r 0)), (1, .int x1), (3, .int x3)]) hx hb dX6_lateStraggler_82 rfl hl (by decide) rfl (fun ls hl => ?_)
            obtain ⟨y18, ey18⟩ : ∃ y : Int32, y = (x3 + 1) := ⟨_, rfl⟩
            have h := h y18 ey18
            refine lv_iinc (pc := 83) (v := y18) (lv' := [(3, .int y18), (2, .int x3), (4, .int 1), (0, .ref (r 0)), (1, .int x1)]) hx hb dX6_lateStraggler_83 hl (k := 4) rfl (by rw [ey18]; rfl) (by decide) rfl (fun ls hl => ?_)
            refine lv_goto (pc := 86) (tgt := 18) hx hb dX6_lateStraggler_86 (by decide) ?_
            exact ih18 N13 x1 x3 y18 _ _ _ h I (lv_sub hl [3, 4, 1, 0] rfl)
          · have h := h.2 g17
            refine lv_aload_n (pc := 64) hx hb dX6_lateStraggler_64 rfl (lv_at hl 1 rfl) ?_
            refine lv_iload_n (pc := 65) hx hb dX6_lateStraggler_65 rfl (lv_at hl 4 rfl) ?_
            refine x_calli (pc := 66) C I hA (m_X6_remainingOf h) c_RX6_134 wR_0 rfl ⟨Nat.le_of_ble_eq_true rfl, Nat.le_of_ble_eq_true rfl⟩ ⟨rfl, rfl⟩ ⟨Nat.le_of_ble_eq_true rfl, Nat.le_of_ble_eq_true rfl⟩ (As := [.int x3]) rfl hl.1 rfl (Nat.le_of_ble_eq_true rfl) dX6_lateStraggler_66 (fun r20 N19 H locs h I => ?_)
            refine lv_aload_n (pc := 69) hx hb dX6_lateStraggler_69 rfl (lv_at hl 1 rfl) ?_
            refine lv_iload_n (pc := 70) hx hb dX6_lateStraggler_70 rfl (lv_at hl 3 rfl) ?_
            refine x_calli (pc := 71) C I hA (m_X6_remainingOf h) c_RX6_134 wR_0 rfl ⟨Nat.le_of_ble_eq_true rfl, Nat.le_of_ble_eq_true rfl⟩ ⟨rfl, rfl⟩ ⟨Nat.le_of_ble_eq_true rfl, Nat.le_of_ble_eq_true rfl⟩ (As := [.int x2]) rfl hl.1 rfl (Nat.le_of_ble_eq_true rfl) dX6_lateStraggler_71 (fun r22 N21 H locs h I => ?_)
            refine lv_icmp_le (pc := 74) (tgt := 81) hx hb dX6_lateStraggler_74 (by decide) (fun g23 => ?_) (fun g23 => ?_)
            · have h := h.1 g23
              refine lv_iload_n (pc := 81) hx hb dX6_lateStraggler_81 rfl (lv_at hl 3 rfl) ?_
              refine lv_istore_n (pc := 82) (lv' := [(2, .int x2), (4, .int 1), (0, .ref (r 0)), (1, .int x1), (3, .int x3)]) hx hb dX6_lateStraggler_82 rfl hl (by decide) rfl (fun ls hl => ?_)
              obtain ⟨y24, ey24⟩ : ∃ y : Int32, y = (x3 + 1) := ⟨_, rfl⟩
              have h := h y24 ey24
              refine lv_iinc (pc := 83) (v := y24) (lv' := [(3, .int y24), (2, .int x2), (4, .int 1), (0, .ref (r 0)), (1, .int x1)]) hx hb dX6_lateStraggler_83 hl (k := 4) rfl (by rw [ey24]; rfl) (by decide) rfl (fun ls hl => ?_)
              refine lv_goto (pc := 86) (tgt := 18) hx hb dX6_lateStraggler_86 (by decide) ?_
              exact ih18 N21 x1 x2 y24 _ _ _ h I (lv_sub hl [3, 4, 1, 0] rfl)
            · have h := h.2 g23
              refine lv_iload_n (pc := 77) hx hb dX6_lateStraggler_77 rfl (lv_at hl 4 rfl) ?_
              refine lv_goto (pc := 78) (tgt := 82) hx hb dX6_lateStraggler_78 (by decide) ?_
              refine lv_istore_n (pc := 82) (lv' := [(2, .int x3), (4, .int 1), (0, .ref (r 0)), (1, .int x1), (3, .int x3)]) hx hb dX6_lateStraggler_82 rfl hl (by decide) rfl (fun ls hl => ?_)
              obtain ⟨y25, ey25⟩ : ∃ y : Int32, y = (x3 + 1) := ⟨_, rfl⟩
              have h := h y25 ey25
              refine lv_iinc (pc := 83) (v := y25) (lv' := [(3, .int y25), (2, .int x3), (4, .int 1), (0, .ref (r 0)), (1, .int x1)]) hx hb dX6_lateStraggler_83 hl (k := 4) rfl (by rw [ey25]; rfl) (by decide) rfl (fun ls hl => ?_)
              refine lv_goto (pc := 86) (tgt := 18) hx hb dX6_lateStraggler_86 (by decide) ?_
              exact ih18 N21 x1 x3 y25 _ _ _ h I (lv_sub hl [3, 4, 1, 0] rfl)
set_option maxHeartbeats 4000000 in
set_option maxRecDepth 100000 in
theorem m_X6_lateStraggler {l : Launch} {D : va_G} {cI cZ : ClassId} {r : Nat → Nat} {N : xM} {post : Int32 → xM → Prop} (h : V_X6_lateStraggler N post) : xMi l yX6_lateStraggler cX6_lateStraggler 5 (some .int) { frames := 3, cells := 0, slots := 0, locals := 66 } D cI cZ (wR cI cZ r) N [.ref (r 0)] post := by
  refine x_bodyi (own := RX6) (by decide) rfl (Nat.le_of_ble_eq_true rfl) ?_
  intro p e s m below meth c A ls C hr hlocks hA I hl
  have hx := C.1.1
  have hb := C.1.2.1
  have hl : lv_has ls 5 [(0, .ref (r 0))] := hl
  unfold V_X6_lateStraggler at h
  refine lv_aload_n (pc := 0) hx hb dX6_lateStraggler_0 rfl (lv_at hl 0 rfl) ?_
  refine x_calli (pc := 1) C I hA (m_X6_meanRate h) c_RX6_131 wR_0 rfl ⟨Nat.le_of_ble_eq_true rfl, Nat.le_of_ble_eq_true rfl⟩ ⟨rfl, rfl⟩ ⟨Nat.le_of_ble_eq_true rfl, Nat.le_of_ble_eq_true rfl⟩ (As := []) rfl hl.1 rfl (Nat.le_of_ble_eq_true rfl) dX6_lateStraggler_1 (fun r2 N1 H locs h I => ?_)
  refine lv_aload_n (pc := 4) hx hb dX6_lateStraggler_4 rfl (lv_at hl 0 rfl) ?_
  refine x_get (pc := 5) C I wR_0 rfl inlX6 (k := 9) q_4_17 (by decide) rfl rfl dX6_lateStraggler_5 ?_
  refine lv_imul (pc := 8) hx hb dX6_lateStraggler_8 ?_
  refine lv_topi (fun y3 ey3 => ?_)
  have h := h y3 ey3
  refine lv_istore_n (pc := 9) (lv' := [(1, .int y3), (0, .ref (r 0))]) hx hb dX6_lateStraggler_9 rfl hl (by decide) rfl (fun ls hl => ?_)
  refine lv_bipush (pc := 10) (v := (-6)) hx hb dX6_lateStraggler_10 (by decide) ?_
  refine lv_istore_n (pc := 12) (lv' := [(2, .int (-6)), (1, .int y3), (0, .ref (r 0))]) hx hb dX6_lateStraggler_12 rfl hl (by decide) rfl (fun ls hl => ?_)
  refine lv_aload_n (pc := 13) hx hb dX6_lateStraggler_13 rfl (lv_at hl 2 rfl) ?_
  refine x_calli (pc := 14) C I hA (m_X6_first h) c_RX6_109 wR_0 rfl ⟨Nat.le_of_ble_eq_true rfl, Nat.le_of_ble_eq_true rfl⟩ ⟨rfl, rfl⟩ ⟨Nat.le_of_ble_eq_true rfl, Nat.le_of_ble_eq_true rfl⟩ (As := []) rfl hl.1 rfl (Nat.le_of_ble_eq_true rfl) dX6_lateStraggler_14 (fun r5 N4 H locs h I => ?_)
  refine lv_istore_n (pc := 17) (lv' := [(3, .int r5), (2, .int (-6)), (1, .int y3), (0, .ref (r 0))]) hx hb dX6_lateStraggler_17 rfl hl (by decide) rfl (fun ls hl => ?_)
  obtain ⟨n26, h⟩ := h
  exact k_X6_lateStraggler_L18 C hr hlocks hA n26 N4 y3 (-6) r5 _ _ _ h I (lv_sub hl [3, 2, 1, 0] rfl)
def V_X6_stragglerBy (N : xM) (x1 : Int32) (post : Int32 → xM → Prop) : Prop := ((x1 = 1 → (V_X6_naiveStraggler N  (fun r6 N5 => post r6 N5))) ∧ (¬ x1 = 1 → ((x1 = 2 → (V_X6_lateStraggler N  (fun r4 N3 => post r4 N3))) ∧ (¬ x1 = 2 → post (-6) N))))
set_option maxHeartbeats 4000000 in
set_option maxRecDepth 100000 in
theorem m_X6_stragglerBy {l : Launch} {D : va_G} {cI cZ : ClassId} {r : Nat → Nat} {N : xM} {x1 : Int32} {post : Int32 → xM → Prop} (h : V_X6_stragglerBy N x1 post) : xMi l yX6_stragglerBy cX6_stragglerBy 2 (some .int) { frames := 4, cells := 0, slots := 0, locals := 90 } D cI cZ (wR cI cZ r) N [.ref (r 0), .int x1] post := by
  refine x_bodyi (own := RX6) (by decide) rfl (Nat.le_of_ble_eq_true rfl) ?_
  intro p e s m below meth c A ls C hr hlocks hA I hl
  have hx := C.1.1
  have hb := C.1.2.1
  have hl : lv_has ls 2 [(0, .ref (r 0)), (1, .int x1)] := hl
  unfold V_X6_stragglerBy at h
  refine lv_iload_n (pc := 0) hx hb dX6_stragglerBy_0 rfl (lv_at hl 1 rfl) ?_
  refine lv_iconst (pc := 1) (v := 1) hx hb dX6_stragglerBy_1 (by decide) ?_
  refine lv_icmp_ne (pc := 2) (tgt := 12) hx hb dX6_stragglerBy_2 (by decide) (fun g1 => ?_) (fun g1 => ?_)
  · have h := h.2 g1
    refine lv_iload_n (pc := 12) hx hb dX6_stragglerBy_12 rfl (lv_at hl 1 rfl) ?_
    refine lv_iconst (pc := 13) (v := 2) hx hb dX6_stragglerBy_13 (by decide) ?_
    refine lv_icmp_ne (pc := 14) (tgt := 24) hx hb dX6_stragglerBy_14 (by decide) (fun g2 => ?_) (fun g2 => ?_)
    · have h := h.2 g2
      refine lv_bipush (pc := 24) (v := (-6)) hx hb dX6_stragglerBy_24 (by decide) ?_
      exact x_ireti (pc := 26) C I hr hlocks h dX6_stragglerBy_26
    · have h := h.1 g2
      refine lv_aload_n (pc := 17) hx hb dX6_stragglerBy_17 rfl (lv_at hl 0 rfl) ?_
      refine x_calli (pc := 18) C I hA (m_X6_lateStraggler h) c_RX6_140 wR_0 rfl ⟨Nat.le_of_ble_eq_true rfl, Nat.le_of_ble_eq_true rfl⟩ ⟨rfl, rfl⟩ ⟨Nat.le_of_ble_eq_true rfl, Nat.le_of_ble_eq_true rfl⟩ (As := []) rfl hl.1 rfl (Nat.le_of_ble_eq_true rfl) dX6_stragglerBy_18 (fun r4 N3 H locs h I => ?_)
      refine lv_goto (pc := 21) (tgt := 26) hx hb dX6_stragglerBy_21 (by decide) ?_
      exact x_ireti (pc := 26) C I hr hlocks h dX6_stragglerBy_26
  · have h := h.1 g1
    refine lv_aload_n (pc := 5) hx hb dX6_stragglerBy_5 rfl (lv_at hl 0 rfl) ?_
    refine x_calli (pc := 6) C I hA (m_X6_naiveStraggler h) c_RX6_137 wR_0 rfl ⟨Nat.le_of_ble_eq_true rfl, Nat.le_of_ble_eq_true rfl⟩ ⟨rfl, rfl⟩ ⟨Nat.le_of_ble_eq_true rfl, Nat.le_of_ble_eq_true rfl⟩ (As := []) rfl hl.1 rfl (Nat.le_of_ble_eq_true rfl) dX6_stragglerBy_6 (fun r6 N5 H locs h I => ?_)
    refine lv_goto (pc := 9) (tgt := 26) hx hb dX6_stragglerBy_9 (by decide) ?_
    exact x_ireti (pc := 26) C I hr hlocks h dX6_stragglerBy_26
def V_X6_speculative_L7 (post : Int32 → xM → Prop) : Nat → xM → Int32 → Int32 → Prop
  | 0, _, _, _ => False
  | n + 1, N0, x1, x2 => (V_X6_last N0  (fun r4 N3 => ((r4 ≤ x2 → post x1 N3) ∧ (¬ r4 ≤ x2 → (vp_in x2 400 ∧ (((N3 11 (x2).toNatClampNeg) = 1 → (vp_in x2 400 ∧ (((N3 12 (x2).toNatClampNeg) = 0 → (∀ y12 : Int32, y12 = (x1 + 0) → (∀ y13 : Int32, y13 = (x2 + 1) → (V_X6_speculative_L7 post n N3 y12 y13)))) ∧ (¬ (N3 12 (x2).toNatClampNeg) = 0 → (∀ y14 : Int32, y14 = (x1 + 1) → (∀ y15 : Int32, y15 = (x2 + 1) → (V_X6_speculative_L7 post n N3 y14 y15))))))) ∧ (¬ (N3 11 (x2).toNatClampNeg) = 1 → (∀ y8 : Int32, y8 = (x1 + 0) → (∀ y9 : Int32, y9 = (x2 + 1) → (V_X6_speculative_L7 post n N3 y8 y9))))))))))
def V_X6_speculative (N : xM) (post : Int32 → xM → Prop) : Prop := (V_X6_first N  (fun r2 N1 => (∃ n16 : Nat, V_X6_speculative_L7 post n16 N1 0 r2)))
set_option maxHeartbeats 4000000 in
set_option maxRecDepth 100000 in
theorem k_X6_speculative_L7 {l : Launch} {D : va_G} {cI cZ : ClassId} {r : Nat → Nat} {p : Program} {e : Env} {s : State} {m : MethodId} {below : List Frame} {meth : Method} {c : Code} {A : Nat → Prop} {args : Array Value} {post : Int32 → xM → Prop} (C : xC p s m args c cX6_speculative 3 RX6 D cI cZ) (hr : meth.sig.returnType = (some .int)) (hlocks : meth.locks = false) (hA : ∀ q : Nat, s.heap.size ≤ q → A q) (n : Nat) : ∀ (N0 : xM) (x1 x2 : Int32) (H : Heap) (locs : List Loc) (ls : Array Slot), V_X6_speculative_L7 post n N0 x1 x2 → xI D (wR cI cZ r N0) A s.heap H locs → lv_has ls 3 [(0, .ref (r 0)), (1, .int x1), (2, .int x2)] → W p l e { frames := 1, cells := 0, slots := 0, locals := 20 } s m args below meth c H locs 0 0 (MQ below (va_Qi post (xPost D cI cZ A (wR cI cZ r)) A) args s 0 0 A) (F0 m 7 ls []) := by
  have hx := C.1.1
  have hb := C.1.2.1
  induction n with
  | zero =>
    intro N0 x1 x2 H locs ls h I hl
    exact absurd h id
  | succ n ih7 =>
    intro N0 x1 x2 H locs ls h I hl
    rw [V_X6_speculative_L7] at h
    refine lv_iload_n (pc := 7) hx hb dX6_speculative_7 rfl (lv_at hl 2 rfl) ?_
    refine lv_aload_n (pc := 8) hx hb dX6_speculative_8 rfl (lv_at hl 0 rfl) ?_
    refine x_calli (pc := 9) C I hA (m_X6_last h) c_RX6_113 wR_0 rfl ⟨Nat.le_of_ble_eq_true rfl, Nat.le_of_ble_eq_true rfl⟩ ⟨rfl, rfl⟩ ⟨Nat.le_of_ble_eq_true rfl, Nat.le_of_ble_eq_true rfl⟩ (As := []) rfl hl.1 rfl (Nat.le_of_ble_eq_true rfl) dX6_speculative_9 (fun r4 N3 H locs h I => ?_)
    refine lv_icmp_ge (pc := 12) (tgt := 48) hx hb dX6_speculative_12 (by decide) (fun g5 => ?_) (fun g5 => ?_)
    · have h := h.1 g5
      refine lv_iload_n (pc := 48) hx hb dX6_speculative_48 rfl (lv_at hl 1 rfl) ?_
      exact x_ireti (pc := 49) C I hr hlocks h dX6_speculative_49
    · have h := h.2 g5
      refine lv_iload_n (pc := 15) hx hb dX6_speculative_15 rfl (lv_at hl 1 rfl) ?_
      refine lv_aload_n (pc := 16) hx hb dX6_speculative_16 rfl (lv_at hl 0 rfl) ?_
      refine x_get (pc := 17) C I wR_0 rfl inlX6 (k := 18) q_5_1 (by decide) rfl rfl dX6_speculative_17 ?_
      refine lv_iload_n (pc := 20) hx hb dX6_speculative_20 rfl (lv_at hl 2 rfl) ?_
      obtain ⟨g6, h⟩ := h
      refine x_ald (pc := 21) C I wR_11 g6 dX6_speculative_21 ?_
      refine lv_iconst (pc := 22) (v := 1) hx hb dX6_speculative_22 (by decide) ?_
      refine lv_icmp_ne (pc := 23) (tgt := 39) hx hb dX6_speculative_23 (by decide) (fun g7 => ?_) (fun g7 => ?_)
      · have h := h.2 g7
        refine lv_iconst (pc := 39) (v := 0) hx hb dX6_speculative_39 (by decide) ?_
        refine lv_iadd (pc := 40) hx hb dX6_speculative_40 ?_
        refine lv_topi (fun y8 ey8 => ?_)
        have h := h y8 ey8
        refine lv_istore_n (pc := 41) (lv' := [(1, .int y8), (0, .ref (r 0)), (2, .int x2)]) hx hb dX6_speculative_41 rfl hl (by decide) rfl (fun ls hl => ?_)
        obtain ⟨y9, ey9⟩ : ∃ y : Int32, y = (x2 + 1) := ⟨_, rfl⟩
        have h := h y9 ey9
        refine lv_iinc (pc := 42) (v := y9) (lv' := [(2, .int y9), (1, .int y8), (0, .ref (r 0))]) hx hb dX6_speculative_42 hl (k := 2) rfl (by rw [ey9]; rfl) (by decide) rfl (fun ls hl => ?_)
        refine lv_goto (pc := 45) (tgt := 7) hx hb dX6_speculative_45 (by decide) ?_
        exact ih7 N3 y8 y9 _ _ _ h I (lv_sub hl [2, 1, 0] rfl)
      · have h := h.1 g7
        refine lv_aload_n (pc := 26) hx hb dX6_speculative_26 rfl (lv_at hl 0 rfl) ?_
        refine x_get (pc := 27) C I wR_0 rfl inlX6 (k := 19) q_5_2 (by decide) rfl rfl dX6_speculative_27 ?_
        refine lv_iload_n (pc := 30) hx hb dX6_speculative_30 rfl (lv_at hl 2 rfl) ?_
        obtain ⟨g10, h⟩ := h
        refine x_zld (pc := 31) C I wR_12 g10 dX6_speculative_31 ?_
        refine lv_if_eq (pc := 32) (tgt := 39) hx hb dX6_speculative_32 (by decide) (fun g11 => ?_) (fun g11 => ?_)
        · have h := h.1 g11
          refine lv_iconst (pc := 39) (v := 0) hx hb dX6_speculative_39 (by decide) ?_
          refine lv_iadd (pc := 40) hx hb dX6_speculative_40 ?_
          refine lv_topi (fun y12 ey12 => ?_)
          have h := h y12 ey12
          refine lv_istore_n (pc := 41) (lv' := [(1, .int y12), (0, .ref (r 0)), (2, .int x2)]) hx hb dX6_speculative_41 rfl hl (by decide) rfl (fun ls hl => ?_)
          obtain ⟨y13, ey13⟩ : ∃ y : Int32, y = (x2 + 1) := ⟨_, rfl⟩
          have h := h y13 ey13
          refine lv_iinc (pc := 42) (v := y13) (lv' := [(2, .int y13), (1, .int y12), (0, .ref (r 0))]) hx hb dX6_speculative_42 hl (k := 2) rfl (by rw [ey13]; rfl) (by decide) rfl (fun ls hl => ?_)
          refine lv_goto (pc := 45) (tgt := 7) hx hb dX6_speculative_45 (by decide) ?_
          exact ih7 N3 y12 y13 _ _ _ h I (lv_sub hl [2, 1, 0] rfl)
        · have h := h.2 g11
          refine lv_iconst (pc := 35) (v := 1) hx hb dX6_speculative_35 (by decide) ?_
          refine lv_goto (pc := 36) (tgt := 40) hx hb dX6_speculative_36 (by decide) ?_
          refine lv_iadd (pc := 40) hx hb dX6_speculative_40 ?_
          refine lv_topi (fun y14 ey14 => ?_)
          have h := h y14 ey14
          refine lv_istore_n (pc := 41) (lv' := [(1, .int y14), (0, .ref (r 0)), (2, .int x2)]) hx hb dX6_speculative_41 rfl hl (by decide) rfl (fun ls hl => ?_)
          obtain ⟨y15, ey15⟩ : ∃ y : Int32, y = (x2 + 1) := ⟨_, rfl⟩
          have h := h y15 ey15
          refine lv_iinc (pc := 42) (v := y15) (lv' := [(2, .int y15), (1, .int y14), (0, .ref (r 0))]) hx hb dX6_speculative_42 hl (k := 2) rfl (by rw [ey15]; rfl) (by decide) rfl (fun ls hl => ?_)
          refine lv_goto (pc := 45) (tgt := 7) hx hb dX6_speculative_45 (by decide) ?_
          exact ih7 N3 y14 y15 _ _ _ h I (lv_sub hl [2, 1, 0] rfl)
set_option maxHeartbeats 4000000 in
set_option maxRecDepth 100000 in
theorem m_X6_speculative {l : Launch} {D : va_G} {cI cZ : ClassId} {r : Nat → Nat} {N : xM} {post : Int32 → xM → Prop} (h : V_X6_speculative N post) : xMi l yX6_speculative cX6_speculative 3 (some .int) { frames := 1, cells := 0, slots := 0, locals := 20 } D cI cZ (wR cI cZ r) N [.ref (r 0)] post := by
  refine x_bodyi (own := RX6) (by decide) rfl (Nat.le_of_ble_eq_true rfl) ?_
  intro p e s m below meth c A ls C hr hlocks hA I hl
  have hx := C.1.1
  have hb := C.1.2.1
  have hl : lv_has ls 3 [(0, .ref (r 0))] := hl
  unfold V_X6_speculative at h
  refine lv_iconst (pc := 0) (v := 0) hx hb dX6_speculative_0 (by decide) ?_
  refine lv_istore_n (pc := 1) (lv' := [(1, .int 0), (0, .ref (r 0))]) hx hb dX6_speculative_1 rfl hl (by decide) rfl (fun ls hl => ?_)
  refine lv_aload_n (pc := 2) hx hb dX6_speculative_2 rfl (lv_at hl 1 rfl) ?_
  refine x_calli (pc := 3) C I hA (m_X6_first h) c_RX6_109 wR_0 rfl ⟨Nat.le_of_ble_eq_true rfl, Nat.le_of_ble_eq_true rfl⟩ ⟨rfl, rfl⟩ ⟨Nat.le_of_ble_eq_true rfl, Nat.le_of_ble_eq_true rfl⟩ (As := []) rfl hl.1 rfl (Nat.le_of_ble_eq_true rfl) dX6_speculative_3 (fun r2 N1 H locs h I => ?_)
  refine lv_istore_n (pc := 6) (lv' := [(2, .int r2), (1, .int 0), (0, .ref (r 0))]) hx hb dX6_speculative_6 rfl hl (by decide) rfl (fun ls hl => ?_)
  obtain ⟨n16, h⟩ := h
  exact k_X6_speculative_L7 C hr hlocks hA n16 N1 0 r2 _ _ _ h I (lv_sub hl [2, 1, 0] rfl)
def V_X6_stateOfTask (N : xM) (x1 : Int32) (post : Int32 → xM → Prop) : Prop := (∀ y1 : Int32, y1 = ((24 * (N 0 11)) + x1) → (vp_in y1 48 ∧ (((N 13 (y1).toNatClampNeg) = (-6) → (vp_in y1 48 ∧ (((N 15 (y1).toNatClampNeg) ≤ 0 → post 0 N) ∧ (¬ (N 15 (y1).toNatClampNeg) ≤ 0 → post 1 N)))) ∧ (¬ (N 13 (y1).toNatClampNeg) = (-6) → post 2 N))))
set_option maxHeartbeats 4000000 in
set_option maxRecDepth 100000 in
theorem m_X6_stateOfTask {l : Launch} {D : va_G} {cI cZ : ClassId} {r : Nat → Nat} {N : xM} {x1 : Int32} {post : Int32 → xM → Prop} (h : V_X6_stateOfTask N x1 post) : xMi l yX6_stateOfTask cX6_stateOfTask 3 (some .int) { frames := 0, cells := 0, slots := 0, locals := 0 } D cI cZ (wR cI cZ r) N [.ref (r 0), .int x1] post := by
  refine x_bodyi (own := RX6) (by decide) rfl (Nat.le_of_ble_eq_true rfl) ?_
  intro p e s m below meth c A ls C hr hlocks hA I hl
  have hx := C.1.1
  have hb := C.1.2.1
  have hl : lv_has ls 3 [(0, .ref (r 0)), (1, .int x1)] := hl
  unfold V_X6_stateOfTask at h
  refine lv_bipush (pc := 0) (v := 24) hx hb dX6_stateOfTask_0 (by decide) ?_
  refine lv_aload_n (pc := 2) hx hb dX6_stateOfTask_2 rfl (lv_at hl 0 rfl) ?_
  refine x_get (pc := 3) C I wR_0 rfl inlX6 (k := 11) q_8_7 (by decide) rfl rfl dX6_stateOfTask_3 ?_
  refine lv_imul (pc := 6) hx hb dX6_stateOfTask_6 ?_
  refine lv_iload_n (pc := 7) hx hb dX6_stateOfTask_7 rfl (lv_at hl 1 rfl) ?_
  refine lv_iadd (pc := 8) hx hb dX6_stateOfTask_8 ?_
  refine lv_topi (fun y1 ey1 => ?_)
  have h := h y1 ey1
  refine lv_istore_n (pc := 9) (lv' := [(2, .int y1), (0, .ref (r 0)), (1, .int x1)]) hx hb dX6_stateOfTask_9 rfl hl (by decide) rfl (fun ls hl => ?_)
  refine lv_aload_n (pc := 10) hx hb dX6_stateOfTask_10 rfl (lv_at hl 1 rfl) ?_
  refine x_get (pc := 11) C I wR_0 rfl inlX6 (k := 20) q_5_3 (by decide) rfl rfl dX6_stateOfTask_11 ?_
  refine lv_iload_n (pc := 14) hx hb dX6_stateOfTask_14 rfl (lv_at hl 0 rfl) ?_
  obtain ⟨g2, h⟩ := h
  refine x_ald (pc := 15) C I wR_13 g2 dX6_stateOfTask_15 ?_
  refine lv_bipush (pc := 16) (v := (-6)) hx hb dX6_stateOfTask_16 (by decide) ?_
  refine lv_icmp_eq (pc := 18) (tgt := 25) hx hb dX6_stateOfTask_18 (by decide) (fun g3 => ?_) (fun g3 => ?_)
  · have h := h.1 g3
    refine lv_aload_n (pc := 25) hx hb dX6_stateOfTask_25 rfl (lv_at hl 1 rfl) ?_
    refine x_get (pc := 26) C I wR_0 rfl inlX6 (k := 22) q_5_5 (by decide) rfl rfl dX6_stateOfTask_26 ?_
    refine lv_iload_n (pc := 29) hx hb dX6_stateOfTask_29 rfl (lv_at hl 0 rfl) ?_
    obtain ⟨g4, h⟩ := h
    refine x_ald (pc := 30) C I wR_15 g4 dX6_stateOfTask_30 ?_
    refine lv_if_le (pc := 31) (tgt := 38) hx hb dX6_stateOfTask_31 (by decide) (fun g5 => ?_) (fun g5 => ?_)
    · have h := h.1 g5
      refine lv_iconst (pc := 38) (v := 0) hx hb dX6_stateOfTask_38 (by decide) ?_
      exact x_ireti (pc := 39) C I hr hlocks h dX6_stateOfTask_39
    · have h := h.2 g5
      refine lv_iconst (pc := 34) (v := 1) hx hb dX6_stateOfTask_34 (by decide) ?_
      refine lv_goto (pc := 35) (tgt := 39) hx hb dX6_stateOfTask_35 (by decide) ?_
      exact x_ireti (pc := 39) C I hr hlocks h dX6_stateOfTask_39
  · have h := h.2 g3
    refine lv_iconst (pc := 21) (v := 2) hx hb dX6_stateOfTask_21 (by decide) ?_
    refine lv_goto (pc := 22) (tgt := 39) hx hb dX6_stateOfTask_22 (by decide) ?_
    exact x_ireti (pc := 39) C I hr hlocks h dX6_stateOfTask_39
def V_X6_firstWaiting_L2 (post : Int32 → xM → Prop) : Nat → xM → Int32 → Prop
  | 0, _, _ => False
  | n + 1, N0, x1 => (((N0 0 4) ≤ x1 → post (-6) N0) ∧ (¬ (N0 0 4) ≤ x1 → (V_X6_stateOfTask N0 x1 (fun r3 N2 => ((r3 = 0 → post x1 N2) ∧ (¬ r3 = 0 → (∀ y5 : Int32, y5 = (x1 + 1) → (V_X6_firstWaiting_L2 post n N2 y5))))))))
def V_X6_firstWaiting (N : xM) (post : Int32 → xM → Prop) : Prop := (∃ n6 : Nat, V_X6_firstWaiting_L2 post n6 N 0)
set_option maxHeartbeats 4000000 in
set_option maxRecDepth 100000 in
theorem k_X6_firstWaiting_L2 {l : Launch} {D : va_G} {cI cZ : ClassId} {r : Nat → Nat} {p : Program} {e : Env} {s : State} {m : MethodId} {below : List Frame} {meth : Method} {c : Code} {A : Nat → Prop} {args : Array Value} {post : Int32 → xM → Prop} (C : xC p s m args c cX6_firstWaiting 2 RX6 D cI cZ) (hr : meth.sig.returnType = (some .int)) (hlocks : meth.locks = false) (hA : ∀ q : Nat, s.heap.size ≤ q → A q) (n : Nat) : ∀ (N0 : xM) (x1 : Int32) (H : Heap) (locs : List Loc) (ls : Array Slot), V_X6_firstWaiting_L2 post n N0 x1 → xI D (wR cI cZ r N0) A s.heap H locs → lv_has ls 2 [(0, .ref (r 0)), (1, .int x1)] → W p l e { frames := 1, cells := 0, slots := 0, locals := 22 } s m args below meth c H locs 0 0 (MQ below (va_Qi post (xPost D cI cZ A (wR cI cZ r)) A) args s 0 0 A) (F0 m 2 ls []) := by
  have hx := C.1.1
  have hb := C.1.2.1
  induction n with
  | zero =>
    intro N0 x1 H locs ls h I hl
    exact absurd h id
  | succ n ih2 =>
    intro N0 x1 H locs ls h I hl
    rw [V_X6_firstWaiting_L2] at h
    refine lv_iload_n (pc := 2) hx hb dX6_firstWaiting_2 rfl (lv_at hl 1 rfl) ?_
    refine lv_aload_n (pc := 3) hx hb dX6_firstWaiting_3 rfl (lv_at hl 0 rfl) ?_
    refine x_get (pc := 4) C I wR_0 rfl inlX6 (k := 4) q_9_5 (by decide) rfl rfl dX6_firstWaiting_4 ?_
    refine lv_icmp_ge (pc := 7) (tgt := 26) hx hb dX6_firstWaiting_7 (by decide) (fun g1 => ?_) (fun g1 => ?_)
    · have h := h.1 g1
      refine lv_bipush (pc := 26) (v := (-6)) hx hb dX6_firstWaiting_26 (by decide) ?_
      exact x_ireti (pc := 28) C I hr hlocks h dX6_firstWaiting_28
    · have h := h.2 g1
      refine lv_aload_n (pc := 10) hx hb dX6_firstWaiting_10 rfl (lv_at hl 0 rfl) ?_
      refine lv_iload_n (pc := 11) hx hb dX6_firstWaiting_11 rfl (lv_at hl 1 rfl) ?_
      refine x_calli (pc := 12) C I hA (m_X6_stateOfTask h) c_RX6_143 wR_0 rfl ⟨Nat.le_of_ble_eq_true rfl, Nat.le_of_ble_eq_true rfl⟩ ⟨rfl, rfl⟩ ⟨Nat.le_of_ble_eq_true rfl, Nat.le_of_ble_eq_true rfl⟩ (As := [.int x1]) rfl hl.1 rfl (Nat.le_of_ble_eq_true rfl) dX6_firstWaiting_12 (fun r3 N2 H locs h I => ?_)
      refine lv_if_ne (pc := 15) (tgt := 20) hx hb dX6_firstWaiting_15 (by decide) (fun g4 => ?_) (fun g4 => ?_)
      · have h := h.2 g4
        obtain ⟨y5, ey5⟩ : ∃ y : Int32, y = (x1 + 1) := ⟨_, rfl⟩
        have h := h y5 ey5
        refine lv_iinc (pc := 20) (v := y5) (lv' := [(1, .int y5), (0, .ref (r 0))]) hx hb dX6_firstWaiting_20 hl (k := 1) rfl (by rw [ey5]; rfl) (by decide) rfl (fun ls hl => ?_)
        refine lv_goto (pc := 23) (tgt := 2) hx hb dX6_firstWaiting_23 (by decide) ?_
        exact ih2 N2 y5 _ _ _ h I (lv_sub hl [1, 0] rfl)
      · have h := h.1 g4
        refine lv_iload_n (pc := 18) hx hb dX6_firstWaiting_18 rfl (lv_at hl 1 rfl) ?_
        exact x_ireti (pc := 19) C I hr hlocks h dX6_firstWaiting_19
set_option maxHeartbeats 4000000 in
set_option maxRecDepth 100000 in
theorem m_X6_firstWaiting {l : Launch} {D : va_G} {cI cZ : ClassId} {r : Nat → Nat} {N : xM} {post : Int32 → xM → Prop} (h : V_X6_firstWaiting N post) : xMi l yX6_firstWaiting cX6_firstWaiting 2 (some .int) { frames := 1, cells := 0, slots := 0, locals := 22 } D cI cZ (wR cI cZ r) N [.ref (r 0)] post := by
  refine x_bodyi (own := RX6) (by decide) rfl (Nat.le_of_ble_eq_true rfl) ?_
  intro p e s m below meth c A ls C hr hlocks hA I hl
  have hx := C.1.1
  have hb := C.1.2.1
  have hl : lv_has ls 2 [(0, .ref (r 0))] := hl
  unfold V_X6_firstWaiting at h
  refine lv_iconst (pc := 0) (v := 0) hx hb dX6_firstWaiting_0 (by decide) ?_
  refine lv_istore_n (pc := 1) (lv' := [(1, .int 0), (0, .ref (r 0))]) hx hb dX6_firstWaiting_1 rfl hl (by decide) rfl (fun ls hl => ?_)
  obtain ⟨n6, h⟩ := h
  exact k_X6_firstWaiting_L2 C hr hlocks hA n6 N 0 _ _ _ h I (lv_sub hl [1, 0] rfl)
def V_X6_starts (N : xM) (x1 x2 : Int32) (post : xM → Prop) : Prop := (V_X6_last N  (fun r2 N1 => (vp_in r2 400 ∧ ∀ N4 : xM, N4 = xu N1 7 (r2).toNatClampNeg x1 → (vp_in r2 400 ∧ ∀ N6 : xM, N6 = xu N4 8 (r2).toNatClampNeg x2 → (vp_in r2 400 ∧ ∀ N8 : xM, N8 = xu N6 9 (r2).toNatClampNeg 0 → (vp_in r2 400 ∧ ∀ N10 : xM, N10 = xu N8 10 (r2).toNatClampNeg 0 → (vp_in r2 400 ∧ ∀ N12 : xM, N12 = xu N10 11 (r2).toNatClampNeg 1 → (vp_in ((24 * (N12 0 11)) + x1) 48 ∧ (((N12 15 (((24 * (N12 0 11)) + x1)).toNatClampNeg) ≤ 0 → (vp_in r2 400 ∧ ∀ N16 : xM, N16 = xu N12 12 (r2).toNatClampNeg (vp_nar .boolean 0) → (vp_in ((24 * (N16 0 11)) + x1) 48 ∧ (vp_in ((24 * (N16 0 11)) + x1) 48 ∧ ∀ N19 : xM, N19 = xu N16 15 (((24 * (N16 0 11)) + x1)).toNatClampNeg ((N16 15 (((24 * (N16 0 11)) + x1)).toNatClampNeg) + 1) → (vp_in ((8 * (N19 0 11)) + x2) 16 ∧ (vp_in ((8 * (N19 0 11)) + x2) 16 ∧ ∀ N22 : xM, N22 = xu N19 16 (((8 * (N19 0 11)) + x2)).toNatClampNeg ((N19 16 (((8 * (N19 0 11)) + x2)).toNatClampNeg) + 1) → (vp_in (N22 0 11) 2 ∧ (vp_in (N22 0 11) 2 ∧ ∀ N25 : xM, N25 = xu N22 5 ((N22 0 11)).toNatClampNeg ((N22 5 ((N22 0 11)).toNatClampNeg) + 1) → post N25)))))))) ∧ (¬ (N12 15 (((24 * (N12 0 11)) + x1)).toNatClampNeg) ≤ 0 → (vp_in r2 400 ∧ ∀ N27 : xM, N27 = xu N12 12 (r2).toNatClampNeg (vp_nar .boolean 1) → (vp_in ((24 * (N27 0 11)) + x1) 48 ∧ (vp_in ((24 * (N27 0 11)) + x1) 48 ∧ ∀ N30 : xM, N30 = xu N27 15 (((24 * (N27 0 11)) + x1)).toNatClampNeg ((N27 15 (((24 * (N27 0 11)) + x1)).toNatClampNeg) + 1) → (vp_in ((8 * (N30 0 11)) + x2) 16 ∧ (vp_in ((8 * (N30 0 11)) + x2) 16 ∧ ∀ N33 : xM, N33 = xu N30 16 (((8 * (N30 0 11)) + x2)).toNatClampNeg ((N30 16 (((8 * (N30 0 11)) + x2)).toNatClampNeg) + 1) → (vp_in (N33 0 11) 2 ∧ (vp_in (N33 0 11) 2 ∧ ∀ N36 : xM, N36 = xu N33 5 ((N33 0 11)).toNatClampNeg ((N33 5 ((N33 0 11)).toNatClampNeg) + 1) → post N36)))))))))))))))))
set_option maxHeartbeats 4000000 in
set_option maxRecDepth 100000 in
theorem m_X6_starts {l : Launch} {D : va_G} {cI cZ : ClassId} {r : Nat → Nat} {N : xM} {x1 x2 : Int32} {post : xM → Prop} (h : V_X6_starts N x1 x2 post) : xMv l yX6_starts cX6_starts 4 none { frames := 1, cells := 0, slots := 0, locals := 20 } D cI cZ (wR cI cZ r) N [.ref (r 0), .int x1, .int x2] post := by
  refine x_bodyv (own := RX6) (by decide) rfl (Nat.le_of_ble_eq_true rfl) ?_
  intro p e s m below meth c A ls C hr hlocks hA I hl
  have hx := C.1.1
  have hb := C.1.2.1
  have hl : lv_has ls 4 [(0, .ref (r 0)), (1, .int x1), (2, .int x2)] := hl
  unfold V_X6_starts at h
  refine lv_aload_n (pc := 0) hx hb dX6_starts_0 rfl (lv_at hl 0 rfl) ?_
  refine x_calli (pc := 1) C I hA (m_X6_last h) c_RX6_113 wR_0 rfl ⟨Nat.le_of_ble_eq_true rfl, Nat.le_of_ble_eq_true rfl⟩ ⟨rfl, rfl⟩ ⟨Nat.le_of_ble_eq_true rfl, Nat.le_of_ble_eq_true rfl⟩ (As := []) rfl hl.1 rfl (Nat.le_of_ble_eq_true rfl) dX6_starts_1 (fun r2 N1 H locs h I => ?_)
  refine lv_istore_n (pc := 4) (lv' := [(3, .int r2), (0, .ref (r 0)), (1, .int x1), (2, .int x2)]) hx hb dX6_starts_4 rfl hl (by decide) rfl (fun ls hl => ?_)
  refine lv_aload_n (pc := 5) hx hb dX6_starts_5 rfl (lv_at hl 1 rfl) ?_
  refine x_get (pc := 6) C I wR_0 rfl inlX6 (k := 14) q_4_21 (by decide) rfl rfl dX6_starts_6 ?_
  refine lv_iload_n (pc := 9) hx hb dX6_starts_9 rfl (lv_at hl 0 rfl) ?_
  refine lv_iload_n (pc := 10) hx hb dX6_starts_10 rfl (lv_at hl 2 rfl) ?_
  obtain ⟨g3, h⟩ := h
  refine x_ast (pc := 11) C I wR_7 g3 sR_7 dX6_starts_11 (fun H locs I => ?_)
  obtain ⟨N4, eN4⟩ : ∃ z : xM, z = xu N1 7 (r2).toNatClampNeg x1 := ⟨_, rfl⟩
  have h := h N4 eN4
  rw [← eN4] at I
  refine lv_aload_n (pc := 12) hx hb dX6_starts_12 rfl (lv_at hl 1 rfl) ?_
  refine x_get (pc := 13) C I wR_0 rfl inlX6 (k := 15) q_4_22 (by decide) rfl rfl dX6_starts_13 ?_
  refine lv_iload_n (pc := 16) hx hb dX6_starts_16 rfl (lv_at hl 0 rfl) ?_
  refine lv_iload_n (pc := 17) hx hb dX6_starts_17 rfl (lv_at hl 3 rfl) ?_
  obtain ⟨g5, h⟩ := h
  refine x_ast (pc := 18) C I wR_8 g5 sR_8 dX6_starts_18 (fun H locs I => ?_)
  obtain ⟨N6, eN6⟩ : ∃ z : xM, z = xu N4 8 (r2).toNatClampNeg x2 := ⟨_, rfl⟩
  have h := h N6 eN6
  rw [← eN6] at I
  refine lv_aload_n (pc := 19) hx hb dX6_starts_19 rfl (lv_at hl 1 rfl) ?_
  refine x_get (pc := 20) C I wR_0 rfl inlX6 (k := 16) q_4_23 (by decide) rfl rfl dX6_starts_20 ?_
  refine lv_iload_n (pc := 23) hx hb dX6_starts_23 rfl (lv_at hl 0 rfl) ?_
  refine lv_iconst (pc := 24) (v := 0) hx hb dX6_starts_24 (by decide) ?_
  obtain ⟨g7, h⟩ := h
  refine x_ast (pc := 25) C I wR_9 g7 sR_9 dX6_starts_25 (fun H locs I => ?_)
  obtain ⟨N8, eN8⟩ : ∃ z : xM, z = xu N6 9 (r2).toNatClampNeg 0 := ⟨_, rfl⟩
  have h := h N8 eN8
  rw [← eN8] at I
  refine lv_aload_n (pc := 26) hx hb dX6_starts_26 rfl (lv_at hl 1 rfl) ?_
  refine x_get (pc := 27) C I wR_0 rfl inlX6 (k := 17) q_5_0 (by decide) rfl rfl dX6_starts_27 ?_
  refine lv_iload_n (pc := 30) hx hb dX6_starts_30 rfl (lv_at hl 0 rfl) ?_
  refine lv_iconst (pc := 31) (v := 0) hx hb dX6_starts_31 (by decide) ?_
  obtain ⟨g9, h⟩ := h
  refine x_ast (pc := 32) C I wR_10 g9 sR_10 dX6_starts_32 (fun H locs I => ?_)
  obtain ⟨N10, eN10⟩ : ∃ z : xM, z = xu N8 10 (r2).toNatClampNeg 0 := ⟨_, rfl⟩
  have h := h N10 eN10
  rw [← eN10] at I
  refine lv_aload_n (pc := 33) hx hb dX6_starts_33 rfl (lv_at hl 1 rfl) ?_
  refine x_get (pc := 34) C I wR_0 rfl inlX6 (k := 18) q_5_1 (by decide) rfl rfl dX6_starts_34 ?_
  refine lv_iload_n (pc := 37) hx hb dX6_starts_37 rfl (lv_at hl 0 rfl) ?_
  refine lv_iconst (pc := 38) (v := 1) hx hb dX6_starts_38 (by decide) ?_
  obtain ⟨g11, h⟩ := h
  refine x_ast (pc := 39) C I wR_11 g11 sR_11 dX6_starts_39 (fun H locs I => ?_)
  obtain ⟨N12, eN12⟩ : ∃ z : xM, z = xu N10 11 (r2).toNatClampNeg 1 := ⟨_, rfl⟩
  have h := h N12 eN12
  rw [← eN12] at I
  refine lv_aload_n (pc := 40) hx hb dX6_starts_40 rfl (lv_at hl 1 rfl) ?_
  refine x_get (pc := 41) C I wR_0 rfl inlX6 (k := 19) q_5_2 (by decide) rfl rfl dX6_starts_41 ?_
  refine lv_iload_n (pc := 44) hx hb dX6_starts_44 rfl (lv_at hl 0 rfl) ?_
  refine lv_aload_n (pc := 45) hx hb dX6_starts_45 rfl (lv_at hl 1 rfl) ?_
  refine x_get (pc := 46) C I wR_0 rfl inlX6 (k := 22) q_5_5 (by decide) rfl rfl dX6_starts_46 ?_
  refine lv_bipush (pc := 49) (v := 24) hx hb dX6_starts_49 (by decide) ?_
  refine lv_aload_n (pc := 51) hx hb dX6_starts_51 rfl (lv_at hl 1 rfl) ?_
  refine x_get (pc := 52) C I wR_0 rfl inlX6 (k := 11) q_8_7 (by decide) rfl rfl dX6_starts_52 ?_
  refine lv_imul (pc := 55) hx hb dX6_starts_55 ?_
  refine lv_iload_n (pc := 56) hx hb dX6_starts_56 rfl (lv_at hl 2 rfl) ?_
  refine lv_iadd (pc := 57) hx hb dX6_starts_57 ?_
  obtain ⟨g13, h⟩ := h
  refine x_ald (pc := 58) C I wR_15 g13 dX6_starts_58 ?_
  refine lv_if_le (pc := 59) (tgt := 66) hx hb dX6_starts_59 (by decide) (fun g14 => ?_) (fun g14 => ?_)
  · have h := h.1 g14
    refine lv_iconst (pc := 66) (v := 0) hx hb dX6_starts_66 (by decide) ?_
    obtain ⟨g15, h⟩ := h
    refine x_zst (pc := 67) C I wR_12 g15 sR_12 dX6_starts_67 (fun H locs I => ?_)
    obtain ⟨N16, eN16⟩ : ∃ z : xM, z = xu N12 12 (r2).toNatClampNeg (vp_nar .boolean 0) := ⟨_, rfl⟩
    have h := h N16 eN16
    rw [← eN16] at I
    refine lv_aload_n (pc := 68) hx hb dX6_starts_68 rfl (lv_at hl 1 rfl) ?_
    refine x_get (pc := 69) C I wR_0 rfl inlX6 (k := 22) q_5_5 (by decide) rfl rfl dX6_starts_69 ?_
    refine lv_bipush (pc := 72) (v := 24) hx hb dX6_starts_72 (by decide) ?_
    refine lv_aload_n (pc := 74) hx hb dX6_starts_74 rfl (lv_at hl 1 rfl) ?_
    refine x_get (pc := 75) C I wR_0 rfl inlX6 (k := 11) q_8_7 (by decide) rfl rfl dX6_starts_75 ?_
    refine lv_imul (pc := 78) hx hb dX6_starts_78 ?_
    refine lv_iload_n (pc := 79) hx hb dX6_starts_79 rfl (lv_at hl 2 rfl) ?_
    refine lv_iadd (pc := 80) hx hb dX6_starts_80 ?_
    refine lv_dup2_11 (pc := 81) hx hb dX6_starts_81 rfl rfl ?_
    obtain ⟨g17, h⟩ := h
    refine x_ald (pc := 82) C I wR_15 g17 dX6_starts_82 ?_
    refine lv_iconst (pc := 83) (v := 1) hx hb dX6_starts_83 (by decide) ?_
    refine lv_iadd (pc := 84) hx hb dX6_starts_84 ?_
    obtain ⟨g18, h⟩ := h
    refine x_ast (pc := 85) C I wR_15 g18 sR_15 dX6_starts_85 (fun H locs I => ?_)
    obtain ⟨N19, eN19⟩ : ∃ z : xM, z = xu N16 15 (((24 * (N16 0 11)) + x1)).toNatClampNeg ((N16 15 (((24 * (N16 0 11)) + x1)).toNatClampNeg) + 1) := ⟨_, rfl⟩
    have h := h N19 eN19
    rw [← eN19] at I
    refine lv_aload_n (pc := 86) hx hb dX6_starts_86 rfl (lv_at hl 1 rfl) ?_
    refine x_get (pc := 87) C I wR_0 rfl inlX6 (k := 23) q_5_6 (by decide) rfl rfl dX6_starts_87 ?_
    refine lv_bipush (pc := 90) (v := 8) hx hb dX6_starts_90 (by decide) ?_
    refine lv_aload_n (pc := 92) hx hb dX6_starts_92 rfl (lv_at hl 1 rfl) ?_
    refine x_get (pc := 93) C I wR_0 rfl inlX6 (k := 11) q_8_7 (by decide) rfl rfl dX6_starts_93 ?_
    refine lv_imul (pc := 96) hx hb dX6_starts_96 ?_
    refine lv_iload_n (pc := 97) hx hb dX6_starts_97 rfl (lv_at hl 3 rfl) ?_
    refine lv_iadd (pc := 98) hx hb dX6_starts_98 ?_
    refine lv_dup2_11 (pc := 99) hx hb dX6_starts_99 rfl rfl ?_
    obtain ⟨g20, h⟩ := h
    refine x_ald (pc := 100) C I wR_16 g20 dX6_starts_100 ?_
    refine lv_iconst (pc := 101) (v := 1) hx hb dX6_starts_101 (by decide) ?_
    refine lv_iadd (pc := 102) hx hb dX6_starts_102 ?_
    obtain ⟨g21, h⟩ := h
    refine x_ast (pc := 103) C I wR_16 g21 sR_16 dX6_starts_103 (fun H locs I => ?_)
    obtain ⟨N22, eN22⟩ : ∃ z : xM, z = xu N19 16 (((8 * (N19 0 11)) + x2)).toNatClampNeg ((N19 16 (((8 * (N19 0 11)) + x2)).toNatClampNeg) + 1) := ⟨_, rfl⟩
    have h := h N22 eN22
    rw [← eN22] at I
    refine lv_aload_n (pc := 104) hx hb dX6_starts_104 rfl (lv_at hl 1 rfl) ?_
    refine x_get (pc := 105) C I wR_0 rfl inlX6 (k := 12) q_4_19 (by decide) rfl rfl dX6_starts_105 ?_
    refine lv_aload_n (pc := 108) hx hb dX6_starts_108 rfl (lv_at hl 1 rfl) ?_
    refine x_get (pc := 109) C I wR_0 rfl inlX6 (k := 11) q_8_7 (by decide) rfl rfl dX6_starts_109 ?_
    refine lv_dup2_11 (pc := 112) hx hb dX6_starts_112 rfl rfl ?_
    obtain ⟨g23, h⟩ := h
    refine x_ald (pc := 113) C I wR_5 g23 dX6_starts_113 ?_
    refine lv_iconst (pc := 114) (v := 1) hx hb dX6_starts_114 (by decide) ?_
    refine lv_iadd (pc := 115) hx hb dX6_starts_115 ?_
    obtain ⟨g24, h⟩ := h
    refine x_ast (pc := 116) C I wR_5 g24 sR_5 dX6_starts_116 (fun H locs I => ?_)
    obtain ⟨N25, eN25⟩ : ∃ z : xM, z = xu N22 5 ((N22 0 11)).toNatClampNeg ((N22 5 ((N22 0 11)).toNatClampNeg) + 1) := ⟨_, rfl⟩
    have h := h N25 eN25
    rw [← eN25] at I
    exact x_retv (pc := 117) C I hr hlocks h dX6_starts_117
  · have h := h.2 g14
    refine lv_iconst (pc := 62) (v := 1) hx hb dX6_starts_62 (by decide) ?_
    refine lv_goto (pc := 63) (tgt := 67) hx hb dX6_starts_63 (by decide) ?_
    obtain ⟨g26, h⟩ := h
    refine x_zst (pc := 67) C I wR_12 g26 sR_12 dX6_starts_67 (fun H locs I => ?_)
    obtain ⟨N27, eN27⟩ : ∃ z : xM, z = xu N12 12 (r2).toNatClampNeg (vp_nar .boolean 1) := ⟨_, rfl⟩
    have h := h N27 eN27
    rw [← eN27] at I
    refine lv_aload_n (pc := 68) hx hb dX6_starts_68 rfl (lv_at hl 1 rfl) ?_
    refine x_get (pc := 69) C I wR_0 rfl inlX6 (k := 22) q_5_5 (by decide) rfl rfl dX6_starts_69 ?_
    refine lv_bipush (pc := 72) (v := 24) hx hb dX6_starts_72 (by decide) ?_
    refine lv_aload_n (pc := 74) hx hb dX6_starts_74 rfl (lv_at hl 1 rfl) ?_
    refine x_get (pc := 75) C I wR_0 rfl inlX6 (k := 11) q_8_7 (by decide) rfl rfl dX6_starts_75 ?_
    refine lv_imul (pc := 78) hx hb dX6_starts_78 ?_
    refine lv_iload_n (pc := 79) hx hb dX6_starts_79 rfl (lv_at hl 2 rfl) ?_
    refine lv_iadd (pc := 80) hx hb dX6_starts_80 ?_
    refine lv_dup2_11 (pc := 81) hx hb dX6_starts_81 rfl rfl ?_
    obtain ⟨g28, h⟩ := h
    refine x_ald (pc := 82) C I wR_15 g28 dX6_starts_82 ?_
    refine lv_iconst (pc := 83) (v := 1) hx hb dX6_starts_83 (by decide) ?_
    refine lv_iadd (pc := 84) hx hb dX6_starts_84 ?_
    obtain ⟨g29, h⟩ := h
    refine x_ast (pc := 85) C I wR_15 g29 sR_15 dX6_starts_85 (fun H locs I => ?_)
    obtain ⟨N30, eN30⟩ : ∃ z : xM, z = xu N27 15 (((24 * (N27 0 11)) + x1)).toNatClampNeg ((N27 15 (((24 * (N27 0 11)) + x1)).toNatClampNeg) + 1) := ⟨_, rfl⟩
    have h := h N30 eN30
    rw [← eN30] at I
    refine lv_aload_n (pc := 86) hx hb dX6_starts_86 rfl (lv_at hl 1 rfl) ?_
    refine x_get (pc := 87) C I wR_0 rfl inlX6 (k := 23) q_5_6 (by decide) rfl rfl dX6_starts_87 ?_
    refine lv_bipush (pc := 90) (v := 8) hx hb dX6_starts_90 (by decide) ?_
    refine lv_aload_n (pc := 92) hx hb dX6_starts_92 rfl (lv_at hl 1 rfl) ?_
    refine x_get (pc := 93) C I wR_0 rfl inlX6 (k := 11) q_8_7 (by decide) rfl rfl dX6_starts_93 ?_
    refine lv_imul (pc := 96) hx hb dX6_starts_96 ?_
    refine lv_iload_n (pc := 97) hx hb dX6_starts_97 rfl (lv_at hl 3 rfl) ?_
    refine lv_iadd (pc := 98) hx hb dX6_starts_98 ?_
    refine lv_dup2_11 (pc := 99) hx hb dX6_starts_99 rfl rfl ?_
    obtain ⟨g31, h⟩ := h
    refine x_ald (pc := 100) C I wR_16 g31 dX6_starts_100 ?_
    refine lv_iconst (pc := 101) (v := 1) hx hb dX6_starts_101 (by decide) ?_
    refine lv_iadd (pc := 102) hx hb dX6_starts_102 ?_
    obtain ⟨g32, h⟩ := h
    refine x_ast (pc := 103) C I wR_16 g32 sR_16 dX6_starts_103 (fun H locs I => ?_)
    obtain ⟨N33, eN33⟩ : ∃ z : xM, z = xu N30 16 (((8 * (N30 0 11)) + x2)).toNatClampNeg ((N30 16 (((8 * (N30 0 11)) + x2)).toNatClampNeg) + 1) := ⟨_, rfl⟩
    have h := h N33 eN33
    rw [← eN33] at I
    refine lv_aload_n (pc := 104) hx hb dX6_starts_104 rfl (lv_at hl 1 rfl) ?_
    refine x_get (pc := 105) C I wR_0 rfl inlX6 (k := 12) q_4_19 (by decide) rfl rfl dX6_starts_105 ?_
    refine lv_aload_n (pc := 108) hx hb dX6_starts_108 rfl (lv_at hl 1 rfl) ?_
    refine x_get (pc := 109) C I wR_0 rfl inlX6 (k := 11) q_8_7 (by decide) rfl rfl dX6_starts_109 ?_
    refine lv_dup2_11 (pc := 112) hx hb dX6_starts_112 rfl rfl ?_
    obtain ⟨g34, h⟩ := h
    refine x_ald (pc := 113) C I wR_5 g34 dX6_starts_113 ?_
    refine lv_iconst (pc := 114) (v := 1) hx hb dX6_starts_114 (by decide) ?_
    refine lv_iadd (pc := 115) hx hb dX6_starts_115 ?_
    obtain ⟨g35, h⟩ := h
    refine x_ast (pc := 116) C I wR_5 g35 sR_5 dX6_starts_116 (fun H locs I => ?_)
    obtain ⟨N36, eN36⟩ : ∃ z : xM, z = xu N33 5 ((N33 0 11)).toNatClampNeg ((N33 5 ((N33 0 11)).toNatClampNeg) + 1) := ⟨_, rfl⟩
    have h := h N36 eN36
    rw [← eN36] at I
    exact x_retv (pc := 117) C I hr hlocks h dX6_starts_117
def V_X6_startsOn (N : xM) (x1 x2 : Int32) (post : Int32 → xM → Prop) : Prop := (V_X6_firstWaiting N  (fun r2 N1 => ((r2 = (-6) → (V_X6_stragglerBy N1 x2 (fun r6 N5 => ((r6 = (-6) → post 0 N5) ∧ (¬ r6 = (-6) → (vp_in r6 400 ∧ (((N5 8 (r6).toNatClampNeg) = x1 → post 0 N5) ∧ (¬ (N5 8 (r6).toNatClampNeg) = x1 → (V_X6_speculative N5  (fun r11 N10 => (((N10 0 7) ≤ r11 → post 0 N10) ∧ (¬ (N10 0 7) ≤ r11 → ((x2 = 2 → (V_X6_isSlow N10 x1 (fun r18 N17 => ((r18 = 0 → (vp_in r6 400 ∧ (∀ y21 : Int32, y21 = (N17 7 (r6).toNatClampNeg) → (V_X6_starts N17 y21 x1 (fun N22 => post 1 N22))))) ∧ (¬ r18 = 0 → post 0 N17))))) ∧ (¬ x2 = 2 → (vp_in r6 400 ∧ (∀ y15 : Int32, y15 = (N10 7 (r6).toNatClampNeg) → (V_X6_starts N10 y15 x1 (fun N16 => post 1 N16)))))))))))))))))) ∧ (¬ r2 = (-6) → (V_X6_starts N1 r2 x1 (fun N4 => post 1 N4))))))
set_option maxHeartbeats 4000000 in
set_option maxRecDepth 100000 in
theorem m_X6_startsOn {l : Launch} {D : va_G} {cI cZ : ClassId} {r : Nat → Nat} {N : xM} {x1 x2 : Int32} {post : Int32 → xM → Prop} (h : V_X6_startsOn N x1 x2 post) : xMi l yX6_startsOn cX6_startsOn 6 (some .boolean) { frames := 5, cells := 0, slots := 0, locals := 111 } D cI cZ (wR cI cZ r) N [.ref (r 0), .int x1, .int x2] post := by
  refine x_bodyi (own := RX6) (by decide) rfl (Nat.le_of_ble_eq_true rfl) ?_
  intro p e s m below meth c A ls C hr hlocks hA I hl
  have hx := C.1.1
  have hb := C.1.2.1
  have hl : lv_has ls 6 [(0, .ref (r 0)), (1, .int x1), (2, .int x2)] := hl
  unfold V_X6_startsOn at h
  refine lv_aload_n (pc := 0) hx hb dX6_startsOn_0 rfl (lv_at hl 0 rfl) ?_
  refine x_calli (pc := 1) C I hA (m_X6_firstWaiting h) c_RX6_146 wR_0 rfl ⟨Nat.le_of_ble_eq_true rfl, Nat.le_of_ble_eq_true rfl⟩ ⟨rfl, rfl⟩ ⟨Nat.le_of_ble_eq_true rfl, Nat.le_of_ble_eq_true rfl⟩ (As := []) rfl hl.1 rfl (Nat.le_of_ble_eq_true rfl) dX6_startsOn_1 (fun r2 N1 H locs h I => ?_)
  refine lv_istore_n (pc := 4) (lv' := [(3, .int r2), (0, .ref (r 0)), (1, .int x1), (2, .int x2)]) hx hb dX6_startsOn_4 rfl hl (by decide) rfl (fun ls hl => ?_)
  refine lv_iload_n (pc := 5) hx hb dX6_startsOn_5 rfl (lv_at hl 0 rfl) ?_
  refine lv_bipush (pc := 6) (v := (-6)) hx hb dX6_startsOn_6 (by decide) ?_
  refine lv_icmp_ne (pc := 8) (tgt := 82) hx hb dX6_startsOn_8 (by decide) (fun g3 => ?_) (fun g3 => ?_)
  · have h := h.2 g3
    refine lv_aload_n (pc := 82) hx hb dX6_startsOn_82 rfl (lv_at hl 1 rfl) ?_
    refine lv_iload_n (pc := 83) hx hb dX6_startsOn_83 rfl (lv_at hl 0 rfl) ?_
    refine lv_iload_n (pc := 84) hx hb dX6_startsOn_84 rfl (lv_at hl 2 rfl) ?_
    refine x_callv (pc := 85) C I hA (m_X6_starts h) c_RX6_158 wR_0 rfl ⟨Nat.le_of_ble_eq_true rfl, Nat.le_of_ble_eq_true rfl⟩ ⟨rfl, rfl⟩ ⟨Nat.le_of_ble_eq_true rfl, Nat.le_of_ble_eq_true rfl⟩ (As := [.int r2, .int x1]) rfl hl.1 rfl (Nat.le_of_ble_eq_true rfl) dX6_startsOn_85 (fun N4 H locs h I => ?_)
    refine lv_iconst (pc := 88) (v := 1) hx hb dX6_startsOn_88 (by decide) ?_
    exact x_iretz (pc := 89) C I hr hlocks (by decide) h dX6_startsOn_89
  · have h := h.1 g3
    refine lv_aload_n (pc := 11) hx hb dX6_startsOn_11 rfl (lv_at hl 1 rfl) ?_
    refine lv_iload_n (pc := 12) hx hb dX6_startsOn_12 rfl (lv_at hl 3 rfl) ?_
    refine x_calli (pc := 13) C I hA (m_X6_stragglerBy h) c_RX6_149 wR_0 rfl ⟨Nat.le_of_ble_eq_true rfl, Nat.le_of_ble_eq_true rfl⟩ ⟨rfl, rfl⟩ ⟨Nat.le_of_ble_eq_true rfl, Nat.le_of_ble_eq_true rfl⟩ (As := [.int x2]) rfl hl.1 rfl (Nat.le_of_ble_eq_true rfl) dX6_startsOn_13 (fun r6 N5 H locs h I => ?_)
    refine lv_istore (pc := 16) (lv' := [(4, .int r6), (3, .int r2), (0, .ref (r 0)), (1, .int x1), (2, .int x2)]) hx hb dX6_startsOn_16 hl (by decide) rfl (fun ls hl => ?_)
    refine lv_iload (pc := 18) hx hb dX6_startsOn_18 (lv_at hl 0 rfl) ?_
    refine lv_bipush (pc := 20) (v := (-6)) hx hb dX6_startsOn_20 (by decide) ?_
    refine lv_icmp_eq (pc := 22) (tgt := 64) hx hb dX6_startsOn_22 (by decide) (fun g7 => ?_) (fun g7 => ?_)
    · have h := h.1 g7
      refine lv_iconst (pc := 64) (v := 0) hx hb dX6_startsOn_64 (by decide) ?_
      refine lv_istore (pc := 65) (lv' := [(5, .int 0), (4, .int r6), (3, .int r2), (0, .ref (r 0)), (1, .int x1), (2, .int x2)]) hx hb dX6_startsOn_65 hl (by decide) rfl (fun ls hl => ?_)
      refine lv_iload (pc := 67) hx hb dX6_startsOn_67 (lv_at hl 0 rfl) ?_
      refine lv_if_ne (pc := 69) (tgt := 74) hx hb dX6_startsOn_69 (by decide) (fun g => absurd g (by decide)) (fun _ => ?_)
      refine lv_iconst (pc := 72) (v := 0) hx hb dX6_startsOn_72 (by decide) ?_
      exact x_iretz (pc := 73) C I hr hlocks (by decide) h dX6_startsOn_73
    · have h := h.2 g7
      refine lv_aload_n (pc := 25) hx hb dX6_startsOn_25 rfl (lv_at hl 2 rfl) ?_
      refine x_get (pc := 26) C I wR_0 rfl inlX6 (k := 15) q_4_22 (by decide) rfl rfl dX6_startsOn_26 ?_
      refine lv_iload (pc := 29) hx hb dX6_startsOn_29 (lv_at hl 0 rfl) ?_
      obtain ⟨g8, h⟩ := h
      refine x_ald (pc := 31) C I wR_8 g8 dX6_startsOn_31 ?_
      refine lv_iload_n (pc := 32) hx hb dX6_startsOn_32 rfl (lv_at hl 3 rfl) ?_
      refine lv_icmp_eq (pc := 33) (tgt := 64) hx hb dX6_startsOn_33 (by decide) (fun g9 => ?_) (fun g9 => ?_)
      · have h := h.1 g9
        refine lv_iconst (pc := 64) (v := 0) hx hb dX6_startsOn_64 (by decide) ?_
        refine lv_istore (pc := 65) (lv' := [(5, .int 0), (4, .int r6), (3, .int r2), (0, .ref (r 0)), (1, .int x1), (2, .int x2)]) hx hb dX6_startsOn_65 hl (by decide) rfl (fun ls hl => ?_)
        refine lv_iload (pc := 67) hx hb dX6_startsOn_67 (lv_at hl 0 rfl) ?_
        refine lv_if_ne (pc := 69) (tgt := 74) hx hb dX6_startsOn_69 (by decide) (fun g => absurd g (by decide)) (fun _ => ?_)
        refine lv_iconst (pc := 72) (v := 0) hx hb dX6_startsOn_72 (by decide) ?_
        exact x_iretz (pc := 73) C I hr hlocks (by decide) h dX6_startsOn_73
      · have h := h.2 g9
        refine lv_aload_n (pc := 36) hx hb dX6_startsOn_36 rfl (lv_at hl 2 rfl) ?_
        refine x_calli (pc := 37) C I hA (m_X6_speculative h) c_RX6_152 wR_0 rfl ⟨Nat.le_of_ble_eq_true rfl, Nat.le_of_ble_eq_true rfl⟩ ⟨rfl, rfl⟩ ⟨Nat.le_of_ble_eq_true rfl, Nat.le_of_ble_eq_true rfl⟩ (As := []) rfl hl.1 rfl (Nat.le_of_ble_eq_true rfl) dX6_startsOn_37 (fun r11 N10 H locs h I => ?_)
        refine lv_aload_n (pc := 40) hx hb dX6_startsOn_40 rfl (lv_at hl 2 rfl) ?_
        refine x_get (pc := 41) C I wR_0 rfl inlX6 (k := 7) q_4_15 (by decide) rfl rfl dX6_startsOn_41 ?_
        refine lv_icmp_ge (pc := 44) (tgt := 64) hx hb dX6_startsOn_44 (by decide) (fun g12 => ?_) (fun g12 => ?_)
        · have h := h.1 g12
          refine lv_iconst (pc := 64) (v := 0) hx hb dX6_startsOn_64 (by decide) ?_
          refine lv_istore (pc := 65) (lv' := [(5, .int 0), (4, .int r6), (3, .int r2), (0, .ref (r 0)), (1, .int x1), (2, .int x2)]) hx hb dX6_startsOn_65 hl (by decide) rfl (fun ls hl => ?_)
          refine lv_iload (pc := 67) hx hb dX6_startsOn_67 (lv_at hl 0 rfl) ?_
          refine lv_if_ne (pc := 69) (tgt := 74) hx hb dX6_startsOn_69 (by decide) (fun g => absurd g (by decide)) (fun _ => ?_)
          refine lv_iconst (pc := 72) (v := 0) hx hb dX6_startsOn_72 (by decide) ?_
          exact x_iretz (pc := 73) C I hr hlocks (by decide) h dX6_startsOn_73
        · have h := h.2 g12
          refine lv_iload_n (pc := 47) hx hb dX6_startsOn_47 rfl (lv_at hl 4 rfl) ?_
          refine lv_iconst (pc := 48) (v := 2) hx hb dX6_startsOn_48 (by decide) ?_
          refine lv_icmp_ne (pc := 49) (tgt := 60) hx hb dX6_startsOn_49 (by decide) (fun g13 => ?_) (fun g13 => ?_)
          · have h := h.2 g13
            refine lv_iconst (pc := 60) (v := 1) hx hb dX6_startsOn_60 (by decide) ?_
            refine lv_goto (pc := 61) (tgt := 65) hx hb dX6_startsOn_61 (by decide) ?_
            refine lv_istore (pc := 65) (lv' := [(5, .int 1), (4, .int r6), (3, .int r2), (0, .ref (r 0)), (1, .int x1), (2, .int x2)]) hx hb dX6_startsOn_65 hl (by decide) rfl (fun ls hl => ?_)
            refine lv_iload (pc := 67) hx hb dX6_startsOn_67 (lv_at hl 0 rfl) ?_
            refine lv_if_ne (pc := 69) (tgt := 74) hx hb dX6_startsOn_69 (by decide) (fun _ => ?_) (fun g => absurd g (by decide))
            refine lv_aload_n (pc := 74) hx hb dX6_startsOn_74 rfl (lv_at hl 3 rfl) ?_
            refine x_get (pc := 75) C I wR_0 rfl inlX6 (k := 14) q_4_21 (by decide) rfl rfl dX6_startsOn_75 ?_
            refine lv_iload (pc := 78) hx hb dX6_startsOn_78 (lv_at hl 1 rfl) ?_
            obtain ⟨g14, h⟩ := h
            refine x_ald (pc := 80) C I wR_7 g14 dX6_startsOn_80 ?_
            refine lv_topi (fun y15 ey15 => ?_)
            have h := h y15 ey15
            refine lv_istore_n (pc := 81) (lv' := [(3, .int y15), (5, .int 1), (4, .int r6), (0, .ref (r 0)), (1, .int x1), (2, .int x2)]) hx hb dX6_startsOn_81 rfl hl (by decide) rfl (fun ls hl => ?_)
            refine lv_aload_n (pc := 82) hx hb dX6_startsOn_82 rfl (lv_at hl 3 rfl) ?_
            refine lv_iload_n (pc := 83) hx hb dX6_startsOn_83 rfl (lv_at hl 0 rfl) ?_
            refine lv_iload_n (pc := 84) hx hb dX6_startsOn_84 rfl (lv_at hl 4 rfl) ?_
            refine x_callv (pc := 85) C I hA (m_X6_starts h) c_RX6_158 wR_0 rfl ⟨Nat.le_of_ble_eq_true rfl, Nat.le_of_ble_eq_true rfl⟩ ⟨rfl, rfl⟩ ⟨Nat.le_of_ble_eq_true rfl, Nat.le_of_ble_eq_true rfl⟩ (As := [.int y15, .int x1]) rfl hl.1 rfl (Nat.le_of_ble_eq_true rfl) dX6_startsOn_85 (fun N16 H locs h I => ?_)
            refine lv_iconst (pc := 88) (v := 1) hx hb dX6_startsOn_88 (by decide) ?_
            exact x_iretz (pc := 89) C I hr hlocks (by decide) h dX6_startsOn_89
          · have h := h.1 g13
            refine lv_aload_n (pc := 52) hx hb dX6_startsOn_52 rfl (lv_at hl 2 rfl) ?_
            refine lv_iload_n (pc := 53) hx hb dX6_startsOn_53 rfl (lv_at hl 3 rfl) ?_
            refine x_calli (pc := 54) C I hA (m_X6_isSlow h) c_RX6_155 wR_0 rfl ⟨Nat.le_of_ble_eq_true rfl, Nat.le_of_ble_eq_true rfl⟩ ⟨rfl, rfl⟩ ⟨Nat.le_of_ble_eq_true rfl, Nat.le_of_ble_eq_true rfl⟩ (As := [.int x1]) rfl hl.1 rfl (Nat.le_of_ble_eq_true rfl) dX6_startsOn_54 (fun r18 N17 H locs h I => ?_)
            refine lv_if_ne (pc := 57) (tgt := 64) hx hb dX6_startsOn_57 (by decide) (fun g19 => ?_) (fun g19 => ?_)
            · have h := h.2 g19
              refine lv_iconst (pc := 64) (v := 0) hx hb dX6_startsOn_64 (by decide) ?_
              refine lv_istore (pc := 65) (lv' := [(5, .int 0), (4, .int r6), (3, .int r2), (0, .ref (r 0)), (1, .int x1), (2, .int x2)]) hx hb dX6_startsOn_65 hl (by decide) rfl (fun ls hl => ?_)
              refine lv_iload (pc := 67) hx hb dX6_startsOn_67 (lv_at hl 0 rfl) ?_
              refine lv_if_ne (pc := 69) (tgt := 74) hx hb dX6_startsOn_69 (by decide) (fun g => absurd g (by decide)) (fun _ => ?_)
              refine lv_iconst (pc := 72) (v := 0) hx hb dX6_startsOn_72 (by decide) ?_
              exact x_iretz (pc := 73) C I hr hlocks (by decide) h dX6_startsOn_73
            · have h := h.1 g19
              refine lv_iconst (pc := 60) (v := 1) hx hb dX6_startsOn_60 (by decide) ?_
              refine lv_goto (pc := 61) (tgt := 65) hx hb dX6_startsOn_61 (by decide) ?_
              refine lv_istore (pc := 65) (lv' := [(5, .int 1), (4, .int r6), (3, .int r2), (0, .ref (r 0)), (1, .int x1), (2, .int x2)]) hx hb dX6_startsOn_65 hl (by decide) rfl (fun ls hl => ?_)
              refine lv_iload (pc := 67) hx hb dX6_startsOn_67 (lv_at hl 0 rfl) ?_
              refine lv_if_ne (pc := 69) (tgt := 74) hx hb dX6_startsOn_69 (by decide) (fun _ => ?_) (fun g => absurd g (by decide))
              refine lv_aload_n (pc := 74) hx hb dX6_startsOn_74 rfl (lv_at hl 3 rfl) ?_
              refine x_get (pc := 75) C I wR_0 rfl inlX6 (k := 14) q_4_21 (by decide) rfl rfl dX6_startsOn_75 ?_
              refine lv_iload (pc := 78) hx hb dX6_startsOn_78 (lv_at hl 1 rfl) ?_
              obtain ⟨g20, h⟩ := h
              refine x_ald (pc := 80) C I wR_7 g20 dX6_startsOn_80 ?_
              refine lv_topi (fun y21 ey21 => ?_)
              have h := h y21 ey21
              refine lv_istore_n (pc := 81) (lv' := [(3, .int y21), (5, .int 1), (4, .int r6), (0, .ref (r 0)), (1, .int x1), (2, .int x2)]) hx hb dX6_startsOn_81 rfl hl (by decide) rfl (fun ls hl => ?_)
              refine lv_aload_n (pc := 82) hx hb dX6_startsOn_82 rfl (lv_at hl 3 rfl) ?_
              refine lv_iload_n (pc := 83) hx hb dX6_startsOn_83 rfl (lv_at hl 0 rfl) ?_
              refine lv_iload_n (pc := 84) hx hb dX6_startsOn_84 rfl (lv_at hl 4 rfl) ?_
              refine x_callv (pc := 85) C I hA (m_X6_starts h) c_RX6_158 wR_0 rfl ⟨Nat.le_of_ble_eq_true rfl, Nat.le_of_ble_eq_true rfl⟩ ⟨rfl, rfl⟩ ⟨Nat.le_of_ble_eq_true rfl, Nat.le_of_ble_eq_true rfl⟩ (As := [.int y21, .int x1]) rfl hl.1 rfl (Nat.le_of_ble_eq_true rfl) dX6_startsOn_85 (fun N22 H locs h I => ?_)
              refine lv_iconst (pc := 88) (v := 1) hx hb dX6_startsOn_88 (by decide) ?_
              exact x_iretz (pc := 89) C I hr hlocks (by decide) h dX6_startsOn_89
def V_X6_hasSlot (N : xM) (x1 : Int32) (post : Int32 → xM → Prop) : Prop := (vp_in x1 8 ∧ (((N 3 (x1).toNatClampNeg) = 0 → post 0 N) ∧ (¬ (N 3 (x1).toNatClampNeg) = 0 → (vp_in ((8 * (N 0 11)) + x1) 16 ∧ (vp_in x1 8 ∧ (((N 2 (x1).toNatClampNeg) ≤ (N 16 (((8 * (N 0 11)) + x1)).toNatClampNeg) → post 0 N) ∧ (¬ (N 2 (x1).toNatClampNeg) ≤ (N 16 (((8 * (N 0 11)) + x1)).toNatClampNeg) → (vp_in (N 0 11) 2 ∧ ((200 ≤ (N 5 ((N 0 11)).toNatClampNeg) → post 0 N) ∧ (¬ 200 ≤ (N 5 ((N 0 11)).toNatClampNeg) → post 1 N))))))))))
set_option maxHeartbeats 4000000 in
set_option maxRecDepth 100000 in
theorem m_X6_hasSlot {l : Launch} {D : va_G} {cI cZ : ClassId} {r : Nat → Nat} {N : xM} {x1 : Int32} {post : Int32 → xM → Prop} (h : V_X6_hasSlot N x1 post) : xMi l yX6_hasSlot cX6_hasSlot 2 (some .boolean) { frames := 0, cells := 0, slots := 0, locals := 0 } D cI cZ (wR cI cZ r) N [.ref (r 0), .int x1] post := by
  refine x_bodyi (own := RX6) (by decide) rfl (Nat.le_of_ble_eq_true rfl) ?_
  intro p e s m below meth c A ls C hr hlocks hA I hl
  have hx := C.1.1
  have hb := C.1.2.1
  have hl : lv_has ls 2 [(0, .ref (r 0)), (1, .int x1)] := hl
  unfold V_X6_hasSlot at h
  refine lv_aload_n (pc := 0) hx hb dX6_hasSlot_0 rfl (lv_at hl 0 rfl) ?_
  refine x_get (pc := 1) C I wR_0 rfl inlX6 (k := 3) q_4_13 (by decide) rfl rfl dX6_hasSlot_1 ?_
  refine lv_iload_n (pc := 4) hx hb dX6_hasSlot_4 rfl (lv_at hl 1 rfl) ?_
  obtain ⟨g1, h⟩ := h
  refine x_zld (pc := 5) C I wR_3 g1 dX6_hasSlot_5 ?_
  refine lv_if_eq (pc := 6) (tgt := 51) hx hb dX6_hasSlot_6 (by decide) (fun g2 => ?_) (fun g2 => ?_)
  · have h := h.1 g2
    refine lv_iconst (pc := 51) (v := 0) hx hb dX6_hasSlot_51 (by decide) ?_
    exact x_iretz (pc := 52) C I hr hlocks (by decide) h dX6_hasSlot_52
  · have h := h.2 g2
    refine lv_aload_n (pc := 9) hx hb dX6_hasSlot_9 rfl (lv_at hl 0 rfl) ?_
    refine x_get (pc := 10) C I wR_0 rfl inlX6 (k := 23) q_5_6 (by decide) rfl rfl dX6_hasSlot_10 ?_
    refine lv_bipush (pc := 13) (v := 8) hx hb dX6_hasSlot_13 (by decide) ?_
    refine lv_aload_n (pc := 15) hx hb dX6_hasSlot_15 rfl (lv_at hl 0 rfl) ?_
    refine x_get (pc := 16) C I wR_0 rfl inlX6 (k := 11) q_8_7 (by decide) rfl rfl dX6_hasSlot_16 ?_
    refine lv_imul (pc := 19) hx hb dX6_hasSlot_19 ?_
    refine lv_iload_n (pc := 20) hx hb dX6_hasSlot_20 rfl (lv_at hl 1 rfl) ?_
    refine lv_iadd (pc := 21) hx hb dX6_hasSlot_21 ?_
    obtain ⟨g3, h⟩ := h
    refine x_ald (pc := 22) C I wR_16 g3 dX6_hasSlot_22 ?_
    refine lv_aload_n (pc := 23) hx hb dX6_hasSlot_23 rfl (lv_at hl 0 rfl) ?_
    refine x_get (pc := 24) C I wR_0 rfl inlX6 (k := 2) q_4_12 (by decide) rfl rfl dX6_hasSlot_24 ?_
    refine lv_iload_n (pc := 27) hx hb dX6_hasSlot_27 rfl (lv_at hl 1 rfl) ?_
    obtain ⟨g4, h⟩ := h
    refine x_ald (pc := 28) C I wR_2 g4 dX6_hasSlot_28 ?_
    refine lv_icmp_ge (pc := 29) (tgt := 51) hx hb dX6_hasSlot_29 (by decide) (fun g5 => ?_) (fun g5 => ?_)
    · have h := h.1 g5
      refine lv_iconst (pc := 51) (v := 0) hx hb dX6_hasSlot_51 (by decide) ?_
      exact x_iretz (pc := 52) C I hr hlocks (by decide) h dX6_hasSlot_52
    · have h := h.2 g5
      refine lv_aload_n (pc := 32) hx hb dX6_hasSlot_32 rfl (lv_at hl 0 rfl) ?_
      refine x_get (pc := 33) C I wR_0 rfl inlX6 (k := 12) q_4_19 (by decide) rfl rfl dX6_hasSlot_33 ?_
      refine lv_aload_n (pc := 36) hx hb dX6_hasSlot_36 rfl (lv_at hl 0 rfl) ?_
      refine x_get (pc := 37) C I wR_0 rfl inlX6 (k := 11) q_8_7 (by decide) rfl rfl dX6_hasSlot_37 ?_
      obtain ⟨g6, h⟩ := h
      refine x_ald (pc := 40) C I wR_5 g6 dX6_hasSlot_40 ?_
      refine lv_sipush (pc := 41) (v := 200) hx hb dX6_hasSlot_41 (by decide) ?_
      refine lv_icmp_ge (pc := 44) (tgt := 51) hx hb dX6_hasSlot_44 (by decide) (fun g7 => ?_) (fun g7 => ?_)
      · have h := h.1 g7
        refine lv_iconst (pc := 51) (v := 0) hx hb dX6_hasSlot_51 (by decide) ?_
        exact x_iretz (pc := 52) C I hr hlocks (by decide) h dX6_hasSlot_52
      · have h := h.2 g7
        refine lv_iconst (pc := 47) (v := 1) hx hb dX6_hasSlot_47 (by decide) ?_
        refine lv_goto (pc := 48) (tgt := 52) hx hb dX6_hasSlot_48 (by decide) ?_
        exact x_iretz (pc := 52) C I hr hlocks (by decide) h dX6_hasSlot_52
def V_X6_works_L5 (post : xM → Prop) : Nat → xM → Int32 → Prop
  | 0, _, _ => False
  | n + 1, N0, x1 => (V_X6_last N0  (fun r4 N3 => ((r4 ≤ x1 → post N3) ∧ (¬ r4 ≤ x1 → (vp_in x1 400 ∧ (((N3 11 (x1).toNatClampNeg) = 1 → (vp_in x1 400 ∧ (∀ y10 : Int32, y10 = (N3 8 (x1).toNatClampNeg) → (vp_in x1 400 ∧ (vp_in x1 400 ∧ ∀ N13 : xM, N13 = xu N3 9 (x1).toNatClampNeg ((N3 9 (x1).toNatClampNeg) + 1) → (vp_in x1 400 ∧ (vp_in y10 8 ∧ (vp_in x1 400 ∧ ∀ N17 : xM, N17 = xu N13 10 (x1).toNatClampNeg ((N13 10 (x1).toNatClampNeg) + (N13 1 (y10).toNatClampNeg)) → (vp_in ((8 * (N17 0 11)) + y10) 16 ∧ (vp_in ((8 * (N17 0 11)) + y10) 16 ∧ ∀ N20 : xM, N20 = xu N17 17 (((8 * (N17 0 11)) + y10)).toNatClampNeg ((N17 17 (((8 * (N17 0 11)) + y10)).toNatClampNeg) + 1) → (vp_in ((8 * (N20 0 11)) + y10) 16 ∧ (vp_in y10 8 ∧ (vp_in ((8 * (N20 0 11)) + y10) 16 ∧ ∀ N24 : xM, N24 = xu N20 18 (((8 * (N20 0 11)) + y10)).toNatClampNeg ((N20 18 (((8 * (N20 0 11)) + y10)).toNatClampNeg) + (N20 1 (y10).toNatClampNeg)) → (∀ y25 : Int32, y25 = (x1 + 1) → (V_X6_works_L5 post n N24 y25))))))))))))))) ∧ (¬ (N3 11 (x1).toNatClampNeg) = 1 → (∀ y8 : Int32, y8 = (x1 + 1) → (V_X6_works_L5 post n N3 y8)))))))))
def V_X6_works (N : xM) (post : xM → Prop) : Prop := (V_X6_first N  (fun r2 N1 => (∃ n26 : Nat, V_X6_works_L5 post n26 N1 r2)))
set_option maxHeartbeats 4000000 in
set_option maxRecDepth 100000 in
theorem k_X6_works_L5 {l : Launch} {D : va_G} {cI cZ : ClassId} {r : Nat → Nat} {p : Program} {e : Env} {s : State} {m : MethodId} {below : List Frame} {meth : Method} {c : Code} {A : Nat → Prop} {args : Array Value} {post : xM → Prop} (C : xC p s m args c cX6_works 3 RX6 D cI cZ) (hr : meth.sig.returnType = none) (hlocks : meth.locks = false) (hA : ∀ q : Nat, s.heap.size ≤ q → A q) (n : Nat) : ∀ (N0 : xM) (x1 : Int32) (H : Heap) (locs : List Loc) (ls : Array Slot), V_X6_works_L5 post n N0 x1 → xI D (wR cI cZ r N0) A s.heap H locs → lv_has ls 3 [(0, .ref (r 0)), (1, .int x1)] → W p l e { frames := 1, cells := 0, slots := 0, locals := 20 } s m args below meth c H locs 0 0 (MQ below (va_Qv post (xPost D cI cZ A (wR cI cZ r)) A) args s 0 0 A) (F0 m 5 ls []) := by
  have hx := C.1.1
  have hb := C.1.2.1
  induction n with
  | zero =>
    intro N0 x1 H locs ls h I hl
    exact absurd h id
  | succ n ih5 =>
    intro N0 x1 H locs ls h I hl
    rw [V_X6_works_L5] at h
    refine lv_iload_n (pc := 5) hx hb dX6_works_5 rfl (lv_at hl 1 rfl) ?_
    refine lv_aload_n (pc := 6) hx hb dX6_works_6 rfl (lv_at hl 0 rfl) ?_
    refine x_calli (pc := 7) C I hA (m_X6_last h) c_RX6_113 wR_0 rfl ⟨Nat.le_of_ble_eq_true rfl, Nat.le_of_ble_eq_true rfl⟩ ⟨rfl, rfl⟩ ⟨Nat.le_of_ble_eq_true rfl, Nat.le_of_ble_eq_true rfl⟩ (As := []) rfl hl.1 rfl (Nat.le_of_ble_eq_true rfl) dX6_works_7 (fun r4 N3 H locs h I => ?_)
    refine lv_icmp_ge (pc := 10) (tgt := 102) hx hb dX6_works_10 (by decide) (fun g5 => ?_) (fun g5 => ?_)
    · have h := h.1 g5
      exact x_retv (pc := 102) C I hr hlocks h dX6_works_102
    · have h := h.2 g5
      refine lv_aload_n (pc := 13) hx hb dX6_works_13 rfl (lv_at hl 0 rfl) ?_
      refine x_get (pc := 14) C I wR_0 rfl inlX6 (k := 18) q_5_1 (by decide) rfl rfl dX6_works_14 ?_
      refine lv_iload_n (pc := 17) hx hb dX6_works_17 rfl (lv_at hl 1 rfl) ?_
      obtain ⟨g6, h⟩ := h
      refine x_ald (pc := 18) C I wR_11 g6 dX6_works_18 ?_
      refine lv_iconst (pc := 19) (v := 1) hx hb dX6_works_19 (by decide) ?_
      refine lv_icmp_ne (pc := 20) (tgt := 96) hx hb dX6_works_20 (by decide) (fun g7 => ?_) (fun g7 => ?_)
      · have h := h.2 g7
        obtain ⟨y8, ey8⟩ : ∃ y : Int32, y = (x1 + 1) := ⟨_, rfl⟩
        have h := h y8 ey8
        refine lv_iinc (pc := 96) (v := y8) (lv' := [(1, .int y8), (0, .ref (r 0))]) hx hb dX6_works_96 hl (k := 1) rfl (by rw [ey8]; rfl) (by decide) rfl (fun ls hl => ?_)
        refine lv_goto (pc := 99) (tgt := 5) hx hb dX6_works_99 (by decide) ?_
        exact ih5 N3 y8 _ _ _ h I (lv_sub hl [1, 0] rfl)
      · have h := h.1 g7
        refine lv_aload_n (pc := 23) hx hb dX6_works_23 rfl (lv_at hl 0 rfl) ?_
        refine x_get (pc := 24) C I wR_0 rfl inlX6 (k := 15) q_4_22 (by decide) rfl rfl dX6_works_24 ?_
        refine lv_iload_n (pc := 27) hx hb dX6_works_27 rfl (lv_at hl 1 rfl) ?_
        obtain ⟨g9, h⟩ := h
        refine x_ald (pc := 28) C I wR_8 g9 dX6_works_28 ?_
        refine lv_topi (fun y10 ey10 => ?_)
        have h := h y10 ey10
        refine lv_istore_n (pc := 29) (lv' := [(2, .int y10), (0, .ref (r 0)), (1, .int x1)]) hx hb dX6_works_29 rfl hl (by decide) rfl (fun ls hl => ?_)
        refine lv_aload_n (pc := 30) hx hb dX6_works_30 rfl (lv_at hl 1 rfl) ?_
        refine x_get (pc := 31) C I wR_0 rfl inlX6 (k := 16) q_4_23 (by decide) rfl rfl dX6_works_31 ?_
        refine lv_iload_n (pc := 34) hx hb dX6_works_34 rfl (lv_at hl 2 rfl) ?_
        refine lv_dup2_11 (pc := 35) hx hb dX6_works_35 rfl rfl ?_
        obtain ⟨g11, h⟩ := h
        refine x_ald (pc := 36) C I wR_9 g11 dX6_works_36 ?_
        refine lv_iconst (pc := 37) (v := 1) hx hb dX6_works_37 (by decide) ?_
        refine lv_iadd (pc := 38) hx hb dX6_works_38 ?_
        obtain ⟨g12, h⟩ := h
        refine x_ast (pc := 39) C I wR_9 g12 sR_9 dX6_works_39 (fun H locs I => ?_)
        obtain ⟨N13, eN13⟩ : ∃ z : xM, z = xu N3 9 (x1).toNatClampNeg ((N3 9 (x1).toNatClampNeg) + 1) := ⟨_, rfl⟩
        have h := h N13 eN13
        rw [← eN13] at I
        refine lv_aload_n (pc := 40) hx hb dX6_works_40 rfl (lv_at hl 1 rfl) ?_
        refine x_get (pc := 41) C I wR_0 rfl inlX6 (k := 17) q_5_0 (by decide) rfl rfl dX6_works_41 ?_
        refine lv_iload_n (pc := 44) hx hb dX6_works_44 rfl (lv_at hl 2 rfl) ?_
        refine lv_dup2_11 (pc := 45) hx hb dX6_works_45 rfl rfl ?_
        obtain ⟨g14, h⟩ := h
        refine x_ald (pc := 46) C I wR_10 g14 dX6_works_46 ?_
        refine lv_aload_n (pc := 47) hx hb dX6_works_47 rfl (lv_at hl 1 rfl) ?_
        refine x_get (pc := 48) C I wR_0 rfl inlX6 (k := 1) q_4_11 (by decide) rfl rfl dX6_works_48 ?_
        refine lv_iload_n (pc := 51) hx hb dX6_works_51 rfl (lv_at hl 0 rfl) ?_
        obtain ⟨g15, h⟩ := h
        refine x_ald (pc := 52) C I wR_1 g15 dX6_works_52 ?_
        refine lv_iadd (pc := 53) hx hb dX6_works_53 ?_
        obtain ⟨g16, h⟩ := h
        refine x_ast (pc := 54) C I wR_10 g16 sR_10 dX6_works_54 (fun H locs I => ?_)
        obtain ⟨N17, eN17⟩ : ∃ z : xM, z = xu N13 10 (x1).toNatClampNeg ((N13 10 (x1).toNatClampNeg) + (N13 1 (y10).toNatClampNeg)) := ⟨_, rfl⟩
        have h := h N17 eN17
        rw [← eN17] at I
        refine lv_aload_n (pc := 55) hx hb dX6_works_55 rfl (lv_at hl 1 rfl) ?_
        refine x_get (pc := 56) C I wR_0 rfl inlX6 (k := 24) q_5_7 (by decide) rfl rfl dX6_works_56 ?_
        refine lv_bipush (pc := 59) (v := 8) hx hb dX6_works_59 (by decide) ?_
        refine lv_aload_n (pc := 61) hx hb dX6_works_61 rfl (lv_at hl 1 rfl) ?_
        refine x_get (pc := 62) C I wR_0 rfl inlX6 (k := 11) q_8_7 (by decide) rfl rfl dX6_works_62 ?_
        refine lv_imul (pc := 65) hx hb dX6_works_65 ?_
        refine lv_iload_n (pc := 66) hx hb dX6_works_66 rfl (lv_at hl 0 rfl) ?_
        refine lv_iadd (pc := 67) hx hb dX6_works_67 ?_
        refine lv_dup2_11 (pc := 68) hx hb dX6_works_68 rfl rfl ?_
        obtain ⟨g18, h⟩ := h
        refine x_ald (pc := 69) C I wR_17 g18 dX6_works_69 ?_
        refine lv_iconst (pc := 70) (v := 1) hx hb dX6_works_70 (by decide) ?_
        refine lv_iadd (pc := 71) hx hb dX6_works_71 ?_
        obtain ⟨g19, h⟩ := h
        refine x_ast (pc := 72) C I wR_17 g19 sR_17 dX6_works_72 (fun H locs I => ?_)
        obtain ⟨N20, eN20⟩ : ∃ z : xM, z = xu N17 17 (((8 * (N17 0 11)) + y10)).toNatClampNeg ((N17 17 (((8 * (N17 0 11)) + y10)).toNatClampNeg) + 1) := ⟨_, rfl⟩
        have h := h N20 eN20
        rw [← eN20] at I
        refine lv_aload_n (pc := 73) hx hb dX6_works_73 rfl (lv_at hl 1 rfl) ?_
        refine x_get (pc := 74) C I wR_0 rfl inlX6 (k := 25) q_5_8 (by decide) rfl rfl dX6_works_74 ?_
        refine lv_bipush (pc := 77) (v := 8) hx hb dX6_works_77 (by decide) ?_
        refine lv_aload_n (pc := 79) hx hb dX6_works_79 rfl (lv_at hl 1 rfl) ?_
        refine x_get (pc := 80) C I wR_0 rfl inlX6 (k := 11) q_8_7 (by decide) rfl rfl dX6_works_80 ?_
        refine lv_imul (pc := 83) hx hb dX6_works_83 ?_
        refine lv_iload_n (pc := 84) hx hb dX6_works_84 rfl (lv_at hl 0 rfl) ?_
        refine lv_iadd (pc := 85) hx hb dX6_works_85 ?_
        refine lv_dup2_11 (pc := 86) hx hb dX6_works_86 rfl rfl ?_
        obtain ⟨g21, h⟩ := h
        refine x_ald (pc := 87) C I wR_18 g21 dX6_works_87 ?_
        refine lv_aload_n (pc := 88) hx hb dX6_works_88 rfl (lv_at hl 1 rfl) ?_
        refine x_get (pc := 89) C I wR_0 rfl inlX6 (k := 1) q_4_11 (by decide) rfl rfl dX6_works_89 ?_
        refine lv_iload_n (pc := 92) hx hb dX6_works_92 rfl (lv_at hl 0 rfl) ?_
        obtain ⟨g22, h⟩ := h
        refine x_ald (pc := 93) C I wR_1 g22 dX6_works_93 ?_
        refine lv_iadd (pc := 94) hx hb dX6_works_94 ?_
        obtain ⟨g23, h⟩ := h
        refine x_ast (pc := 95) C I wR_18 g23 sR_18 dX6_works_95 (fun H locs I => ?_)
        obtain ⟨N24, eN24⟩ : ∃ z : xM, z = xu N20 18 (((8 * (N20 0 11)) + y10)).toNatClampNeg ((N20 18 (((8 * (N20 0 11)) + y10)).toNatClampNeg) + (N20 1 (y10).toNatClampNeg)) := ⟨_, rfl⟩
        have h := h N24 eN24
        rw [← eN24] at I
        obtain ⟨y25, ey25⟩ : ∃ y : Int32, y = (x1 + 1) := ⟨_, rfl⟩
        have h := h y25 ey25
        refine lv_iinc (pc := 96) (v := y25) (lv' := [(1, .int y25), (2, .int y10), (0, .ref (r 0))]) hx hb dX6_works_96 hl (k := 2) rfl (by rw [ey25]; rfl) (by decide) rfl (fun ls hl => ?_)
        refine lv_goto (pc := 99) (tgt := 5) hx hb dX6_works_99 (by decide) ?_
        exact ih5 N24 y25 _ _ _ h I (lv_sub hl [2, 0] rfl)
set_option maxHeartbeats 4000000 in
set_option maxRecDepth 100000 in
theorem m_X6_works {l : Launch} {D : va_G} {cI cZ : ClassId} {r : Nat → Nat} {N : xM} {post : xM → Prop} (h : V_X6_works N post) : xMv l yX6_works cX6_works 3 none { frames := 1, cells := 0, slots := 0, locals := 20 } D cI cZ (wR cI cZ r) N [.ref (r 0)] post := by
  refine x_bodyv (own := RX6) (by decide) rfl (Nat.le_of_ble_eq_true rfl) ?_
  intro p e s m below meth c A ls C hr hlocks hA I hl
  have hx := C.1.1
  have hb := C.1.2.1
  have hl : lv_has ls 3 [(0, .ref (r 0))] := hl
  unfold V_X6_works at h
  refine lv_aload_n (pc := 0) hx hb dX6_works_0 rfl (lv_at hl 0 rfl) ?_
  refine x_calli (pc := 1) C I hA (m_X6_first h) c_RX6_109 wR_0 rfl ⟨Nat.le_of_ble_eq_true rfl, Nat.le_of_ble_eq_true rfl⟩ ⟨rfl, rfl⟩ ⟨Nat.le_of_ble_eq_true rfl, Nat.le_of_ble_eq_true rfl⟩ (As := []) rfl hl.1 rfl (Nat.le_of_ble_eq_true rfl) dX6_works_1 (fun r2 N1 H locs h I => ?_)
  refine lv_istore_n (pc := 4) (lv' := [(1, .int r2), (0, .ref (r 0))]) hx hb dX6_works_4 rfl hl (by decide) rfl (fun ls hl => ?_)
  obtain ⟨n26, h⟩ := h
  exact k_X6_works_L5 C hr hlocks hA n26 N1 r2 _ _ _ h I (lv_sub hl [1, 0] rfl)
def V_X6_killsOther_L5 (post : xM → Prop) : Nat → xM → Int32 → Int32 → Prop
  | 0, _, _, _ => False
  | n + 1, N0, x1, x2 => (V_X6_last N0  (fun r4 N3 => ((r4 ≤ x2 → post N3) ∧ (¬ r4 ≤ x2 → (vp_in x2 400 ∧ (((N3 11 (x2).toNatClampNeg) = 1 → (vp_in x2 400 ∧ (vp_in x1 400 ∧ (((N3 7 (x2).toNatClampNeg) = (N3 7 (x1).toNatClampNeg) → (V_X6_stops N3 x2 3 (fun N13 => (∀ y14 : Int32, y14 = (x2 + 1) → (V_X6_killsOther_L5 post n N13 x1 y14))))) ∧ (¬ (N3 7 (x2).toNatClampNeg) = (N3 7 (x1).toNatClampNeg) → (∀ y12 : Int32, y12 = (x2 + 1) → (V_X6_killsOther_L5 post n N3 x1 y12))))))) ∧ (¬ (N3 11 (x2).toNatClampNeg) = 1 → (∀ y8 : Int32, y8 = (x2 + 1) → (V_X6_killsOther_L5 post n N3 x1 y8)))))))))
def V_X6_killsOther (N : xM) (x1 : Int32) (post : xM → Prop) : Prop := (V_X6_first N  (fun r2 N1 => (∃ n15 : Nat, V_X6_killsOther_L5 post n15 N1 x1 r2)))
set_option maxHeartbeats 4000000 in
set_option maxRecDepth 100000 in
theorem k_X6_killsOther_L5 {l : Launch} {D : va_G} {cI cZ : ClassId} {r : Nat → Nat} {p : Program} {e : Env} {s : State} {m : MethodId} {below : List Frame} {meth : Method} {c : Code} {A : Nat → Prop} {args : Array Value} {post : xM → Prop} (C : xC p s m args c cX6_killsOther 3 RX6 D cI cZ) (hr : meth.sig.returnType = none) (hlocks : meth.locks = false) (hA : ∀ q : Nat, s.heap.size ≤ q → A q) (n : Nat) : ∀ (N0 : xM) (x1 x2 : Int32) (H : Heap) (locs : List Loc) (ls : Array Slot), V_X6_killsOther_L5 post n N0 x1 x2 → xI D (wR cI cZ r N0) A s.heap H locs → lv_has ls 3 [(0, .ref (r 0)), (1, .int x1), (2, .int x2)] → W p l e { frames := 1, cells := 0, slots := 0, locals := 22 } s m args below meth c H locs 0 0 (MQ below (va_Qv post (xPost D cI cZ A (wR cI cZ r)) A) args s 0 0 A) (F0 m 5 ls []) := by
  have hx := C.1.1
  have hb := C.1.2.1
  induction n with
  | zero =>
    intro N0 x1 x2 H locs ls h I hl
    exact absurd h id
  | succ n ih5 =>
    intro N0 x1 x2 H locs ls h I hl
    rw [V_X6_killsOther_L5] at h
    refine lv_iload_n (pc := 5) hx hb dX6_killsOther_5 rfl (lv_at hl 2 rfl) ?_
    refine lv_aload_n (pc := 6) hx hb dX6_killsOther_6 rfl (lv_at hl 0 rfl) ?_
    refine x_calli (pc := 7) C I hA (m_X6_last h) c_RX6_113 wR_0 rfl ⟨Nat.le_of_ble_eq_true rfl, Nat.le_of_ble_eq_true rfl⟩ ⟨rfl, rfl⟩ ⟨Nat.le_of_ble_eq_true rfl, Nat.le_of_ble_eq_true rfl⟩ (As := []) rfl hl.1 rfl (Nat.le_of_ble_eq_true rfl) dX6_killsOther_7 (fun r4 N3 H locs h I => ?_)
    refine lv_icmp_ge (pc := 10) (tgt := 50) hx hb dX6_killsOther_10 (by decide) (fun g5 => ?_) (fun g5 => ?_)
    · have h := h.1 g5
      exact x_retv (pc := 50) C I hr hlocks h dX6_killsOther_50
    · have h := h.2 g5
      refine lv_aload_n (pc := 13) hx hb dX6_killsOther_13 rfl (lv_at hl 0 rfl) ?_
      refine x_get (pc := 14) C I wR_0 rfl inlX6 (k := 18) q_5_1 (by decide) rfl rfl dX6_killsOther_14 ?_
      refine lv_iload_n (pc := 17) hx hb dX6_killsOther_17 rfl (lv_at hl 2 rfl) ?_
      obtain ⟨g6, h⟩ := h
      refine x_ald (pc := 18) C I wR_11 g6 dX6_killsOther_18 ?_
      refine lv_iconst (pc := 19) (v := 1) hx hb dX6_killsOther_19 (by decide) ?_
      refine lv_icmp_ne (pc := 20) (tgt := 44) hx hb dX6_killsOther_20 (by decide) (fun g7 => ?_) (fun g7 => ?_)
      · have h := h.2 g7
        obtain ⟨y8, ey8⟩ : ∃ y : Int32, y = (x2 + 1) := ⟨_, rfl⟩
        have h := h y8 ey8
        refine lv_iinc (pc := 44) (v := y8) (lv' := [(2, .int y8), (0, .ref (r 0)), (1, .int x1)]) hx hb dX6_killsOther_44 hl (k := 2) rfl (by rw [ey8]; rfl) (by decide) rfl (fun ls hl => ?_)
        refine lv_goto (pc := 47) (tgt := 5) hx hb dX6_killsOther_47 (by decide) ?_
        exact ih5 N3 x1 y8 _ _ _ h I (lv_sub hl [1, 2, 0] rfl)
      · have h := h.1 g7
        refine lv_aload_n (pc := 23) hx hb dX6_killsOther_23 rfl (lv_at hl 0 rfl) ?_
        refine x_get (pc := 24) C I wR_0 rfl inlX6 (k := 14) q_4_21 (by decide) rfl rfl dX6_killsOther_24 ?_
        refine lv_iload_n (pc := 27) hx hb dX6_killsOther_27 rfl (lv_at hl 2 rfl) ?_
        obtain ⟨g9, h⟩ := h
        refine x_ald (pc := 28) C I wR_7 g9 dX6_killsOther_28 ?_
        refine lv_aload_n (pc := 29) hx hb dX6_killsOther_29 rfl (lv_at hl 0 rfl) ?_
        refine x_get (pc := 30) C I wR_0 rfl inlX6 (k := 14) q_4_21 (by decide) rfl rfl dX6_killsOther_30 ?_
        refine lv_iload_n (pc := 33) hx hb dX6_killsOther_33 rfl (lv_at hl 1 rfl) ?_
        obtain ⟨g10, h⟩ := h
        refine x_ald (pc := 34) C I wR_7 g10 dX6_killsOther_34 ?_
        refine lv_icmp_ne (pc := 35) (tgt := 44) hx hb dX6_killsOther_35 (by decide) (fun g11 => ?_) (fun g11 => ?_)
        · have h := h.2 g11
          obtain ⟨y12, ey12⟩ : ∃ y : Int32, y = (x2 + 1) := ⟨_, rfl⟩
          have h := h y12 ey12
          refine lv_iinc (pc := 44) (v := y12) (lv' := [(2, .int y12), (0, .ref (r 0)), (1, .int x1)]) hx hb dX6_killsOther_44 hl (k := 2) rfl (by rw [ey12]; rfl) (by decide) rfl (fun ls hl => ?_)
          refine lv_goto (pc := 47) (tgt := 5) hx hb dX6_killsOther_47 (by decide) ?_
          exact ih5 N3 x1 y12 _ _ _ h I (lv_sub hl [1, 2, 0] rfl)
        · have h := h.1 g11
          refine lv_aload_n (pc := 38) hx hb dX6_killsOther_38 rfl (lv_at hl 0 rfl) ?_
          refine lv_iload_n (pc := 39) hx hb dX6_killsOther_39 rfl (lv_at hl 2 rfl) ?_
          refine lv_iconst (pc := 40) (v := 3) hx hb dX6_killsOther_40 (by decide) ?_
          refine x_callv (pc := 41) C I hA (m_X6_stops h) c_RX6_98 wR_0 rfl ⟨Nat.le_of_ble_eq_true rfl, Nat.le_of_ble_eq_true rfl⟩ ⟨rfl, rfl⟩ ⟨Nat.le_of_ble_eq_true rfl, Nat.le_of_ble_eq_true rfl⟩ (As := [.int x2, .int 3]) rfl hl.1 rfl (Nat.le_of_ble_eq_true rfl) dX6_killsOther_41 (fun N13 H locs h I => ?_)
          obtain ⟨y14, ey14⟩ : ∃ y : Int32, y = (x2 + 1) := ⟨_, rfl⟩
          have h := h y14 ey14
          refine lv_iinc (pc := 44) (v := y14) (lv' := [(2, .int y14), (0, .ref (r 0)), (1, .int x1)]) hx hb dX6_killsOther_44 hl (k := 2) rfl (by rw [ey14]; rfl) (by decide) rfl (fun ls hl => ?_)
          refine lv_goto (pc := 47) (tgt := 5) hx hb dX6_killsOther_47 (by decide) ?_
          exact ih5 N13 x1 y14 _ _ _ h I (lv_sub hl [1, 2, 0] rfl)
set_option maxHeartbeats 4000000 in
set_option maxRecDepth 100000 in
theorem m_X6_killsOther {l : Launch} {D : va_G} {cI cZ : ClassId} {r : Nat → Nat} {N : xM} {x1 : Int32} {post : xM → Prop} (h : V_X6_killsOther N x1 post) : xMv l yX6_killsOther cX6_killsOther 3 none { frames := 1, cells := 0, slots := 0, locals := 22 } D cI cZ (wR cI cZ r) N [.ref (r 0), .int x1] post := by
  refine x_bodyv (own := RX6) (by decide) rfl (Nat.le_of_ble_eq_true rfl) ?_
  intro p e s m below meth c A ls C hr hlocks hA I hl
  have hx := C.1.1
  have hb := C.1.2.1
  have hl : lv_has ls 3 [(0, .ref (r 0)), (1, .int x1)] := hl
  unfold V_X6_killsOther at h
  refine lv_aload_n (pc := 0) hx hb dX6_killsOther_0 rfl (lv_at hl 0 rfl) ?_
  refine x_calli (pc := 1) C I hA (m_X6_first h) c_RX6_109 wR_0 rfl ⟨Nat.le_of_ble_eq_true rfl, Nat.le_of_ble_eq_true rfl⟩ ⟨rfl, rfl⟩ ⟨Nat.le_of_ble_eq_true rfl, Nat.le_of_ble_eq_true rfl⟩ (As := []) rfl hl.1 rfl (Nat.le_of_ble_eq_true rfl) dX6_killsOther_1 (fun r2 N1 H locs h I => ?_)
  refine lv_istore_n (pc := 4) (lv' := [(2, .int r2), (0, .ref (r 0)), (1, .int x1)]) hx hb dX6_killsOther_4 rfl hl (by decide) rfl (fun ls hl => ?_)
  obtain ⟨n15, h⟩ := h
  exact k_X6_killsOther_L5 C hr hlocks hA n15 N1 x1 r2 _ _ _ h I (lv_sub hl [1, 2, 0] rfl)
def V_X6_commits_L7 (post : Int32 → xM → Prop) : Nat → xM → Int32 → Int32 → Prop
  | 0, _, _, _ => False
  | n + 1, N0, x1, x2 => (V_X6_last N0  (fun r4 N3 => ((r4 ≤ x2 → post x1 N3) ∧ (¬ r4 ≤ x2 → (vp_in x2 400 ∧ (((N3 11 (x2).toNatClampNeg) = 1 → (vp_in x2 400 ∧ (vp_in x2 400 ∧ (vp_in (N3 7 (x2).toNatClampNeg) 24 ∧ (((N3 10 (x2).toNatClampNeg) < (N3 4 ((N3 7 (x2).toNatClampNeg)).toNatClampNeg) → (∀ y13 : Int32, y13 = (x2 + 1) → (V_X6_commits_L7 post n N3 x1 y13))) ∧ (¬ (N3 10 (x2).toNatClampNeg) < (N3 4 ((N3 7 (x2).toNatClampNeg)).toNatClampNeg) → (V_X6_stops N3 x2 2 (fun N14 => (V_X6_killsOther N14 x2 (fun N15 => (vp_in x2 400 ∧ (V_X6_first N15  (fun r18 N17 => (vp_in ((24 * (N15 0 11)) + (N15 7 (x2).toNatClampNeg)) 48 ∧ ∀ N20 : xM, N20 = xu N17 13 (((24 * (N15 0 11)) + (N15 7 (x2).toNatClampNeg))).toNatClampNeg (x2 - r18) → (vp_in x2 400 ∧ (vp_in (N20 0 11) 2 ∧ (vp_in ((24 * (N20 0 11)) + (N20 7 (x2).toNatClampNeg)) 48 ∧ ∀ N24 : xM, N24 = xu N20 14 (((24 * (N20 0 11)) + (N20 7 (x2).toNatClampNeg))).toNatClampNeg ((N20 6 ((N20 0 11)).toNatClampNeg) + 1) → (∀ y25 : Int32, y25 = (x1 + 1) → (∀ y26 : Int32, y26 = (x2 + 1) → (V_X6_commits_L7 post n N24 y25 y26)))))))))))))))))))) ∧ (¬ (N3 11 (x2).toNatClampNeg) = 1 → (∀ y8 : Int32, y8 = (x2 + 1) → (V_X6_commits_L7 post n N3 x1 y8)))))))))
def V_X6_commits (N : xM) (post : Int32 → xM → Prop) : Prop := (V_X6_first N  (fun r2 N1 => (∃ n27 : Nat, V_X6_commits_L7 post n27 N1 0 r2)))
set_option maxHeartbeats 4000000 in
set_option maxRecDepth 100000 in
theorem k_X6_commits_L7 {l : Launch} {D : va_G} {cI cZ : ClassId} {r : Nat → Nat} {p : Program} {e : Env} {s : State} {m : MethodId} {below : List Frame} {meth : Method} {c : Code} {A : Nat → Prop} {args : Array Value} {post : Int32 → xM → Prop} (C : xC p s m args c cX6_commits 3 RX6 D cI cZ) (hr : meth.sig.returnType = (some .int)) (hlocks : meth.locks = false) (hA : ∀ q : Nat, s.heap.size ≤ q → A q) (n : Nat) : ∀ (N0 : xM) (x1 x2 : Int32) (H : Heap) (locs : List Loc) (ls : Array Slot), V_X6_commits_L7 post n N0 x1 x2 → xI D (wR cI cZ r N0) A s.heap H locs → lv_has ls 3 [(0, .ref (r 0)), (1, .int x1), (2, .int x2)] → W p l e { frames := 2, cells := 0, slots := 0, locals := 44 } s m args below meth c H locs 0 0 (MQ below (va_Qi post (xPost D cI cZ A (wR cI cZ r)) A) args s 0 0 A) (F0 m 7 ls []) := by
  have hx := C.1.1
  have hb := C.1.2.1
  induction n with
  | zero =>
    intro N0 x1 x2 H locs ls h I hl
    exact absurd h id
  | succ n ih7 =>
    intro N0 x1 x2 H locs ls h I hl
    rw [V_X6_commits_L7] at h
    refine lv_iload_n (pc := 7) hx hb dX6_commits_7 rfl (lv_at hl 2 rfl) ?_
    refine lv_aload_n (pc := 8) hx hb dX6_commits_8 rfl (lv_at hl 0 rfl) ?_
    refine x_calli (pc := 9) C I hA (m_X6_last h) c_RX6_113 wR_0 rfl ⟨Nat.le_of_ble_eq_true rfl, Nat.le_of_ble_eq_true rfl⟩ ⟨rfl, rfl⟩ ⟨Nat.le_of_ble_eq_true rfl, Nat.le_of_ble_eq_true rfl⟩ (As := []) rfl hl.1 rfl (Nat.le_of_ble_eq_true rfl) dX6_commits_9 (fun r4 N3 H locs h I => ?_)
    refine lv_icmp_ge (pc := 12) (tgt := 120) hx hb dX6_commits_12 (by decide) (fun g5 => ?_) (fun g5 => ?_)
    · have h := h.1 g5
      refine lv_iload_n (pc := 120) hx hb dX6_commits_120 rfl (lv_at hl 1 rfl) ?_
      exact x_ireti (pc := 121) C I hr hlocks h dX6_commits_121
    · have h := h.2 g5
      refine lv_aload_n (pc := 15) hx hb dX6_commits_15 rfl (lv_at hl 0 rfl) ?_
      refine x_get (pc := 16) C I wR_0 rfl inlX6 (k := 18) q_5_1 (by decide) rfl rfl dX6_commits_16 ?_
      refine lv_iload_n (pc := 19) hx hb dX6_commits_19 rfl (lv_at hl 2 rfl) ?_
      obtain ⟨g6, h⟩ := h
      refine x_ald (pc := 20) C I wR_11 g6 dX6_commits_20 ?_
      refine lv_iconst (pc := 21) (v := 1) hx hb dX6_commits_21 (by decide) ?_
      refine lv_icmp_ne (pc := 22) (tgt := 114) hx hb dX6_commits_22 (by decide) (fun g7 => ?_) (fun g7 => ?_)
      · have h := h.2 g7
        obtain ⟨y8, ey8⟩ : ∃ y : Int32, y = (x2 + 1) := ⟨_, rfl⟩
        have h := h y8 ey8
        refine lv_iinc (pc := 114) (v := y8) (lv' := [(2, .int y8), (0, .ref (r 0)), (1, .int x1)]) hx hb dX6_commits_114 hl (k := 2) rfl (by rw [ey8]; rfl) (by decide) rfl (fun ls hl => ?_)
        refine lv_goto (pc := 117) (tgt := 7) hx hb dX6_commits_117 (by decide) ?_
        exact ih7 N3 x1 y8 _ _ _ h I (lv_sub hl [1, 2, 0] rfl)
      · have h := h.1 g7
        refine lv_aload_n (pc := 25) hx hb dX6_commits_25 rfl (lv_at hl 0 rfl) ?_
        refine x_get (pc := 26) C I wR_0 rfl inlX6 (k := 17) q_5_0 (by decide) rfl rfl dX6_commits_26 ?_
        refine lv_iload_n (pc := 29) hx hb dX6_commits_29 rfl (lv_at hl 2 rfl) ?_
        obtain ⟨g9, h⟩ := h
        refine x_ald (pc := 30) C I wR_10 g9 dX6_commits_30 ?_
        refine lv_aload_n (pc := 31) hx hb dX6_commits_31 rfl (lv_at hl 0 rfl) ?_
        refine x_get (pc := 32) C I wR_0 rfl inlX6 (k := 5) q_4_14 (by decide) rfl rfl dX6_commits_32 ?_
        refine lv_aload_n (pc := 35) hx hb dX6_commits_35 rfl (lv_at hl 0 rfl) ?_
        refine x_get (pc := 36) C I wR_0 rfl inlX6 (k := 14) q_4_21 (by decide) rfl rfl dX6_commits_36 ?_
        refine lv_iload_n (pc := 39) hx hb dX6_commits_39 rfl (lv_at hl 2 rfl) ?_
        obtain ⟨g10, h⟩ := h
        refine x_ald (pc := 40) C I wR_7 g10 dX6_commits_40 ?_
        obtain ⟨g11, h⟩ := h
        refine x_ald (pc := 41) C I wR_4 g11 dX6_commits_41 ?_
        refine lv_icmp_lt (pc := 42) (tgt := 114) hx hb dX6_commits_42 (by decide) (fun g12 => ?_) (fun g12 => ?_)
        · have h := h.1 g12
          obtain ⟨y13, ey13⟩ : ∃ y : Int32, y = (x2 + 1) := ⟨_, rfl⟩
          have h := h y13 ey13
          refine lv_iinc (pc := 114) (v := y13) (lv' := [(2, .int y13), (0, .ref (r 0)), (1, .int x1)]) hx hb dX6_commits_114 hl (k := 2) rfl (by rw [ey13]; rfl) (by decide) rfl (fun ls hl => ?_)
          refine lv_goto (pc := 117) (tgt := 7) hx hb dX6_commits_117 (by decide) ?_
          exact ih7 N3 x1 y13 _ _ _ h I (lv_sub hl [1, 2, 0] rfl)
        · have h := h.2 g12
          refine lv_aload_n (pc := 45) hx hb dX6_commits_45 rfl (lv_at hl 0 rfl) ?_
          refine lv_iload_n (pc := 46) hx hb dX6_commits_46 rfl (lv_at hl 2 rfl) ?_
          refine lv_iconst (pc := 47) (v := 2) hx hb dX6_commits_47 (by decide) ?_
          refine x_callv (pc := 48) C I hA (m_X6_stops h) c_RX6_98 wR_0 rfl ⟨Nat.le_of_ble_eq_true rfl, Nat.le_of_ble_eq_true rfl⟩ ⟨rfl, rfl⟩ ⟨Nat.le_of_ble_eq_true rfl, Nat.le_of_ble_eq_true rfl⟩ (As := [.int x2, .int 2]) rfl hl.1 rfl (Nat.le_of_ble_eq_true rfl) dX6_commits_48 (fun N14 H locs h I => ?_)
          refine lv_aload_n (pc := 51) hx hb dX6_commits_51 rfl (lv_at hl 0 rfl) ?_
          refine lv_iload_n (pc := 52) hx hb dX6_commits_52 rfl (lv_at hl 2 rfl) ?_
          refine x_callv (pc := 53) C I hA (m_X6_killsOther h) c_RX6_161 wR_0 rfl ⟨Nat.le_of_ble_eq_true rfl, Nat.le_of_ble_eq_true rfl⟩ ⟨rfl, rfl⟩ ⟨Nat.le_of_ble_eq_true rfl, Nat.le_of_ble_eq_true rfl⟩ (As := [.int x2]) rfl hl.1 rfl (Nat.le_of_ble_eq_true rfl) dX6_commits_53 (fun N15 H locs h I => ?_)
          refine lv_aload_n (pc := 56) hx hb dX6_commits_56 rfl (lv_at hl 0 rfl) ?_
          refine x_get (pc := 57) C I wR_0 rfl inlX6 (k := 20) q_5_3 (by decide) rfl rfl dX6_commits_57 ?_
          refine lv_bipush (pc := 60) (v := 24) hx hb dX6_commits_60 (by decide) ?_
          refine lv_aload_n (pc := 62) hx hb dX6_commits_62 rfl (lv_at hl 0 rfl) ?_
          refine x_get (pc := 63) C I wR_0 rfl inlX6 (k := 11) q_8_7 (by decide) rfl rfl dX6_commits_63 ?_
          refine lv_imul (pc := 66) hx hb dX6_commits_66 ?_
          refine lv_aload_n (pc := 67) hx hb dX6_commits_67 rfl (lv_at hl 0 rfl) ?_
          refine x_get (pc := 68) C I wR_0 rfl inlX6 (k := 14) q_4_21 (by decide) rfl rfl dX6_commits_68 ?_
          refine lv_iload_n (pc := 71) hx hb dX6_commits_71 rfl (lv_at hl 2 rfl) ?_
          obtain ⟨g16, h⟩ := h
          refine x_ald (pc := 72) C I wR_7 g16 dX6_commits_72 ?_
          refine lv_iadd (pc := 73) hx hb dX6_commits_73 ?_
          refine lv_iload_n (pc := 74) hx hb dX6_commits_74 rfl (lv_at hl 2 rfl) ?_
          refine lv_aload_n (pc := 75) hx hb dX6_commits_75 rfl (lv_at hl 0 rfl) ?_
          refine x_calli (pc := 76) C I hA (m_X6_first h) c_RX6_109 wR_0 rfl ⟨Nat.le_of_ble_eq_true rfl, Nat.le_of_ble_eq_true rfl⟩ ⟨rfl, rfl⟩ ⟨Nat.le_of_ble_eq_true rfl, Nat.le_of_ble_eq_true rfl⟩ (As := []) rfl hl.1 rfl (Nat.le_of_ble_eq_true rfl) dX6_commits_76 (fun r18 N17 H locs h I => ?_)
          refine lv_isub (pc := 79) hx hb dX6_commits_79 ?_
          obtain ⟨g19, h⟩ := h
          refine x_ast (pc := 80) C I wR_13 g19 sR_13 dX6_commits_80 (fun H locs I => ?_)
          obtain ⟨N20, eN20⟩ : ∃ z : xM, z = xu N17 13 (((24 * (N15 0 11)) + (N15 7 (x2).toNatClampNeg))).toNatClampNeg (x2 - r18) := ⟨_, rfl⟩
          have h := h N20 eN20
          rw [← eN20] at I
          refine lv_aload_n (pc := 81) hx hb dX6_commits_81 rfl (lv_at hl 0 rfl) ?_
          refine x_get (pc := 82) C I wR_0 rfl inlX6 (k := 21) q_5_4 (by decide) rfl rfl dX6_commits_82 ?_
          refine lv_bipush (pc := 85) (v := 24) hx hb dX6_commits_85 (by decide) ?_
          refine lv_aload_n (pc := 87) hx hb dX6_commits_87 rfl (lv_at hl 0 rfl) ?_
          refine x_get (pc := 88) C I wR_0 rfl inlX6 (k := 11) q_8_7 (by decide) rfl rfl dX6_commits_88 ?_
          refine lv_imul (pc := 91) hx hb dX6_commits_91 ?_
          refine lv_aload_n (pc := 92) hx hb dX6_commits_92 rfl (lv_at hl 0 rfl) ?_
          refine x_get (pc := 93) C I wR_0 rfl inlX6 (k := 14) q_4_21 (by decide) rfl rfl dX6_commits_93 ?_
          refine lv_iload_n (pc := 96) hx hb dX6_commits_96 rfl (lv_at hl 2 rfl) ?_
          obtain ⟨g21, h⟩ := h
          refine x_ald (pc := 97) C I wR_7 g21 dX6_commits_97 ?_
          refine lv_iadd (pc := 98) hx hb dX6_commits_98 ?_
          refine lv_aload_n (pc := 99) hx hb dX6_commits_99 rfl (lv_at hl 0 rfl) ?_
          refine x_get (pc := 100) C I wR_0 rfl inlX6 (k := 13) q_4_20 (by decide) rfl rfl dX6_commits_100 ?_
          refine lv_aload_n (pc := 103) hx hb dX6_commits_103 rfl (lv_at hl 0 rfl) ?_
          refine x_get (pc := 104) C I wR_0 rfl inlX6 (k := 11) q_8_7 (by decide) rfl rfl dX6_commits_104 ?_
          obtain ⟨g22, h⟩ := h
          refine x_ald (pc := 107) C I wR_6 g22 dX6_commits_107 ?_
          refine lv_iconst (pc := 108) (v := 1) hx hb dX6_commits_108 (by decide) ?_
          refine lv_iadd (pc := 109) hx hb dX6_commits_109 ?_
          obtain ⟨g23, h⟩ := h
          refine x_ast (pc := 110) C I wR_14 g23 sR_14 dX6_commits_110 (fun H locs I => ?_)
          obtain ⟨N24, eN24⟩ : ∃ z : xM, z = xu N20 14 (((24 * (N20 0 11)) + (N20 7 (x2).toNatClampNeg))).toNatClampNeg ((N20 6 ((N20 0 11)).toNatClampNeg) + 1) := ⟨_, rfl⟩
          have h := h N24 eN24
          rw [← eN24] at I
          obtain ⟨y25, ey25⟩ : ∃ y : Int32, y = (x1 + 1) := ⟨_, rfl⟩
          have h := h y25 ey25
          refine lv_iinc (pc := 111) (v := y25) (lv' := [(1, .int y25), (0, .ref (r 0)), (2, .int x2)]) hx hb dX6_commits_111 hl (k := 1) rfl (by rw [ey25]; rfl) (by decide) rfl (fun ls hl => ?_)
          obtain ⟨y26, ey26⟩ : ∃ y : Int32, y = (x2 + 1) := ⟨_, rfl⟩
          have h := h y26 ey26
          refine lv_iinc (pc := 114) (v := y26) (lv' := [(2, .int y26), (1, .int y25), (0, .ref (r 0))]) hx hb dX6_commits_114 hl (k := 2) rfl (by rw [ey26]; rfl) (by decide) rfl (fun ls hl => ?_)
          refine lv_goto (pc := 117) (tgt := 7) hx hb dX6_commits_117 (by decide) ?_
          exact ih7 N24 y25 y26 _ _ _ h I (lv_sub hl [2, 1, 0] rfl)
set_option maxHeartbeats 4000000 in
set_option maxRecDepth 100000 in
theorem m_X6_commits {l : Launch} {D : va_G} {cI cZ : ClassId} {r : Nat → Nat} {N : xM} {post : Int32 → xM → Prop} (h : V_X6_commits N post) : xMi l yX6_commits cX6_commits 3 (some .int) { frames := 2, cells := 0, slots := 0, locals := 44 } D cI cZ (wR cI cZ r) N [.ref (r 0)] post := by
  refine x_bodyi (own := RX6) (by decide) rfl (Nat.le_of_ble_eq_true rfl) ?_
  intro p e s m below meth c A ls C hr hlocks hA I hl
  have hx := C.1.1
  have hb := C.1.2.1
  have hl : lv_has ls 3 [(0, .ref (r 0))] := hl
  unfold V_X6_commits at h
  refine lv_iconst (pc := 0) (v := 0) hx hb dX6_commits_0 (by decide) ?_
  refine lv_istore_n (pc := 1) (lv' := [(1, .int 0), (0, .ref (r 0))]) hx hb dX6_commits_1 rfl hl (by decide) rfl (fun ls hl => ?_)
  refine lv_aload_n (pc := 2) hx hb dX6_commits_2 rfl (lv_at hl 1 rfl) ?_
  refine x_calli (pc := 3) C I hA (m_X6_first h) c_RX6_109 wR_0 rfl ⟨Nat.le_of_ble_eq_true rfl, Nat.le_of_ble_eq_true rfl⟩ ⟨rfl, rfl⟩ ⟨Nat.le_of_ble_eq_true rfl, Nat.le_of_ble_eq_true rfl⟩ (As := []) rfl hl.1 rfl (Nat.le_of_ble_eq_true rfl) dX6_commits_3 (fun r2 N1 H locs h I => ?_)
  refine lv_istore_n (pc := 6) (lv' := [(2, .int r2), (1, .int 0), (0, .ref (r 0))]) hx hb dX6_commits_6 rfl hl (by decide) rfl (fun ls hl => ?_)
  obtain ⟨n27, h⟩ := h
  exact k_X6_commits_L7 C hr hlocks hA n27 N1 0 r2 _ _ _ h I (lv_sub hl [2, 1, 0] rfl)
def V_X6_passes_L12 (K : xM → Int32 → Int32 → Prop) : Nat → xM → Int32 → Int32 → Int32 → Prop
  | 0, _, _, _, _ => False
  | n + 1, N0, x1, x2, x3 => ((x3 = 0 → (K N0 x1 x2)) ∧ (¬ x3 = 0 → (V_X6_hasSlot N0 x2 (fun r10 N9 => ((r10 = 0 → (K N9 x1 x2)) ∧ (¬ r10 = 0 → (V_X6_startsOn N9 x2 x1 (fun r13 N12 => (V_X6_passes_L12 K n N12 x1 x2 r13)))))))))
def V_X6_passes_L2 (post : Int32 → xM → Prop) : Nat → xM → Int32 → Int32 → Prop
  | 0, _, _, _ => False
  | n + 1, N0, x1, x2 => (((N0 0 0) ≤ x2 → (V_X6_works N0  (fun N2 => (V_X6_commits N2  (fun r4 N3 => (vp_in (N3 0 11) 2 ∧ (vp_in (N3 0 11) 2 ∧ ∀ N7 : xM, N7 = xu N3 6 ((N3 0 11)).toNatClampNeg ((N3 6 ((N3 0 11)).toNatClampNeg) + 1) → post r4 N7))))))) ∧ (¬ (N0 0 0) ≤ x2 → (∃ n18 : Nat, V_X6_passes_L12 (fun (N14 : xM) (x15 : Int32) (x16 : Int32) => (∀ y17 : Int32, y17 = (x16 + 1) → (V_X6_passes_L2 post n N14 x15 y17))) n18 N0 x1 x2 1)))
def V_X6_passes (N : xM) (x1 : Int32) (post : Int32 → xM → Prop) : Prop := (∃ n19 : Nat, V_X6_passes_L2 post n19 N x1 0)
set_option maxHeartbeats 4000000 in
set_option maxRecDepth 100000 in
theorem k_X6_passes_L12 {l : Launch} {D : va_G} {cI cZ : ClassId} {r : Nat → Nat} {p : Program} {e : Env} {s : State} {m : MethodId} {below : List Frame} {meth : Method} {c : Code} {A : Nat → Prop} {args : Array Value} {Q : State → Prop} {K : xM → Int32 → Int32 → Prop} (C : xC p s m args c cX6_passes 4 RX6 D cI cZ) (hA : ∀ q : Nat, s.heap.size ≤ q → A q) (hK : ∀ (N9 : xM) (z1 z2 : Int32) (H : Heap) (locs : List Loc) (ls : Array Slot), K N9 z1 z2 → xI D (wR cI cZ r N9) A s.heap H locs → lv_has ls 4 [(0, .ref (r 0)), (1, .int z1), (2, .int z2)] → W p l e { frames := 6, cells := 0, slots := 0, locals := 136 } s m args below meth c H locs 0 0 Q (F0 m 34 ls [])) (n : Nat) : ∀ (N0 : xM) (x1 x2 x3 : Int32) (H : Heap) (locs : List Loc) (ls : Array Slot), V_X6_passes_L12 K n N0 x1 x2 x3 → xI D (wR cI cZ r N0) A s.heap H locs → lv_has ls 4 [(0, .ref (r 0)), (1, .int x1), (2, .int x2), (3, .int x3)] → W p l e { frames := 6, cells := 0, slots := 0, locals := 136 } s m args below meth c H locs 0 0 Q (F0 m 12 ls []) := by
  have hx := C.1.1
  have hb := C.1.2.1
  induction n with
  | zero =>
    intro N0 x1 x2 x3 H locs ls h I hl
    exact absurd h id
  | succ n ih12 =>
    intro N0 x1 x2 x3 H locs ls h I hl
    rw [V_X6_passes_L12] at h
    refine lv_iload_n (pc := 12) hx hb dX6_passes_12 rfl (lv_at hl 3 rfl) ?_
    refine lv_if_eq (pc := 13) (tgt := 34) hx hb dX6_passes_13 (by decide) (fun g8 => ?_) (fun g8 => ?_)
    · have h := h.1 g8
      exact hK N0 x1 x2 _ _ _ h I (lv_sub hl [0, 1, 2] rfl)
    · have h := h.2 g8
      refine lv_aload_n (pc := 16) hx hb dX6_passes_16 rfl (lv_at hl 0 rfl) ?_
      refine lv_iload_n (pc := 17) hx hb dX6_passes_17 rfl (lv_at hl 2 rfl) ?_
      refine x_calli (pc := 18) C I hA (m_X6_hasSlot h) c_RX6_165 wR_0 rfl ⟨Nat.le_of_ble_eq_true rfl, Nat.le_of_ble_eq_true rfl⟩ ⟨rfl, rfl⟩ ⟨Nat.le_of_ble_eq_true rfl, Nat.le_of_ble_eq_true rfl⟩ (As := [.int x2]) rfl hl.1 rfl (Nat.le_of_ble_eq_true rfl) dX6_passes_18 (fun r10 N9 H locs h I => ?_)
      refine lv_if_eq (pc := 21) (tgt := 34) hx hb dX6_passes_21 (by decide) (fun g11 => ?_) (fun g11 => ?_)
      · have h := h.1 g11
        exact hK N9 x1 x2 _ _ _ h I (lv_sub hl [0, 1, 2] rfl)
      · have h := h.2 g11
        refine lv_aload_n (pc := 24) hx hb dX6_passes_24 rfl (lv_at hl 0 rfl) ?_
        refine lv_iload_n (pc := 25) hx hb dX6_passes_25 rfl (lv_at hl 2 rfl) ?_
        refine lv_iload_n (pc := 26) hx hb dX6_passes_26 rfl (lv_at hl 1 rfl) ?_
        refine x_calli (pc := 27) C I hA (m_X6_startsOn h) c_RX6_168 wR_0 rfl ⟨Nat.le_of_ble_eq_true rfl, Nat.le_of_ble_eq_true rfl⟩ ⟨rfl, rfl⟩ ⟨Nat.le_of_ble_eq_true rfl, Nat.le_of_ble_eq_true rfl⟩ (As := [.int x2, .int x1]) rfl hl.1 rfl (Nat.le_of_ble_eq_true rfl) dX6_passes_27 (fun r13 N12 H locs h I => ?_)
        refine lv_istore_n (pc := 30) (lv' := [(3, .int r13), (0, .ref (r 0)), (1, .int x1), (2, .int x2)]) hx hb dX6_passes_30 rfl hl (by decide) rfl (fun ls hl => ?_)
        refine lv_goto (pc := 31) (tgt := 12) hx hb dX6_passes_31 (by decide) ?_
        exact ih12 N12 x1 x2 r13 _ _ _ h I (lv_sub hl [1, 2, 3, 0] rfl)
set_option maxHeartbeats 4000000 in
set_option maxRecDepth 100000 in
theorem k_X6_passes_L2 {l : Launch} {D : va_G} {cI cZ : ClassId} {r : Nat → Nat} {p : Program} {e : Env} {s : State} {m : MethodId} {below : List Frame} {meth : Method} {c : Code} {A : Nat → Prop} {args : Array Value} {post : Int32 → xM → Prop} (C : xC p s m args c cX6_passes 4 RX6 D cI cZ) (hr : meth.sig.returnType = (some .int)) (hlocks : meth.locks = false) (hA : ∀ q : Nat, s.heap.size ≤ q → A q) (n : Nat) : ∀ (N0 : xM) (x1 x2 : Int32) (H : Heap) (locs : List Loc) (ls : Array Slot), V_X6_passes_L2 post n N0 x1 x2 → xI D (wR cI cZ r N0) A s.heap H locs → lv_has ls 4 [(0, .ref (r 0)), (1, .int x1), (2, .int x2)] → W p l e { frames := 6, cells := 0, slots := 0, locals := 136 } s m args below meth c H locs 0 0 (MQ below (va_Qi post (xPost D cI cZ A (wR cI cZ r)) A) args s 0 0 A) (F0 m 2 ls []) := by
  have hx := C.1.1
  have hb := C.1.2.1
  induction n with
  | zero =>
    intro N0 x1 x2 H locs ls h I hl
    exact absurd h id
  | succ n ih2 =>
    intro N0 x1 x2 H locs ls h I hl
    rw [V_X6_passes_L2] at h
    refine lv_iload_n (pc := 2) hx hb dX6_passes_2 rfl (lv_at hl 2 rfl) ?_
    refine lv_aload_n (pc := 3) hx hb dX6_passes_3 rfl (lv_at hl 0 rfl) ?_
    refine x_get (pc := 4) C I wR_0 rfl inlX6 (k := 0) q_6_2 (by decide) rfl rfl dX6_passes_4 ?_
    refine lv_icmp_ge (pc := 7) (tgt := 40) hx hb dX6_passes_7 (by decide) (fun g1 => ?_) (fun g1 => ?_)
    · have h := h.1 g1
      refine lv_aload_n (pc := 40) hx hb dX6_passes_40 rfl (lv_at hl 0 rfl) ?_
      refine x_callv (pc := 41) C I hA (m_X6_works h) c_RX6_172 wR_0 rfl ⟨Nat.le_of_ble_eq_true rfl, Nat.le_of_ble_eq_true rfl⟩ ⟨rfl, rfl⟩ ⟨Nat.le_of_ble_eq_true rfl, Nat.le_of_ble_eq_true rfl⟩ (As := []) rfl hl.1 rfl (Nat.le_of_ble_eq_true rfl) dX6_passes_41 (fun N2 H locs h I => ?_)
      refine lv_aload_n (pc := 44) hx hb dX6_passes_44 rfl (lv_at hl 0 rfl) ?_
      refine x_calli (pc := 45) C I hA (m_X6_commits h) c_RX6_175 wR_0 rfl ⟨Nat.le_of_ble_eq_true rfl, Nat.le_of_ble_eq_true rfl⟩ ⟨rfl, rfl⟩ ⟨Nat.le_of_ble_eq_true rfl, Nat.le_of_ble_eq_true rfl⟩ (As := []) rfl hl.1 rfl (Nat.le_of_ble_eq_true rfl) dX6_passes_45 (fun r4 N3 H locs h I => ?_)
      refine lv_istore_n (pc := 48) (lv' := [(2, .int r4), (0, .ref (r 0)), (1, .int x1)]) hx hb dX6_passes_48 rfl hl (by decide) rfl (fun ls hl => ?_)
      refine lv_aload_n (pc := 49) hx hb dX6_passes_49 rfl (lv_at hl 1 rfl) ?_
      refine x_get (pc := 50) C I wR_0 rfl inlX6 (k := 13) q_4_20 (by decide) rfl rfl dX6_passes_50 ?_
      refine lv_aload_n (pc := 53) hx hb dX6_passes_53 rfl (lv_at hl 1 rfl) ?_
      refine x_get (pc := 54) C I wR_0 rfl inlX6 (k := 11) q_8_7 (by decide) rfl rfl dX6_passes_54 ?_
      refine lv_dup2_11 (pc := 57) hx hb dX6_passes_57 rfl rfl ?_
      obtain ⟨g5, h⟩ := h
      refine x_ald (pc := 58) C I wR_6 g5 dX6_passes_58 ?_
      refine lv_iconst (pc := 59) (v := 1) hx hb dX6_passes_59 (by decide) ?_
      refine lv_iadd (pc := 60) hx hb dX6_passes_60 ?_
      obtain ⟨g6, h⟩ := h
      refine x_ast (pc := 61) C I wR_6 g6 sR_6 dX6_passes_61 (fun H locs I => ?_)
      obtain ⟨N7, eN7⟩ : ∃ z : xM, z = xu N3 6 ((N3 0 11)).toNatClampNeg ((N3 6 ((N3 0 11)).toNatClampNeg) + 1) := ⟨_, rfl⟩
      have h := h N7 eN7
      rw [← eN7] at I
      refine lv_iload_n (pc := 62) hx hb dX6_passes_62 rfl (lv_at hl 0 rfl) ?_
      exact x_ireti (pc := 63) C I hr hlocks h dX6_passes_63
    · have h := h.2 g1
      refine lv_iconst (pc := 10) (v := 1) hx hb dX6_passes_10 (by decide) ?_
      refine lv_istore_n (pc := 11) (lv' := [(3, .int 1), (0, .ref (r 0)), (1, .int x1), (2, .int x2)]) hx hb dX6_passes_11 rfl hl (by decide) rfl (fun ls hl => ?_)
      obtain ⟨n18, h⟩ := h
      refine k_X6_passes_L12 C hA ?_ n18 N0 x1 x2 1 _ _ _ h I (lv_sub hl [1, 2, 3, 0] rfl)
      intro N14 x15 x16 H locs ls h I hl
      obtain ⟨y17, ey17⟩ : ∃ y : Int32, y = (x16 + 1) := ⟨_, rfl⟩
      have h := h y17 ey17
      refine lv_iinc (pc := 34) (v := y17) (lv' := [(2, .int y17), (0, .ref (r 0)), (1, .int x15)]) hx hb dX6_passes_34 hl (k := 2) rfl (by rw [ey17]; rfl) (by decide) rfl (fun ls hl => ?_)
      refine lv_goto (pc := 37) (tgt := 2) hx hb dX6_passes_37 (by decide) ?_
      exact ih2 N14 x15 y17 _ _ _ h I (lv_sub hl [1, 2, 0] rfl)
set_option maxHeartbeats 4000000 in
set_option maxRecDepth 100000 in
theorem m_X6_passes {l : Launch} {D : va_G} {cI cZ : ClassId} {r : Nat → Nat} {N : xM} {x1 : Int32} {post : Int32 → xM → Prop} (h : V_X6_passes N x1 post) : xMi l yX6_passes cX6_passes 4 (some .int) { frames := 6, cells := 0, slots := 0, locals := 136 } D cI cZ (wR cI cZ r) N [.ref (r 0), .int x1] post := by
  refine x_bodyi (own := RX6) (by decide) rfl (Nat.le_of_ble_eq_true rfl) ?_
  intro p e s m below meth c A ls C hr hlocks hA I hl
  have hx := C.1.1
  have hb := C.1.2.1
  have hl : lv_has ls 4 [(0, .ref (r 0)), (1, .int x1)] := hl
  unfold V_X6_passes at h
  refine lv_iconst (pc := 0) (v := 0) hx hb dX6_passes_0 (by decide) ?_
  refine lv_istore_n (pc := 1) (lv' := [(2, .int 0), (0, .ref (r 0)), (1, .int x1)]) hx hb dX6_passes_1 rfl hl (by decide) rfl (fun ls hl => ?_)
  obtain ⟨n19, h⟩ := h
  exact k_X6_passes_L2 C hr hlocks hA n19 N x1 0 _ _ _ h I (lv_sub hl [1, 2, 0] rfl)
def V_X6_tick_L18 (post : Int32 → xM → Prop) : Nat → xM → Int32 → Int32 → Int32 → Prop
  | 0, _, _, _, _ => False
  | n + 1, N0, x1, x2, x3 => ((x1 ≤ x3 → post x2 N0) ∧ (¬ x1 ≤ x3 → (V_X6_passes N0 (N0 0 6) (fun r5 N4 => (∀ y6 : Int32, y6 = (x2 + r5) → (∀ y7 : Int32, y7 = (x3 + 1) → (V_X6_tick_L18 post n N4 x1 y6 y7)))))))
def V_X6_tick (N : xM) (x1 : Int32) (post : Int32 → xM → Prop) : Prop := (V_X6_within x1 1 500 (fun r1 => ((r1 = 0 → post (-4) N) ∧ (¬ r1 = 0 → (∃ n8 : Nat, V_X6_tick_L18 post n8 N x1 0 0)))))
set_option maxHeartbeats 4000000 in
set_option maxRecDepth 100000 in
theorem k_X6_tick_L18 {l : Launch} {D : va_G} {cI cZ : ClassId} {r : Nat → Nat} {p : Program} {e : Env} {s : State} {m : MethodId} {below : List Frame} {meth : Method} {c : Code} {A : Nat → Prop} {args : Array Value} {post : Int32 → xM → Prop} (C : xC p s m args c cX6_tick 4 RX6 D cI cZ) (hr : meth.sig.returnType = (some .int)) (hlocks : meth.locks = false) (hA : ∀ q : Nat, s.heap.size ≤ q → A q) (n : Nat) : ∀ (N0 : xM) (x1 x2 x3 : Int32) (H : Heap) (locs : List Loc) (ls : Array Slot), V_X6_tick_L18 post n N0 x1 x2 x3 → xI D (wR cI cZ r N0) A s.heap H locs → lv_has ls 4 [(0, .ref (r 0)), (1, .int x1), (2, .int x2), (3, .int x3)] → W p l e { frames := 7, cells := 0, slots := 0, locals := 159 } s m args below meth c H locs 0 0 (MQ below (va_Qi post (xPost D cI cZ A (wR cI cZ r)) A) args s 0 0 A) (F0 m 18 ls []) := by
  have hx := C.1.1
  have hb := C.1.2.1
  induction n with
  | zero =>
    intro N0 x1 x2 x3 H locs ls h I hl
    exact absurd h id
  | succ n ih18 =>
    intro N0 x1 x2 x3 H locs ls h I hl
    rw [V_X6_tick_L18] at h
    refine lv_iload_n (pc := 18) hx hb dX6_tick_18 rfl (lv_at hl 3 rfl) ?_
    refine lv_iload_n (pc := 19) hx hb dX6_tick_19 rfl (lv_at hl 1 rfl) ?_
    refine lv_icmp_ge (pc := 20) (tgt := 40) hx hb dX6_tick_20 (by decide) (fun g3 => ?_) (fun g3 => ?_)
    · have h := h.1 g3
      refine lv_iload_n (pc := 40) hx hb dX6_tick_40 rfl (lv_at hl 2 rfl) ?_
      exact x_ireti (pc := 41) C I hr hlocks h dX6_tick_41
    · have h := h.2 g3
      refine lv_iload_n (pc := 23) hx hb dX6_tick_23 rfl (lv_at hl 2 rfl) ?_
      refine lv_aload_n (pc := 24) hx hb dX6_tick_24 rfl (lv_at hl 0 rfl) ?_
      refine lv_aload_n (pc := 25) hx hb dX6_tick_25 rfl (lv_at hl 0 rfl) ?_
      refine x_get (pc := 26) C I wR_0 rfl inlX6 (k := 6) q_5_9 (by decide) rfl rfl dX6_tick_26 ?_
      refine x_calli (pc := 29) C I hA (m_X6_passes h) c_RX6_178 wR_0 rfl ⟨Nat.le_of_ble_eq_true rfl, Nat.le_of_ble_eq_true rfl⟩ ⟨rfl, rfl⟩ ⟨Nat.le_of_ble_eq_true rfl, Nat.le_of_ble_eq_true rfl⟩ (As := [.int (N0 0 6)]) rfl hl.1 rfl (Nat.le_of_ble_eq_true rfl) dX6_tick_29 (fun r5 N4 H locs h I => ?_)
      refine lv_iadd (pc := 32) hx hb dX6_tick_32 ?_
      refine lv_topi (fun y6 ey6 => ?_)
      have h := h y6 ey6
      refine lv_istore_n (pc := 33) (lv' := [(2, .int y6), (0, .ref (r 0)), (1, .int x1), (3, .int x3)]) hx hb dX6_tick_33 rfl hl (by decide) rfl (fun ls hl => ?_)
      obtain ⟨y7, ey7⟩ : ∃ y : Int32, y = (x3 + 1) := ⟨_, rfl⟩
      have h := h y7 ey7
      refine lv_iinc (pc := 34) (v := y7) (lv' := [(3, .int y7), (2, .int y6), (0, .ref (r 0)), (1, .int x1)]) hx hb dX6_tick_34 hl (k := 3) rfl (by rw [ey7]; rfl) (by decide) rfl (fun ls hl => ?_)
      refine lv_goto (pc := 37) (tgt := 18) hx hb dX6_tick_37 (by decide) ?_
      exact ih18 N4 x1 y6 y7 _ _ _ h I (lv_sub hl [2, 3, 1, 0] rfl)
set_option maxHeartbeats 4000000 in
set_option maxRecDepth 100000 in
theorem m_X6_tick {l : Launch} {D : va_G} {cI cZ : ClassId} {r : Nat → Nat} {N : xM} {x1 : Int32} {post : Int32 → xM → Prop} (h : V_X6_tick N x1 post) : xMi l yX6_tick cX6_tick 4 (some .int) { frames := 7, cells := 0, slots := 0, locals := 159 } D cI cZ (wR cI cZ r) N [.ref (r 0), .int x1] post := by
  refine x_bodyi (own := RX6) (by decide) rfl (Nat.le_of_ble_eq_true rfl) ?_
  intro p e s m below meth c A ls C hr hlocks hA I hl
  have hx := C.1.1
  have hb := C.1.2.1
  have hl : lv_has ls 4 [(0, .ref (r 0)), (1, .int x1)] := hl
  unfold V_X6_tick at h
  refine lv_iload_n (pc := 0) hx hb dX6_tick_0 rfl (lv_at hl 1 rfl) ?_
  refine lv_iconst (pc := 1) (v := 1) hx hb dX6_tick_1 (by decide) ?_
  refine lv_sipush (pc := 2) (v := 500) hx hb dX6_tick_2 (by decide) ?_
  refine x_calls (pc := 5) C I hA (m_X6_within h) c_RX6_84 ⟨Nat.le_of_ble_eq_true rfl, Nat.le_of_ble_eq_true rfl⟩ ⟨rfl, rfl⟩ ⟨Nat.le_of_ble_eq_true rfl, Nat.le_of_ble_eq_true rfl⟩ (As := [.int x1, .int 1, .int 500]) rfl hl.1 rfl (Nat.le_of_ble_eq_true rfl) dX6_tick_5 (fun r1 u2 H locs h I => ?_)
  obtain ⟨e9, h⟩ := h
  rw [e9] at I
  refine lv_if_ne (pc := 8) (tgt := 14) hx hb dX6_tick_8 (by decide) (fun g2 => ?_) (fun g2 => ?_)
  · have h := h.2 g2
    refine lv_iconst (pc := 14) (v := 0) hx hb dX6_tick_14 (by decide) ?_
    refine lv_istore_n (pc := 15) (lv' := [(2, .int 0), (0, .ref (r 0)), (1, .int x1)]) hx hb dX6_tick_15 rfl hl (by decide) rfl (fun ls hl => ?_)
    refine lv_iconst (pc := 16) (v := 0) hx hb dX6_tick_16 (by decide) ?_
    refine lv_istore_n (pc := 17) (lv' := [(3, .int 0), (2, .int 0), (0, .ref (r 0)), (1, .int x1)]) hx hb dX6_tick_17 rfl hl (by decide) rfl (fun ls hl => ?_)
    obtain ⟨n8, h⟩ := h
    exact k_X6_tick_L18 C hr hlocks hA n8 N x1 0 0 _ _ _ h I (lv_sub hl [2, 3, 1, 0] rfl)
  · have h := h.1 g2
    refine lv_bipush (pc := 11) (v := (-4)) hx hb dX6_tick_11 (by decide) ?_
    exact x_ireti (pc := 13) C I hr hlocks h dX6_tick_13
def V_X6_time (N : xM) (post : Int32 → xM → Prop) : Prop := (vp_in 0 2 ∧ post (N 6 (0 : Int32).toNatClampNeg) N)
set_option maxHeartbeats 4000000 in
set_option maxRecDepth 100000 in
theorem m_X6_time {l : Launch} {D : va_G} {cI cZ : ClassId} {r : Nat → Nat} {N : xM} {post : Int32 → xM → Prop} (h : V_X6_time N post) : xMi l yX6_time cX6_time 1 (some .int) { frames := 0, cells := 0, slots := 0, locals := 0 } D cI cZ (wR cI cZ r) N [.ref (r 0)] post := by
  refine x_bodyi (own := RX6) (by decide) rfl (Nat.le_of_ble_eq_true rfl) ?_
  intro p e s m below meth c A ls C hr hlocks hA I hl
  have hx := C.1.1
  have hb := C.1.2.1
  have hl : lv_has ls 1 [(0, .ref (r 0))] := hl
  unfold V_X6_time at h
  refine lv_aload_n (pc := 0) hx hb dX6_time_0 rfl (lv_at hl 0 rfl) ?_
  refine x_get (pc := 1) C I wR_0 rfl inlX6 (k := 13) q_4_20 (by decide) rfl rfl dX6_time_1 ?_
  refine lv_iconst (pc := 4) (v := 0) hx hb dX6_time_4 (by decide) ?_
  obtain ⟨g1, h⟩ := h
  refine x_ald (pc := 5) C I wR_6 g1 dX6_time_5 ?_
  exact x_ireti (pc := 6) C I hr hlocks h dX6_time_6
def V_X6_taskState (N : xM) (x1 : Int32) (post : Int32 → xM → Prop) : Prop := (V_X6_isTask N x1 (fun r2 N1 => ((r2 = 0 → post (-2) N1) ∧ (¬ r2 = 0 → (V_X6_stateOfTask N1 x1 (fun r5 N4 => post r5 N4))))))
set_option maxHeartbeats 4000000 in
set_option maxRecDepth 100000 in
theorem m_X6_taskState {l : Launch} {D : va_G} {cI cZ : ClassId} {r : Nat → Nat} {N : xM} {x1 : Int32} {post : Int32 → xM → Prop} (h : V_X6_taskState N x1 post) : xMi l yX6_taskState cX6_taskState 2 (some .int) { frames := 2, cells := 0, slots := 0, locals := 43 } D cI cZ (wR cI cZ r) N [.ref (r 0), .int x1] post := by
  refine x_bodyi (own := RX6) (by decide) rfl (Nat.le_of_ble_eq_true rfl) ?_
  intro p e s m below meth c A ls C hr hlocks hA I hl
  have hx := C.1.1
  have hb := C.1.2.1
  have hl : lv_has ls 2 [(0, .ref (r 0)), (1, .int x1)] := hl
  unfold V_X6_taskState at h
  refine lv_aload_n (pc := 0) hx hb dX6_taskState_0 rfl (lv_at hl 0 rfl) ?_
  refine lv_iload_n (pc := 1) hx hb dX6_taskState_1 rfl (lv_at hl 1 rfl) ?_
  refine x_calli (pc := 2) C I hA (m_X6_isTask h) c_RX6_181 wR_0 rfl ⟨Nat.le_of_ble_eq_true rfl, Nat.le_of_ble_eq_true rfl⟩ ⟨rfl, rfl⟩ ⟨Nat.le_of_ble_eq_true rfl, Nat.le_of_ble_eq_true rfl⟩ (As := [.int x1]) rfl hl.1 rfl (Nat.le_of_ble_eq_true rfl) dX6_taskState_2 (fun r2 N1 H locs h I => ?_)
  refine lv_if_eq (pc := 5) (tgt := 16) hx hb dX6_taskState_5 (by decide) (fun g3 => ?_) (fun g3 => ?_)
  · have h := h.1 g3
    refine lv_bipush (pc := 16) (v := (-2)) hx hb dX6_taskState_16 (by decide) ?_
    exact x_ireti (pc := 18) C I hr hlocks h dX6_taskState_18
  · have h := h.2 g3
    refine lv_aload_n (pc := 8) hx hb dX6_taskState_8 rfl (lv_at hl 0 rfl) ?_
    refine lv_iload_n (pc := 9) hx hb dX6_taskState_9 rfl (lv_at hl 1 rfl) ?_
    refine x_calli (pc := 10) C I hA (m_X6_stateOfTask h) c_RX6_143 wR_0 rfl ⟨Nat.le_of_ble_eq_true rfl, Nat.le_of_ble_eq_true rfl⟩ ⟨rfl, rfl⟩ ⟨Nat.le_of_ble_eq_true rfl, Nat.le_of_ble_eq_true rfl⟩ (As := [.int x1]) rfl hl.1 rfl (Nat.le_of_ble_eq_true rfl) dX6_taskState_10 (fun r5 N4 H locs h I => ?_)
    refine lv_goto (pc := 13) (tgt := 18) hx hb dX6_taskState_13 (by decide) ?_
    exact x_ireti (pc := 18) C I hr hlocks h dX6_taskState_18
def V_X6_committedAttempt (N : xM) (x1 : Int32) (post : Int32 → xM → Prop) : Prop := (V_X6_isTask N x1 (fun r2 N1 => ((r2 = 0 → post (-2) N1) ∧ (¬ r2 = 0 → (vp_in x1 48 ∧ post (N1 13 (x1).toNatClampNeg) N1)))))
set_option maxHeartbeats 4000000 in
set_option maxRecDepth 100000 in
theorem m_X6_committedAttempt {l : Launch} {D : va_G} {cI cZ : ClassId} {r : Nat → Nat} {N : xM} {x1 : Int32} {post : Int32 → xM → Prop} (h : V_X6_committedAttempt N x1 post) : xMi l yX6_committedAttempt cX6_committedAttempt 2 (some .int) { frames := 2, cells := 0, slots := 0, locals := 43 } D cI cZ (wR cI cZ r) N [.ref (r 0), .int x1] post := by
  refine x_bodyi (own := RX6) (by decide) rfl (Nat.le_of_ble_eq_true rfl) ?_
  intro p e s m below meth c A ls C hr hlocks hA I hl
  have hx := C.1.1
  have hb := C.1.2.1
  have hl : lv_has ls 2 [(0, .ref (r 0)), (1, .int x1)] := hl
  unfold V_X6_committedAttempt at h
  refine lv_aload_n (pc := 0) hx hb dX6_committedAttempt_0 rfl (lv_at hl 0 rfl) ?_
  refine lv_iload_n (pc := 1) hx hb dX6_committedAttempt_1 rfl (lv_at hl 1 rfl) ?_
  refine x_calli (pc := 2) C I hA (m_X6_isTask h) c_RX6_181 wR_0 rfl ⟨Nat.le_of_ble_eq_true rfl, Nat.le_of_ble_eq_true rfl⟩ ⟨rfl, rfl⟩ ⟨Nat.le_of_ble_eq_true rfl, Nat.le_of_ble_eq_true rfl⟩ (As := [.int x1]) rfl hl.1 rfl (Nat.le_of_ble_eq_true rfl) dX6_committedAttempt_2 (fun r2 N1 H locs h I => ?_)
  refine lv_if_eq (pc := 5) (tgt := 17) hx hb dX6_committedAttempt_5 (by decide) (fun g3 => ?_) (fun g3 => ?_)
  · have h := h.1 g3
    refine lv_bipush (pc := 17) (v := (-2)) hx hb dX6_committedAttempt_17 (by decide) ?_
    exact x_ireti (pc := 19) C I hr hlocks h dX6_committedAttempt_19
  · have h := h.2 g3
    refine lv_aload_n (pc := 8) hx hb dX6_committedAttempt_8 rfl (lv_at hl 0 rfl) ?_
    refine x_get (pc := 9) C I wR_0 rfl inlX6 (k := 20) q_5_3 (by decide) rfl rfl dX6_committedAttempt_9 ?_
    refine lv_iload_n (pc := 12) hx hb dX6_committedAttempt_12 rfl (lv_at hl 1 rfl) ?_
    obtain ⟨g4, h⟩ := h
    refine x_ald (pc := 13) C I wR_13 g4 dX6_committedAttempt_13 ?_
    refine lv_goto (pc := 14) (tgt := 19) hx hb dX6_committedAttempt_14 (by decide) ?_
    exact x_ireti (pc := 19) C I hr hlocks h dX6_committedAttempt_19
def V_X6_finishTime (N : xM) (x1 : Int32) (post : Int32 → xM → Prop) : Prop := (V_X6_isTask N x1 (fun r2 N1 => ((r2 = 0 → post (-2) N1) ∧ (¬ r2 = 0 → (vp_in x1 48 ∧ post (N1 14 (x1).toNatClampNeg) N1)))))
set_option maxHeartbeats 4000000 in
set_option maxRecDepth 100000 in
theorem m_X6_finishTime {l : Launch} {D : va_G} {cI cZ : ClassId} {r : Nat → Nat} {N : xM} {x1 : Int32} {post : Int32 → xM → Prop} (h : V_X6_finishTime N x1 post) : xMi l yX6_finishTime cX6_finishTime 2 (some .int) { frames := 2, cells := 0, slots := 0, locals := 43 } D cI cZ (wR cI cZ r) N [.ref (r 0), .int x1] post := by
  refine x_bodyi (own := RX6) (by decide) rfl (Nat.le_of_ble_eq_true rfl) ?_
  intro p e s m below meth c A ls C hr hlocks hA I hl
  have hx := C.1.1
  have hb := C.1.2.1
  have hl : lv_has ls 2 [(0, .ref (r 0)), (1, .int x1)] := hl
  unfold V_X6_finishTime at h
  refine lv_aload_n (pc := 0) hx hb dX6_finishTime_0 rfl (lv_at hl 0 rfl) ?_
  refine lv_iload_n (pc := 1) hx hb dX6_finishTime_1 rfl (lv_at hl 1 rfl) ?_
  refine x_calli (pc := 2) C I hA (m_X6_isTask h) c_RX6_181 wR_0 rfl ⟨Nat.le_of_ble_eq_true rfl, Nat.le_of_ble_eq_true rfl⟩ ⟨rfl, rfl⟩ ⟨Nat.le_of_ble_eq_true rfl, Nat.le_of_ble_eq_true rfl⟩ (As := [.int x1]) rfl hl.1 rfl (Nat.le_of_ble_eq_true rfl) dX6_finishTime_2 (fun r2 N1 H locs h I => ?_)
  refine lv_if_eq (pc := 5) (tgt := 17) hx hb dX6_finishTime_5 (by decide) (fun g3 => ?_) (fun g3 => ?_)
  · have h := h.1 g3
    refine lv_bipush (pc := 17) (v := (-2)) hx hb dX6_finishTime_17 (by decide) ?_
    exact x_ireti (pc := 19) C I hr hlocks h dX6_finishTime_19
  · have h := h.2 g3
    refine lv_aload_n (pc := 8) hx hb dX6_finishTime_8 rfl (lv_at hl 0 rfl) ?_
    refine x_get (pc := 9) C I wR_0 rfl inlX6 (k := 21) q_5_4 (by decide) rfl rfl dX6_finishTime_9 ?_
    refine lv_iload_n (pc := 12) hx hb dX6_finishTime_12 rfl (lv_at hl 1 rfl) ?_
    obtain ⟨g4, h⟩ := h
    refine x_ald (pc := 13) C I wR_14 g4 dX6_finishTime_13 ?_
    refine lv_goto (pc := 14) (tgt := 19) hx hb dX6_finishTime_14 (by decide) ?_
    exact x_ireti (pc := 19) C I hr hlocks h dX6_finishTime_19
def V_X6_greatestFinish_L5 (post : Int32 → xM → Prop) : Nat → xM → Int32 → Int32 → Prop
  | 0, _, _, _ => False
  | n + 1, N0, x1, x2 => (((N0 0 4) ≤ x2 → post x1 N0) ∧ (¬ (N0 0 4) ≤ x2 → (vp_in ((24 * (N0 0 11)) + x2) 48 ∧ (∀ y3 : Int32, y3 = (N0 14 (((24 * (N0 0 11)) + x2)).toNatClampNeg) → ((y3 = (-6) → post (-6) N0) ∧ (¬ y3 = (-6) → ((y3 ≤ x1 → (∀ y6 : Int32, y6 = (x2 + 1) → (V_X6_greatestFinish_L5 post n N0 x1 y6))) ∧ (¬ y3 ≤ x1 → (∀ y7 : Int32, y7 = (x2 + 1) → (V_X6_greatestFinish_L5 post n N0 y3 y7))))))))))
def V_X6_greatestFinish (N : xM) (post : Int32 → xM → Prop) : Prop := (∃ n8 : Nat, V_X6_greatestFinish_L5 post n8 N (-6) 0)
set_option maxHeartbeats 4000000 in
set_option maxRecDepth 100000 in
theorem k_X6_greatestFinish_L5 {l : Launch} {D : va_G} {cI cZ : ClassId} {r : Nat → Nat} {p : Program} {e : Env} {s : State} {m : MethodId} {below : List Frame} {meth : Method} {c : Code} {A : Nat → Prop} {args : Array Value} {post : Int32 → xM → Prop} (C : xC p s m args c cX6_greatestFinish 4 RX6 D cI cZ) (hr : meth.sig.returnType = (some .int)) (hlocks : meth.locks = false) (hA : ∀ q : Nat, s.heap.size ≤ q → A q) (n : Nat) : ∀ (N0 : xM) (x1 x2 : Int32) (H : Heap) (locs : List Loc) (ls : Array Slot), V_X6_greatestFinish_L5 post n N0 x1 x2 → xI D (wR cI cZ r N0) A s.heap H locs → lv_has ls 4 [(0, .ref (r 0)), (1, .int x1), (2, .int x2)] → W p l e { frames := 0, cells := 0, slots := 0, locals := 0 } s m args below meth c H locs 0 0 (MQ below (va_Qi post (xPost D cI cZ A (wR cI cZ r)) A) args s 0 0 A) (F0 m 5 ls []) := by
  have hx := C.1.1
  have hb := C.1.2.1
  induction n with
  | zero =>
    intro N0 x1 x2 H locs ls h I hl
    exact absurd h id
  | succ n ih5 =>
    intro N0 x1 x2 H locs ls h I hl
    rw [V_X6_greatestFinish_L5] at h
    refine lv_iload_n (pc := 5) hx hb dX6_greatestFinish_5 rfl (lv_at hl 2 rfl) ?_
    refine lv_aload_n (pc := 6) hx hb dX6_greatestFinish_6 rfl (lv_at hl 0 rfl) ?_
    refine x_get (pc := 7) C I wR_0 rfl inlX6 (k := 4) q_9_5 (by decide) rfl rfl dX6_greatestFinish_7 ?_
    refine lv_icmp_ge (pc := 10) (tgt := 54) hx hb dX6_greatestFinish_10 (by decide) (fun g1 => ?_) (fun g1 => ?_)
    · have h := h.1 g1
      refine lv_iload_n (pc := 54) hx hb dX6_greatestFinish_54 rfl (lv_at hl 1 rfl) ?_
      exact x_ireti (pc := 55) C I hr hlocks h dX6_greatestFinish_55
    · have h := h.2 g1
      refine lv_aload_n (pc := 13) hx hb dX6_greatestFinish_13 rfl (lv_at hl 0 rfl) ?_
      refine x_get (pc := 14) C I wR_0 rfl inlX6 (k := 21) q_5_4 (by decide) rfl rfl dX6_greatestFinish_14 ?_
      refine lv_bipush (pc := 17) (v := 24) hx hb dX6_greatestFinish_17 (by decide) ?_
      refine lv_aload_n (pc := 19) hx hb dX6_greatestFinish_19 rfl (lv_at hl 0 rfl) ?_
      refine x_get (pc := 20) C I wR_0 rfl inlX6 (k := 11) q_8_7 (by decide) rfl rfl dX6_greatestFinish_20 ?_
      refine lv_imul (pc := 23) hx hb dX6_greatestFinish_23 ?_
      refine lv_iload_n (pc := 24) hx hb dX6_greatestFinish_24 rfl (lv_at hl 2 rfl) ?_
      refine lv_iadd (pc := 25) hx hb dX6_greatestFinish_25 ?_
      obtain ⟨g2, h⟩ := h
      refine x_ald (pc := 26) C I wR_14 g2 dX6_greatestFinish_26 ?_
      refine lv_topi (fun y3 ey3 => ?_)
      have h := h y3 ey3
      refine lv_istore_n (pc := 27) (lv' := [(3, .int y3), (0, .ref (r 0)), (1, .int x1), (2, .int x2)]) hx hb dX6_greatestFinish_27 rfl hl (by decide) rfl (fun ls hl => ?_)
      refine lv_iload_n (pc := 28) hx hb dX6_greatestFinish_28 rfl (lv_at hl 0 rfl) ?_
      refine lv_bipush (pc := 29) (v := (-6)) hx hb dX6_greatestFinish_29 (by decide) ?_
      refine lv_icmp_ne (pc := 31) (tgt := 37) hx hb dX6_greatestFinish_31 (by decide) (fun g4 => ?_) (fun g4 => ?_)
      · have h := h.2 g4
        refine lv_iload_n (pc := 37) hx hb dX6_greatestFinish_37 rfl (lv_at hl 0 rfl) ?_
        refine lv_iload_n (pc := 38) hx hb dX6_greatestFinish_38 rfl (lv_at hl 2 rfl) ?_
        refine lv_icmp_le (pc := 39) (tgt := 46) hx hb dX6_greatestFinish_39 (by decide) (fun g5 => ?_) (fun g5 => ?_)
        · have h := h.1 g5
          refine lv_iload_n (pc := 46) hx hb dX6_greatestFinish_46 rfl (lv_at hl 2 rfl) ?_
          refine lv_istore_n (pc := 47) (lv' := [(1, .int x1), (3, .int y3), (0, .ref (r 0)), (2, .int x2)]) hx hb dX6_greatestFinish_47 rfl hl (by decide) rfl (fun ls hl => ?_)
          obtain ⟨y6, ey6⟩ : ∃ y : Int32, y = (x2 + 1) := ⟨_, rfl⟩
          have h := h y6 ey6
          refine lv_iinc (pc := 48) (v := y6) (lv' := [(2, .int y6), (1, .int x1), (3, .int y3), (0, .ref (r 0))]) hx hb dX6_greatestFinish_48 hl (k := 3) rfl (by rw [ey6]; rfl) (by decide) rfl (fun ls hl => ?_)
          refine lv_goto (pc := 51) (tgt := 5) hx hb dX6_greatestFinish_51 (by decide) ?_
          exact ih5 N0 x1 y6 _ _ _ h I (lv_sub hl [3, 1, 0] rfl)
        · have h := h.2 g5
          refine lv_iload_n (pc := 42) hx hb dX6_greatestFinish_42 rfl (lv_at hl 0 rfl) ?_
          refine lv_goto (pc := 43) (tgt := 47) hx hb dX6_greatestFinish_43 (by decide) ?_
          refine lv_istore_n (pc := 47) (lv' := [(1, .int y3), (3, .int y3), (0, .ref (r 0)), (2, .int x2)]) hx hb dX6_greatestFinish_47 rfl hl (by decide) rfl (fun ls hl => ?_)
          obtain ⟨y7, ey7⟩ : ∃ y : Int32, y = (x2 + 1) := ⟨_, rfl⟩
          have h := h y7 ey7
          refine lv_iinc (pc := 48) (v := y7) (lv' := [(2, .int y7), (1, .int y3), (3, .int y3), (0, .ref (r 0))]) hx hb dX6_greatestFinish_48 hl (k := 3) rfl (by rw [ey7]; rfl) (by decide) rfl (fun ls hl => ?_)
          refine lv_goto (pc := 51) (tgt := 5) hx hb dX6_greatestFinish_51 (by decide) ?_
          exact ih5 N0 y3 y7 _ _ _ h I (lv_sub hl [3, 1, 0] rfl)
      · have h := h.1 g4
        refine lv_bipush (pc := 34) (v := (-6)) hx hb dX6_greatestFinish_34 (by decide) ?_
        exact x_ireti (pc := 36) C I hr hlocks h dX6_greatestFinish_36
set_option maxHeartbeats 4000000 in
set_option maxRecDepth 100000 in
theorem m_X6_greatestFinish {l : Launch} {D : va_G} {cI cZ : ClassId} {r : Nat → Nat} {N : xM} {post : Int32 → xM → Prop} (h : V_X6_greatestFinish N post) : xMi l yX6_greatestFinish cX6_greatestFinish 4 (some .int) { frames := 0, cells := 0, slots := 0, locals := 0 } D cI cZ (wR cI cZ r) N [.ref (r 0)] post := by
  refine x_bodyi (own := RX6) (by decide) rfl (Nat.le_of_ble_eq_true rfl) ?_
  intro p e s m below meth c A ls C hr hlocks hA I hl
  have hx := C.1.1
  have hb := C.1.2.1
  have hl : lv_has ls 4 [(0, .ref (r 0))] := hl
  unfold V_X6_greatestFinish at h
  refine lv_bipush (pc := 0) (v := (-6)) hx hb dX6_greatestFinish_0 (by decide) ?_
  refine lv_istore_n (pc := 2) (lv' := [(1, .int (-6)), (0, .ref (r 0))]) hx hb dX6_greatestFinish_2 rfl hl (by decide) rfl (fun ls hl => ?_)
  refine lv_iconst (pc := 3) (v := 0) hx hb dX6_greatestFinish_3 (by decide) ?_
  refine lv_istore_n (pc := 4) (lv' := [(2, .int 0), (1, .int (-6)), (0, .ref (r 0))]) hx hb dX6_greatestFinish_4 rfl hl (by decide) rfl (fun ls hl => ?_)
  obtain ⟨n8, h⟩ := h
  exact k_X6_greatestFinish_L5 C hr hlocks hA n8 N (-6) 0 _ _ _ h I (lv_sub hl [2, 1, 0] rfl)
def V_X6_makespan (N : xM) (post : Int32 → xM → Prop) : Prop := (V_X6_greatestFinish N  (fun r2 N1 => post r2 N1))
set_option maxHeartbeats 4000000 in
set_option maxRecDepth 100000 in
theorem m_X6_makespan {l : Launch} {D : va_G} {cI cZ : ClassId} {r : Nat → Nat} {N : xM} {post : Int32 → xM → Prop} (h : V_X6_makespan N post) : xMi l yX6_makespan cX6_makespan 1 (some .int) { frames := 1, cells := 0, slots := 0, locals := 23 } D cI cZ (wR cI cZ r) N [.ref (r 0)] post := by
  refine x_bodyi (own := RX6) (by decide) rfl (Nat.le_of_ble_eq_true rfl) ?_
  intro p e s m below meth c A ls C hr hlocks hA I hl
  have hx := C.1.1
  have hb := C.1.2.1
  have hl : lv_has ls 1 [(0, .ref (r 0))] := hl
  unfold V_X6_makespan at h
  refine lv_aload_n (pc := 0) hx hb dX6_makespan_0 rfl (lv_at hl 0 rfl) ?_
  refine x_calli (pc := 1) C I hA (m_X6_greatestFinish h) c_RX6_184 wR_0 rfl ⟨Nat.le_of_ble_eq_true rfl, Nat.le_of_ble_eq_true rfl⟩ ⟨rfl, rfl⟩ ⟨Nat.le_of_ble_eq_true rfl, Nat.le_of_ble_eq_true rfl⟩ (As := []) rfl hl.1 rfl (Nat.le_of_ble_eq_true rfl) dX6_makespan_1 (fun r2 N1 H locs h I => ?_)
  exact x_ireti (pc := 4) C I hr hlocks h dX6_makespan_4
def V_X6_attemptCount (N : xM) (post : Int32 → xM → Prop) : Prop := (vp_in 0 2 ∧ post (N 5 (0 : Int32).toNatClampNeg) N)
set_option maxHeartbeats 4000000 in
set_option maxRecDepth 100000 in
theorem m_X6_attemptCount {l : Launch} {D : va_G} {cI cZ : ClassId} {r : Nat → Nat} {N : xM} {post : Int32 → xM → Prop} (h : V_X6_attemptCount N post) : xMi l yX6_attemptCount cX6_attemptCount 1 (some .int) { frames := 0, cells := 0, slots := 0, locals := 0 } D cI cZ (wR cI cZ r) N [.ref (r 0)] post := by
  refine x_bodyi (own := RX6) (by decide) rfl (Nat.le_of_ble_eq_true rfl) ?_
  intro p e s m below meth c A ls C hr hlocks hA I hl
  have hx := C.1.1
  have hb := C.1.2.1
  have hl : lv_has ls 1 [(0, .ref (r 0))] := hl
  unfold V_X6_attemptCount at h
  refine lv_aload_n (pc := 0) hx hb dX6_attemptCount_0 rfl (lv_at hl 0 rfl) ?_
  refine x_get (pc := 1) C I wR_0 rfl inlX6 (k := 12) q_4_19 (by decide) rfl rfl dX6_attemptCount_1 ?_
  refine lv_iconst (pc := 4) (v := 0) hx hb dX6_attemptCount_4 (by decide) ?_
  obtain ⟨g1, h⟩ := h
  refine x_ald (pc := 5) C I wR_5 g1 dX6_attemptCount_5 ?_
  exact x_ireti (pc := 6) C I hr hlocks h dX6_attemptCount_6
def V_X6_attemptTask (N : xM) (x1 : Int32) (post : Int32 → xM → Prop) : Prop := (V_X6_isAttempt N x1 (fun r2 N1 => ((r2 = 0 → post (-3) N1) ∧ (¬ r2 = 0 → (vp_in x1 400 ∧ post (N1 7 (x1).toNatClampNeg) N1)))))
set_option maxHeartbeats 4000000 in
set_option maxRecDepth 100000 in
theorem m_X6_attemptTask {l : Launch} {D : va_G} {cI cZ : ClassId} {r : Nat → Nat} {N : xM} {x1 : Int32} {post : Int32 → xM → Prop} (h : V_X6_attemptTask N x1 post) : xMi l yX6_attemptTask cX6_attemptTask 2 (some .int) { frames := 2, cells := 0, slots := 0, locals := 43 } D cI cZ (wR cI cZ r) N [.ref (r 0), .int x1] post := by
  refine x_bodyi (own := RX6) (by decide) rfl (Nat.le_of_ble_eq_true rfl) ?_
  intro p e s m below meth c A ls C hr hlocks hA I hl
  have hx := C.1.1
  have hb := C.1.2.1
  have hl : lv_has ls 2 [(0, .ref (r 0)), (1, .int x1)] := hl
  unfold V_X6_attemptTask at h
  refine lv_aload_n (pc := 0) hx hb dX6_attemptTask_0 rfl (lv_at hl 0 rfl) ?_
  refine lv_iload_n (pc := 1) hx hb dX6_attemptTask_1 rfl (lv_at hl 1 rfl) ?_
  refine x_calli (pc := 2) C I hA (m_X6_isAttempt h) c_RX6_187 wR_0 rfl ⟨Nat.le_of_ble_eq_true rfl, Nat.le_of_ble_eq_true rfl⟩ ⟨rfl, rfl⟩ ⟨Nat.le_of_ble_eq_true rfl, Nat.le_of_ble_eq_true rfl⟩ (As := [.int x1]) rfl hl.1 rfl (Nat.le_of_ble_eq_true rfl) dX6_attemptTask_2 (fun r2 N1 H locs h I => ?_)
  refine lv_if_eq (pc := 5) (tgt := 17) hx hb dX6_attemptTask_5 (by decide) (fun g3 => ?_) (fun g3 => ?_)
  · have h := h.1 g3
    refine lv_bipush (pc := 17) (v := (-3)) hx hb dX6_attemptTask_17 (by decide) ?_
    exact x_ireti (pc := 19) C I hr hlocks h dX6_attemptTask_19
  · have h := h.2 g3
    refine lv_aload_n (pc := 8) hx hb dX6_attemptTask_8 rfl (lv_at hl 0 rfl) ?_
    refine x_get (pc := 9) C I wR_0 rfl inlX6 (k := 14) q_4_21 (by decide) rfl rfl dX6_attemptTask_9 ?_
    refine lv_iload_n (pc := 12) hx hb dX6_attemptTask_12 rfl (lv_at hl 1 rfl) ?_
    obtain ⟨g4, h⟩ := h
    refine x_ald (pc := 13) C I wR_7 g4 dX6_attemptTask_13 ?_
    refine lv_goto (pc := 14) (tgt := 19) hx hb dX6_attemptTask_14 (by decide) ?_
    exact x_ireti (pc := 19) C I hr hlocks h dX6_attemptTask_19
def V_X6_attemptNode (N : xM) (x1 : Int32) (post : Int32 → xM → Prop) : Prop := (V_X6_isAttempt N x1 (fun r2 N1 => ((r2 = 0 → post (-3) N1) ∧ (¬ r2 = 0 → (vp_in x1 400 ∧ post (N1 8 (x1).toNatClampNeg) N1)))))
set_option maxHeartbeats 4000000 in
set_option maxRecDepth 100000 in
theorem m_X6_attemptNode {l : Launch} {D : va_G} {cI cZ : ClassId} {r : Nat → Nat} {N : xM} {x1 : Int32} {post : Int32 → xM → Prop} (h : V_X6_attemptNode N x1 post) : xMi l yX6_attemptNode cX6_attemptNode 2 (some .int) { frames := 2, cells := 0, slots := 0, locals := 43 } D cI cZ (wR cI cZ r) N [.ref (r 0), .int x1] post := by
  refine x_bodyi (own := RX6) (by decide) rfl (Nat.le_of_ble_eq_true rfl) ?_
  intro p e s m below meth c A ls C hr hlocks hA I hl
  have hx := C.1.1
  have hb := C.1.2.1
  have hl : lv_has ls 2 [(0, .ref (r 0)), (1, .int x1)] := hl
  unfold V_X6_attemptNode at h
  refine lv_aload_n (pc := 0) hx hb dX6_attemptNode_0 rfl (lv_at hl 0 rfl) ?_
  refine lv_iload_n (pc := 1) hx hb dX6_attemptNode_1 rfl (lv_at hl 1 rfl) ?_
  refine x_calli (pc := 2) C I hA (m_X6_isAttempt h) c_RX6_187 wR_0 rfl ⟨Nat.le_of_ble_eq_true rfl, Nat.le_of_ble_eq_true rfl⟩ ⟨rfl, rfl⟩ ⟨Nat.le_of_ble_eq_true rfl, Nat.le_of_ble_eq_true rfl⟩ (As := [.int x1]) rfl hl.1 rfl (Nat.le_of_ble_eq_true rfl) dX6_attemptNode_2 (fun r2 N1 H locs h I => ?_)
  refine lv_if_eq (pc := 5) (tgt := 17) hx hb dX6_attemptNode_5 (by decide) (fun g3 => ?_) (fun g3 => ?_)
  · have h := h.1 g3
    refine lv_bipush (pc := 17) (v := (-3)) hx hb dX6_attemptNode_17 (by decide) ?_
    exact x_ireti (pc := 19) C I hr hlocks h dX6_attemptNode_19
  · have h := h.2 g3
    refine lv_aload_n (pc := 8) hx hb dX6_attemptNode_8 rfl (lv_at hl 0 rfl) ?_
    refine x_get (pc := 9) C I wR_0 rfl inlX6 (k := 15) q_4_22 (by decide) rfl rfl dX6_attemptNode_9 ?_
    refine lv_iload_n (pc := 12) hx hb dX6_attemptNode_12 rfl (lv_at hl 1 rfl) ?_
    obtain ⟨g4, h⟩ := h
    refine x_ald (pc := 13) C I wR_8 g4 dX6_attemptNode_13 ?_
    refine lv_goto (pc := 14) (tgt := 19) hx hb dX6_attemptNode_14 (by decide) ?_
    exact x_ireti (pc := 19) C I hr hlocks h dX6_attemptNode_19
def V_X6_attemptState (N : xM) (x1 : Int32) (post : Int32 → xM → Prop) : Prop := (V_X6_isAttempt N x1 (fun r2 N1 => ((r2 = 0 → post (-3) N1) ∧ (¬ r2 = 0 → (vp_in x1 400 ∧ post (N1 11 (x1).toNatClampNeg) N1)))))
set_option maxHeartbeats 4000000 in
set_option maxRecDepth 100000 in
theorem m_X6_attemptState {l : Launch} {D : va_G} {cI cZ : ClassId} {r : Nat → Nat} {N : xM} {x1 : Int32} {post : Int32 → xM → Prop} (h : V_X6_attemptState N x1 post) : xMi l yX6_attemptState cX6_attemptState 2 (some .int) { frames := 2, cells := 0, slots := 0, locals := 43 } D cI cZ (wR cI cZ r) N [.ref (r 0), .int x1] post := by
  refine x_bodyi (own := RX6) (by decide) rfl (Nat.le_of_ble_eq_true rfl) ?_
  intro p e s m below meth c A ls C hr hlocks hA I hl
  have hx := C.1.1
  have hb := C.1.2.1
  have hl : lv_has ls 2 [(0, .ref (r 0)), (1, .int x1)] := hl
  unfold V_X6_attemptState at h
  refine lv_aload_n (pc := 0) hx hb dX6_attemptState_0 rfl (lv_at hl 0 rfl) ?_
  refine lv_iload_n (pc := 1) hx hb dX6_attemptState_1 rfl (lv_at hl 1 rfl) ?_
  refine x_calli (pc := 2) C I hA (m_X6_isAttempt h) c_RX6_187 wR_0 rfl ⟨Nat.le_of_ble_eq_true rfl, Nat.le_of_ble_eq_true rfl⟩ ⟨rfl, rfl⟩ ⟨Nat.le_of_ble_eq_true rfl, Nat.le_of_ble_eq_true rfl⟩ (As := [.int x1]) rfl hl.1 rfl (Nat.le_of_ble_eq_true rfl) dX6_attemptState_2 (fun r2 N1 H locs h I => ?_)
  refine lv_if_eq (pc := 5) (tgt := 17) hx hb dX6_attemptState_5 (by decide) (fun g3 => ?_) (fun g3 => ?_)
  · have h := h.1 g3
    refine lv_bipush (pc := 17) (v := (-3)) hx hb dX6_attemptState_17 (by decide) ?_
    exact x_ireti (pc := 19) C I hr hlocks h dX6_attemptState_19
  · have h := h.2 g3
    refine lv_aload_n (pc := 8) hx hb dX6_attemptState_8 rfl (lv_at hl 0 rfl) ?_
    refine x_get (pc := 9) C I wR_0 rfl inlX6 (k := 18) q_5_1 (by decide) rfl rfl dX6_attemptState_9 ?_
    refine lv_iload_n (pc := 12) hx hb dX6_attemptState_12 rfl (lv_at hl 1 rfl) ?_
    obtain ⟨g4, h⟩ := h
    refine x_ald (pc := 13) C I wR_11 g4 dX6_attemptState_13 ?_
    refine lv_goto (pc := 14) (tgt := 19) hx hb dX6_attemptState_14 (by decide) ?_
    exact x_ireti (pc := 19) C I hr hlocks h dX6_attemptState_19
def V_X6_isSpeculative (N : xM) (x1 : Int32) (post : Int32 → xM → Prop) : Prop := (V_X6_isAttempt N x1 (fun r2 N1 => ((r2 = 0 → post (-3) N1) ∧ (¬ r2 = 0 → (vp_in x1 400 ∧ (((N1 12 (x1).toNatClampNeg) = 0 → post 0 N1) ∧ (¬ (N1 12 (x1).toNatClampNeg) = 0 → post 1 N1)))))))
set_option maxHeartbeats 4000000 in
set_option maxRecDepth 100000 in
theorem m_X6_isSpeculative {l : Launch} {D : va_G} {cI cZ : ClassId} {r : Nat → Nat} {N : xM} {x1 : Int32} {post : Int32 → xM → Prop} (h : V_X6_isSpeculative N x1 post) : xMi l yX6_isSpeculative cX6_isSpeculative 2 (some .int) { frames := 2, cells := 0, slots := 0, locals := 43 } D cI cZ (wR cI cZ r) N [.ref (r 0), .int x1] post := by
  refine x_bodyi (own := RX6) (by decide) rfl (Nat.le_of_ble_eq_true rfl) ?_
  intro p e s m below meth c A ls C hr hlocks hA I hl
  have hx := C.1.1
  have hb := C.1.2.1
  have hl : lv_has ls 2 [(0, .ref (r 0)), (1, .int x1)] := hl
  unfold V_X6_isSpeculative at h
  refine lv_aload_n (pc := 0) hx hb dX6_isSpeculative_0 rfl (lv_at hl 0 rfl) ?_
  refine lv_iload_n (pc := 1) hx hb dX6_isSpeculative_1 rfl (lv_at hl 1 rfl) ?_
  refine x_calli (pc := 2) C I hA (m_X6_isAttempt h) c_RX6_187 wR_0 rfl ⟨Nat.le_of_ble_eq_true rfl, Nat.le_of_ble_eq_true rfl⟩ ⟨rfl, rfl⟩ ⟨Nat.le_of_ble_eq_true rfl, Nat.le_of_ble_eq_true rfl⟩ (As := [.int x1]) rfl hl.1 rfl (Nat.le_of_ble_eq_true rfl) dX6_isSpeculative_2 (fun r2 N1 H locs h I => ?_)
  refine lv_if_ne (pc := 5) (tgt := 13) hx hb dX6_isSpeculative_5 (by decide) (fun g3 => ?_) (fun g3 => ?_)
  · have h := h.2 g3
    refine lv_aload_n (pc := 13) hx hb dX6_isSpeculative_13 rfl (lv_at hl 0 rfl) ?_
    refine x_get (pc := 14) C I wR_0 rfl inlX6 (k := 19) q_5_2 (by decide) rfl rfl dX6_isSpeculative_14 ?_
    refine lv_iload_n (pc := 17) hx hb dX6_isSpeculative_17 rfl (lv_at hl 1 rfl) ?_
    obtain ⟨g4, h⟩ := h
    refine x_zld (pc := 18) C I wR_12 g4 dX6_isSpeculative_18 ?_
    refine lv_if_eq (pc := 19) (tgt := 26) hx hb dX6_isSpeculative_19 (by decide) (fun g5 => ?_) (fun g5 => ?_)
    · have h := h.1 g5
      refine lv_iconst (pc := 26) (v := 0) hx hb dX6_isSpeculative_26 (by decide) ?_
      exact x_ireti (pc := 27) C I hr hlocks h dX6_isSpeculative_27
    · have h := h.2 g5
      refine lv_iconst (pc := 22) (v := 1) hx hb dX6_isSpeculative_22 (by decide) ?_
      refine lv_goto (pc := 23) (tgt := 27) hx hb dX6_isSpeculative_23 (by decide) ?_
      exact x_ireti (pc := 27) C I hr hlocks h dX6_isSpeculative_27
  · have h := h.1 g3
    refine lv_bipush (pc := 8) (v := (-3)) hx hb dX6_isSpeculative_8 (by decide) ?_
    refine lv_goto (pc := 10) (tgt := 27) hx hb dX6_isSpeculative_10 (by decide) ?_
    exact x_ireti (pc := 27) C I hr hlocks h dX6_isSpeculative_27
def V_X6_progress (N : xM) (x1 : Int32) (post : Int32 → xM → Prop) : Prop := (V_X6_isAttempt N x1 (fun r2 N1 => ((r2 = 0 → post (-3) N1) ∧ (¬ r2 = 0 → (V_X6_progressOf N1 x1 (fun r5 N4 => post r5 N4))))))
set_option maxHeartbeats 4000000 in
set_option maxRecDepth 100000 in
theorem m_X6_progress {l : Launch} {D : va_G} {cI cZ : ClassId} {r : Nat → Nat} {N : xM} {x1 : Int32} {post : Int32 → xM → Prop} (h : V_X6_progress N x1 post) : xMi l yX6_progress cX6_progress 2 (some .int) { frames := 2, cells := 0, slots := 0, locals := 43 } D cI cZ (wR cI cZ r) N [.ref (r 0), .int x1] post := by
  refine x_bodyi (own := RX6) (by decide) rfl (Nat.le_of_ble_eq_true rfl) ?_
  intro p e s m below meth c A ls C hr hlocks hA I hl
  have hx := C.1.1
  have hb := C.1.2.1
  have hl : lv_has ls 2 [(0, .ref (r 0)), (1, .int x1)] := hl
  unfold V_X6_progress at h
  refine lv_aload_n (pc := 0) hx hb dX6_progress_0 rfl (lv_at hl 0 rfl) ?_
  refine lv_iload_n (pc := 1) hx hb dX6_progress_1 rfl (lv_at hl 1 rfl) ?_
  refine x_calli (pc := 2) C I hA (m_X6_isAttempt h) c_RX6_187 wR_0 rfl ⟨Nat.le_of_ble_eq_true rfl, Nat.le_of_ble_eq_true rfl⟩ ⟨rfl, rfl⟩ ⟨Nat.le_of_ble_eq_true rfl, Nat.le_of_ble_eq_true rfl⟩ (As := [.int x1]) rfl hl.1 rfl (Nat.le_of_ble_eq_true rfl) dX6_progress_2 (fun r2 N1 H locs h I => ?_)
  refine lv_if_eq (pc := 5) (tgt := 16) hx hb dX6_progress_5 (by decide) (fun g3 => ?_) (fun g3 => ?_)
  · have h := h.1 g3
    refine lv_bipush (pc := 16) (v := (-3)) hx hb dX6_progress_16 (by decide) ?_
    exact x_ireti (pc := 18) C I hr hlocks h dX6_progress_18
  · have h := h.2 g3
    refine lv_aload_n (pc := 8) hx hb dX6_progress_8 rfl (lv_at hl 0 rfl) ?_
    refine lv_iload_n (pc := 9) hx hb dX6_progress_9 rfl (lv_at hl 1 rfl) ?_
    refine x_calli (pc := 10) C I hA (m_X6_progressOf h) c_RX6_102 wR_0 rfl ⟨Nat.le_of_ble_eq_true rfl, Nat.le_of_ble_eq_true rfl⟩ ⟨rfl, rfl⟩ ⟨Nat.le_of_ble_eq_true rfl, Nat.le_of_ble_eq_true rfl⟩ (As := [.int x1]) rfl hl.1 rfl (Nat.le_of_ble_eq_true rfl) dX6_progress_10 (fun r5 N4 H locs h I => ?_)
    refine lv_goto (pc := 13) (tgt := 18) hx hb dX6_progress_13 (by decide) ?_
    exact x_ireti (pc := 18) C I hr hlocks h dX6_progress_18
def V_X6_remainingTime (N : xM) (x1 : Int32) (post : Int32 → xM → Prop) : Prop := (V_X6_isAttempt N x1 (fun r2 N1 => ((r2 = 0 → post (-3) N1) ∧ (¬ r2 = 0 → (vp_in x1 400 ∧ (((N1 11 (x1).toNatClampNeg) = 1 → (V_X6_remainingOf N1 x1 (fun r7 N6 => post r7 N6))) ∧ (¬ (N1 11 (x1).toNatClampNeg) = 1 → post (-6) N1)))))))
set_option maxHeartbeats 4000000 in
set_option maxRecDepth 100000 in
theorem m_X6_remainingTime {l : Launch} {D : va_G} {cI cZ : ClassId} {r : Nat → Nat} {N : xM} {x1 : Int32} {post : Int32 → xM → Prop} (h : V_X6_remainingTime N x1 post) : xMi l yX6_remainingTime cX6_remainingTime 2 (some .int) { frames := 2, cells := 0, slots := 0, locals := 44 } D cI cZ (wR cI cZ r) N [.ref (r 0), .int x1] post := by
  refine x_bodyi (own := RX6) (by decide) rfl (Nat.le_of_ble_eq_true rfl) ?_
  intro p e s m below meth c A ls C hr hlocks hA I hl
  have hx := C.1.1
  have hb := C.1.2.1
  have hl : lv_has ls 2 [(0, .ref (r 0)), (1, .int x1)] := hl
  unfold V_X6_remainingTime at h
  refine lv_aload_n (pc := 0) hx hb dX6_remainingTime_0 rfl (lv_at hl 0 rfl) ?_
  refine lv_iload_n (pc := 1) hx hb dX6_remainingTime_1 rfl (lv_at hl 1 rfl) ?_
  refine x_calli (pc := 2) C I hA (m_X6_isAttempt h) c_RX6_187 wR_0 rfl ⟨Nat.le_of_ble_eq_true rfl, Nat.le_of_ble_eq_true rfl⟩ ⟨rfl, rfl⟩ ⟨Nat.le_of_ble_eq_true rfl, Nat.le_of_ble_eq_true rfl⟩ (As := [.int x1]) rfl hl.1 rfl (Nat.le_of_ble_eq_true rfl) dX6_remainingTime_2 (fun r2 N1 H locs h I => ?_)
  refine lv_if_ne (pc := 5) (tgt := 11) hx hb dX6_remainingTime_5 (by decide) (fun g3 => ?_) (fun g3 => ?_)
  · have h := h.2 g3
    refine lv_aload_n (pc := 11) hx hb dX6_remainingTime_11 rfl (lv_at hl 0 rfl) ?_
    refine x_get (pc := 12) C I wR_0 rfl inlX6 (k := 18) q_5_1 (by decide) rfl rfl dX6_remainingTime_12 ?_
    refine lv_iload_n (pc := 15) hx hb dX6_remainingTime_15 rfl (lv_at hl 1 rfl) ?_
    obtain ⟨g4, h⟩ := h
    refine x_ald (pc := 16) C I wR_11 g4 dX6_remainingTime_16 ?_
    refine lv_iconst (pc := 17) (v := 1) hx hb dX6_remainingTime_17 (by decide) ?_
    refine lv_icmp_ne (pc := 18) (tgt := 29) hx hb dX6_remainingTime_18 (by decide) (fun g5 => ?_) (fun g5 => ?_)
    · have h := h.2 g5
      refine lv_bipush (pc := 29) (v := (-6)) hx hb dX6_remainingTime_29 (by decide) ?_
      exact x_ireti (pc := 31) C I hr hlocks h dX6_remainingTime_31
    · have h := h.1 g5
      refine lv_aload_n (pc := 21) hx hb dX6_remainingTime_21 rfl (lv_at hl 0 rfl) ?_
      refine lv_iload_n (pc := 22) hx hb dX6_remainingTime_22 rfl (lv_at hl 1 rfl) ?_
      refine x_calli (pc := 23) C I hA (m_X6_remainingOf h) c_RX6_134 wR_0 rfl ⟨Nat.le_of_ble_eq_true rfl, Nat.le_of_ble_eq_true rfl⟩ ⟨rfl, rfl⟩ ⟨Nat.le_of_ble_eq_true rfl, Nat.le_of_ble_eq_true rfl⟩ (As := [.int x1]) rfl hl.1 rfl (Nat.le_of_ble_eq_true rfl) dX6_remainingTime_23 (fun r7 N6 H locs h I => ?_)
      refine lv_goto (pc := 26) (tgt := 31) hx hb dX6_remainingTime_26 (by decide) ?_
      exact x_ireti (pc := 31) C I hr hlocks h dX6_remainingTime_31
  · have h := h.1 g3
    refine lv_bipush (pc := 8) (v := (-3)) hx hb dX6_remainingTime_8 (by decide) ?_
    exact x_ireti (pc := 10) C I hr hlocks h dX6_remainingTime_10
def V_X6_nodeScore (N : xM) (x1 : Int32) (post : Int32 → xM → Prop) : Prop := (V_X6_isNode N x1 (fun r2 N1 => ((r2 = 0 → post (-1) N1) ∧ (¬ r2 = 0 → (V_X6_scoreOf N1 x1 (fun r5 N4 => post r5 N4))))))
set_option maxHeartbeats 4000000 in
set_option maxRecDepth 100000 in
theorem m_X6_nodeScore {l : Launch} {D : va_G} {cI cZ : ClassId} {r : Nat → Nat} {N : xM} {x1 : Int32} {post : Int32 → xM → Prop} (h : V_X6_nodeScore N x1 post) : xMi l yX6_nodeScore cX6_nodeScore 2 (some .int) { frames := 2, cells := 0, slots := 0, locals := 43 } D cI cZ (wR cI cZ r) N [.ref (r 0), .int x1] post := by
  refine x_bodyi (own := RX6) (by decide) rfl (Nat.le_of_ble_eq_true rfl) ?_
  intro p e s m below meth c A ls C hr hlocks hA I hl
  have hx := C.1.1
  have hb := C.1.2.1
  have hl : lv_has ls 2 [(0, .ref (r 0)), (1, .int x1)] := hl
  unfold V_X6_nodeScore at h
  refine lv_aload_n (pc := 0) hx hb dX6_nodeScore_0 rfl (lv_at hl 0 rfl) ?_
  refine lv_iload_n (pc := 1) hx hb dX6_nodeScore_1 rfl (lv_at hl 1 rfl) ?_
  refine x_calli (pc := 2) C I hA (m_X6_isNode h) c_RX6_94 wR_0 rfl ⟨Nat.le_of_ble_eq_true rfl, Nat.le_of_ble_eq_true rfl⟩ ⟨rfl, rfl⟩ ⟨Nat.le_of_ble_eq_true rfl, Nat.le_of_ble_eq_true rfl⟩ (As := [.int x1]) rfl hl.1 rfl (Nat.le_of_ble_eq_true rfl) dX6_nodeScore_2 (fun r2 N1 H locs h I => ?_)
  refine lv_if_eq (pc := 5) (tgt := 16) hx hb dX6_nodeScore_5 (by decide) (fun g3 => ?_) (fun g3 => ?_)
  · have h := h.1 g3
    refine lv_iconst (pc := 16) (v := (-1)) hx hb dX6_nodeScore_16 (by decide) ?_
    exact x_ireti (pc := 17) C I hr hlocks h dX6_nodeScore_17
  · have h := h.2 g3
    refine lv_aload_n (pc := 8) hx hb dX6_nodeScore_8 rfl (lv_at hl 0 rfl) ?_
    refine lv_iload_n (pc := 9) hx hb dX6_nodeScore_9 rfl (lv_at hl 1 rfl) ?_
    refine x_calli (pc := 10) C I hA (m_X6_scoreOf h) c_RX6_119 wR_0 rfl ⟨Nat.le_of_ble_eq_true rfl, Nat.le_of_ble_eq_true rfl⟩ ⟨rfl, rfl⟩ ⟨Nat.le_of_ble_eq_true rfl, Nat.le_of_ble_eq_true rfl⟩ (As := [.int x1]) rfl hl.1 rfl (Nat.le_of_ble_eq_true rfl) dX6_nodeScore_10 (fun r5 N4 H locs h I => ?_)
    refine lv_goto (pc := 13) (tgt := 17) hx hb dX6_nodeScore_13 (by decide) ?_
    exact x_ireti (pc := 17) C I hr hlocks h dX6_nodeScore_17
def V_X6_isSlowNode (N : xM) (x1 : Int32) (post : Int32 → xM → Prop) : Prop := (V_X6_isNode N x1 (fun r2 N1 => ((r2 = 0 → post (-1) N1) ∧ (¬ r2 = 0 → (V_X6_isSlow N1 x1 (fun r5 N4 => ((r5 = 0 → post 0 N4) ∧ (¬ r5 = 0 → post 1 N4))))))))
set_option maxHeartbeats 4000000 in
set_option maxRecDepth 100000 in
theorem m_X6_isSlowNode {l : Launch} {D : va_G} {cI cZ : ClassId} {r : Nat → Nat} {N : xM} {x1 : Int32} {post : Int32 → xM → Prop} (h : V_X6_isSlowNode N x1 post) : xMi l yX6_isSlowNode cX6_isSlowNode 2 (some .int) { frames := 3, cells := 0, slots := 0, locals := 66 } D cI cZ (wR cI cZ r) N [.ref (r 0), .int x1] post := by
  refine x_bodyi (own := RX6) (by decide) rfl (Nat.le_of_ble_eq_true rfl) ?_
  intro p e s m below meth c A ls C hr hlocks hA I hl
  have hx := C.1.1
  have hb := C.1.2.1
  have hl : lv_has ls 2 [(0, .ref (r 0)), (1, .int x1)] := hl
  unfold V_X6_isSlowNode at h
  refine lv_aload_n (pc := 0) hx hb dX6_isSlowNode_0 rfl (lv_at hl 0 rfl) ?_
  refine lv_iload_n (pc := 1) hx hb dX6_isSlowNode_1 rfl (lv_at hl 1 rfl) ?_
  refine x_calli (pc := 2) C I hA (m_X6_isNode h) c_RX6_94 wR_0 rfl ⟨Nat.le_of_ble_eq_true rfl, Nat.le_of_ble_eq_true rfl⟩ ⟨rfl, rfl⟩ ⟨Nat.le_of_ble_eq_true rfl, Nat.le_of_ble_eq_true rfl⟩ (As := [.int x1]) rfl hl.1 rfl (Nat.le_of_ble_eq_true rfl) dX6_isSlowNode_2 (fun r2 N1 H locs h I => ?_)
  refine lv_if_ne (pc := 5) (tgt := 12) hx hb dX6_isSlowNode_5 (by decide) (fun g3 => ?_) (fun g3 => ?_)
  · have h := h.2 g3
    refine lv_aload_n (pc := 12) hx hb dX6_isSlowNode_12 rfl (lv_at hl 0 rfl) ?_
    refine lv_iload_n (pc := 13) hx hb dX6_isSlowNode_13 rfl (lv_at hl 1 rfl) ?_
    refine x_calli (pc := 14) C I hA (m_X6_isSlow h) c_RX6_155 wR_0 rfl ⟨Nat.le_of_ble_eq_true rfl, Nat.le_of_ble_eq_true rfl⟩ ⟨rfl, rfl⟩ ⟨Nat.le_of_ble_eq_true rfl, Nat.le_of_ble_eq_true rfl⟩ (As := [.int x1]) rfl hl.1 rfl (Nat.le_of_ble_eq_true rfl) dX6_isSlowNode_14 (fun r5 N4 H locs h I => ?_)
    refine lv_if_eq (pc := 17) (tgt := 24) hx hb dX6_isSlowNode_17 (by decide) (fun g6 => ?_) (fun g6 => ?_)
    · have h := h.1 g6
      refine lv_iconst (pc := 24) (v := 0) hx hb dX6_isSlowNode_24 (by decide) ?_
      exact x_ireti (pc := 25) C I hr hlocks h dX6_isSlowNode_25
    · have h := h.2 g6
      refine lv_iconst (pc := 20) (v := 1) hx hb dX6_isSlowNode_20 (by decide) ?_
      refine lv_goto (pc := 21) (tgt := 25) hx hb dX6_isSlowNode_21 (by decide) ?_
      exact x_ireti (pc := 25) C I hr hlocks h dX6_isSlowNode_25
  · have h := h.1 g3
    refine lv_iconst (pc := 8) (v := (-1)) hx hb dX6_isSlowNode_8 (by decide) ?_
    refine lv_goto (pc := 9) (tgt := 25) hx hb dX6_isSlowNode_9 (by decide) ?_
    exact x_ireti (pc := 25) C I hr hlocks h dX6_isSlowNode_25
def V_X6_runningOn (N : xM) (x1 : Int32) (post : Int32 → xM → Prop) : Prop := (V_X6_isNode N x1 (fun r2 N1 => ((r2 = 0 → post (-1) N1) ∧ (¬ r2 = 0 → (vp_in x1 16 ∧ post (N1 16 (x1).toNatClampNeg) N1)))))
set_option maxHeartbeats 4000000 in
set_option maxRecDepth 100000 in
theorem m_X6_runningOn {l : Launch} {D : va_G} {cI cZ : ClassId} {r : Nat → Nat} {N : xM} {x1 : Int32} {post : Int32 → xM → Prop} (h : V_X6_runningOn N x1 post) : xMi l yX6_runningOn cX6_runningOn 2 (some .int) { frames := 2, cells := 0, slots := 0, locals := 43 } D cI cZ (wR cI cZ r) N [.ref (r 0), .int x1] post := by
  refine x_bodyi (own := RX6) (by decide) rfl (Nat.le_of_ble_eq_true rfl) ?_
  intro p e s m below meth c A ls C hr hlocks hA I hl
  have hx := C.1.1
  have hb := C.1.2.1
  have hl : lv_has ls 2 [(0, .ref (r 0)), (1, .int x1)] := hl
  unfold V_X6_runningOn at h
  refine lv_aload_n (pc := 0) hx hb dX6_runningOn_0 rfl (lv_at hl 0 rfl) ?_
  refine lv_iload_n (pc := 1) hx hb dX6_runningOn_1 rfl (lv_at hl 1 rfl) ?_
  refine x_calli (pc := 2) C I hA (m_X6_isNode h) c_RX6_94 wR_0 rfl ⟨Nat.le_of_ble_eq_true rfl, Nat.le_of_ble_eq_true rfl⟩ ⟨rfl, rfl⟩ ⟨Nat.le_of_ble_eq_true rfl, Nat.le_of_ble_eq_true rfl⟩ (As := [.int x1]) rfl hl.1 rfl (Nat.le_of_ble_eq_true rfl) dX6_runningOn_2 (fun r2 N1 H locs h I => ?_)
  refine lv_if_eq (pc := 5) (tgt := 17) hx hb dX6_runningOn_5 (by decide) (fun g3 => ?_) (fun g3 => ?_)
  · have h := h.1 g3
    refine lv_iconst (pc := 17) (v := (-1)) hx hb dX6_runningOn_17 (by decide) ?_
    exact x_ireti (pc := 18) C I hr hlocks h dX6_runningOn_18
  · have h := h.2 g3
    refine lv_aload_n (pc := 8) hx hb dX6_runningOn_8 rfl (lv_at hl 0 rfl) ?_
    refine x_get (pc := 9) C I wR_0 rfl inlX6 (k := 23) q_5_6 (by decide) rfl rfl dX6_runningOn_9 ?_
    refine lv_iload_n (pc := 12) hx hb dX6_runningOn_12 rfl (lv_at hl 1 rfl) ?_
    obtain ⟨g4, h⟩ := h
    refine x_ald (pc := 13) C I wR_16 g4 dX6_runningOn_13 ?_
    refine lv_goto (pc := 14) (tgt := 18) hx hb dX6_runningOn_14 (by decide) ?_
    exact x_ireti (pc := 18) C I hr hlocks h dX6_runningOn_18
def V_X6_straggler (N : xM) (post : Int32 → xM → Prop) : Prop := (V_X6_stragglerBy N (N 0 6) (fun r2 N1 => post r2 N1))
set_option maxHeartbeats 4000000 in
set_option maxRecDepth 100000 in
theorem m_X6_straggler {l : Launch} {D : va_G} {cI cZ : ClassId} {r : Nat → Nat} {N : xM} {post : Int32 → xM → Prop} (h : V_X6_straggler N post) : xMi l yX6_straggler cX6_straggler 1 (some .int) { frames := 5, cells := 0, slots := 0, locals := 111 } D cI cZ (wR cI cZ r) N [.ref (r 0)] post := by
  refine x_bodyi (own := RX6) (by decide) rfl (Nat.le_of_ble_eq_true rfl) ?_
  intro p e s m below meth c A ls C hr hlocks hA I hl
  have hx := C.1.1
  have hb := C.1.2.1
  have hl : lv_has ls 1 [(0, .ref (r 0))] := hl
  unfold V_X6_straggler at h
  refine lv_aload_n (pc := 0) hx hb dX6_straggler_0 rfl (lv_at hl 0 rfl) ?_
  refine lv_aload_n (pc := 1) hx hb dX6_straggler_1 rfl (lv_at hl 0 rfl) ?_
  refine x_get (pc := 2) C I wR_0 rfl inlX6 (k := 6) q_5_9 (by decide) rfl rfl dX6_straggler_2 ?_
  refine x_calli (pc := 5) C I hA (m_X6_stragglerBy h) c_RX6_149 wR_0 rfl ⟨Nat.le_of_ble_eq_true rfl, Nat.le_of_ble_eq_true rfl⟩ ⟨rfl, rfl⟩ ⟨Nat.le_of_ble_eq_true rfl, Nat.le_of_ble_eq_true rfl⟩ (As := [.int (N 0 6)]) rfl hl.1 rfl (Nat.le_of_ble_eq_true rfl) dX6_straggler_5 (fun r2 N1 H locs h I => ?_)
  exact x_ireti (pc := 8) C I hr hlocks h dX6_straggler_8
def V_X6_runningSpeculative (N : xM) (post : Int32 → xM → Prop) : Prop := (V_X6_speculative N  (fun r2 N1 => post r2 N1))
set_option maxHeartbeats 4000000 in
set_option maxRecDepth 100000 in
theorem m_X6_runningSpeculative {l : Launch} {D : va_G} {cI cZ : ClassId} {r : Nat → Nat} {N : xM} {post : Int32 → xM → Prop} (h : V_X6_runningSpeculative N post) : xMi l yX6_runningSpeculative cX6_runningSpeculative 1 (some .int) { frames := 2, cells := 0, slots := 0, locals := 42 } D cI cZ (wR cI cZ r) N [.ref (r 0)] post := by
  refine x_bodyi (own := RX6) (by decide) rfl (Nat.le_of_ble_eq_true rfl) ?_
  intro p e s m below meth c A ls C hr hlocks hA I hl
  have hx := C.1.1
  have hb := C.1.2.1
  have hl : lv_has ls 1 [(0, .ref (r 0))] := hl
  unfold V_X6_runningSpeculative at h
  refine lv_aload_n (pc := 0) hx hb dX6_runningSpeculative_0 rfl (lv_at hl 0 rfl) ?_
  refine x_calli (pc := 1) C I hA (m_X6_speculative h) c_RX6_152 wR_0 rfl ⟨Nat.le_of_ble_eq_true rfl, Nat.le_of_ble_eq_true rfl⟩ ⟨rfl, rfl⟩ ⟨Nat.le_of_ble_eq_true rfl, Nat.le_of_ble_eq_true rfl⟩ (As := []) rfl hl.1 rfl (Nat.le_of_ble_eq_true rfl) dX6_runningSpeculative_1 (fun r2 N1 H locs h I => ?_)
  exact x_ireti (pc := 4) C I hr hlocks h dX6_runningSpeculative_4
def V_X6_wastedWork_L4 (post : Int32 → xM → Prop) : Nat → xM → Int32 → Int32 → Prop
  | 0, _, _, _ => False
  | n + 1, N0, x1, x2 => (vp_in 0 2 ∧ (((N0 5 (0 : Int32).toNatClampNeg) ≤ x2 → post x1 N0) ∧ (¬ (N0 5 (0 : Int32).toNatClampNeg) ≤ x2 → (vp_in x2 400 ∧ (((N0 11 (x2).toNatClampNeg) = 3 → (vp_in x2 400 ∧ (∀ y6 : Int32, y6 = (x1 + (N0 10 (x2).toNatClampNeg)) → (∀ y7 : Int32, y7 = (x2 + 1) → (V_X6_wastedWork_L4 post n N0 y6 y7))))) ∧ (¬ (N0 11 (x2).toNatClampNeg) = 3 → (vp_in x2 400 ∧ (((N0 11 (x2).toNatClampNeg) = 4 → (vp_in x2 400 ∧ (∀ y13 : Int32, y13 = (x1 + (N0 10 (x2).toNatClampNeg)) → (∀ y14 : Int32, y14 = (x2 + 1) → (V_X6_wastedWork_L4 post n N0 y13 y14))))) ∧ (¬ (N0 11 (x2).toNatClampNeg) = 4 → (∀ y10 : Int32, y10 = (x1 + 0) → (∀ y11 : Int32, y11 = (x2 + 1) → (V_X6_wastedWork_L4 post n N0 y10 y11))))))))))))
def V_X6_wastedWork (N : xM) (post : Int32 → xM → Prop) : Prop := (∃ n15 : Nat, V_X6_wastedWork_L4 post n15 N 0 0)
set_option maxHeartbeats 4000000 in
set_option maxRecDepth 100000 in
theorem k_X6_wastedWork_L4 {l : Launch} {D : va_G} {cI cZ : ClassId} {r : Nat → Nat} {p : Program} {e : Env} {s : State} {m : MethodId} {below : List Frame} {meth : Method} {c : Code} {A : Nat → Prop} {args : Array Value} {post : Int32 → xM → Prop} (C : xC p s m args c cX6_wastedWork 3 RX6 D cI cZ) (hr : meth.sig.returnType = (some .int)) (hlocks : meth.locks = false) (hA : ∀ q : Nat, s.heap.size ≤ q → A q) (n : Nat) : ∀ (N0 : xM) (x1 x2 : Int32) (H : Heap) (locs : List Loc) (ls : Array Slot), V_X6_wastedWork_L4 post n N0 x1 x2 → xI D (wR cI cZ r N0) A s.heap H locs → lv_has ls 3 [(0, .ref (r 0)), (1, .int x1), (2, .int x2)] → W p l e { frames := 0, cells := 0, slots := 0, locals := 0 } s m args below meth c H locs 0 0 (MQ below (va_Qi post (xPost D cI cZ A (wR cI cZ r)) A) args s 0 0 A) (F0 m 4 ls []) := by
  have hx := C.1.1
  have hb := C.1.2.1
  induction n with
  | zero =>
    intro N0 x1 x2 H locs ls h I hl
    exact absurd h id
  | succ n ih4 =>
    intro N0 x1 x2 H locs ls h I hl
    rw [V_X6_wastedWork_L4] at h
    refine lv_iload_n (pc := 4) hx hb dX6_wastedWork_4 rfl (lv_at hl 2 rfl) ?_
    refine lv_aload_n (pc := 5) hx hb dX6_wastedWork_5 rfl (lv_at hl 0 rfl) ?_
    refine x_get (pc := 6) C I wR_0 rfl inlX6 (k := 12) q_4_19 (by decide) rfl rfl dX6_wastedWork_6 ?_
    refine lv_iconst (pc := 9) (v := 0) hx hb dX6_wastedWork_9 (by decide) ?_
    obtain ⟨g1, h⟩ := h
    refine x_ald (pc := 10) C I wR_5 g1 dX6_wastedWork_10 ?_
    refine lv_icmp_ge (pc := 11) (tgt := 53) hx hb dX6_wastedWork_11 (by decide) (fun g2 => ?_) (fun g2 => ?_)
    · have h := h.1 g2
      refine lv_iload_n (pc := 53) hx hb dX6_wastedWork_53 rfl (lv_at hl 1 rfl) ?_
      exact x_ireti (pc := 54) C I hr hlocks h dX6_wastedWork_54
    · have h := h.2 g2
      refine lv_iload_n (pc := 14) hx hb dX6_wastedWork_14 rfl (lv_at hl 1 rfl) ?_
      refine lv_aload_n (pc := 15) hx hb dX6_wastedWork_15 rfl (lv_at hl 0 rfl) ?_
      refine x_get (pc := 16) C I wR_0 rfl inlX6 (k := 18) q_5_1 (by decide) rfl rfl dX6_wastedWork_16 ?_
      refine lv_iload_n (pc := 19) hx hb dX6_wastedWork_19 rfl (lv_at hl 2 rfl) ?_
      obtain ⟨g3, h⟩ := h
      refine x_ald (pc := 20) C I wR_11 g3 dX6_wastedWork_20 ?_
      refine lv_iconst (pc := 21) (v := 3) hx hb dX6_wastedWork_21 (by decide) ?_
      refine lv_icmp_eq (pc := 22) (tgt := 35) hx hb dX6_wastedWork_22 (by decide) (fun g4 => ?_) (fun g4 => ?_)
      · have h := h.1 g4
        refine lv_aload_n (pc := 35) hx hb dX6_wastedWork_35 rfl (lv_at hl 0 rfl) ?_
        refine x_get (pc := 36) C I wR_0 rfl inlX6 (k := 17) q_5_0 (by decide) rfl rfl dX6_wastedWork_36 ?_
        refine lv_iload_n (pc := 39) hx hb dX6_wastedWork_39 rfl (lv_at hl 2 rfl) ?_
        obtain ⟨g5, h⟩ := h
        refine x_ald (pc := 40) C I wR_10 g5 dX6_wastedWork_40 ?_
        refine lv_goto (pc := 41) (tgt := 45) hx hb dX6_wastedWork_41 (by decide) ?_
        refine lv_iadd (pc := 45) hx hb dX6_wastedWork_45 ?_
        refine lv_topi (fun y6 ey6 => ?_)
        have h := h y6 ey6
        refine lv_istore_n (pc := 46) (lv' := [(1, .int y6), (0, .ref (r 0)), (2, .int x2)]) hx hb dX6_wastedWork_46 rfl hl (by decide) rfl (fun ls hl => ?_)
        obtain ⟨y7, ey7⟩ : ∃ y : Int32, y = (x2 + 1) := ⟨_, rfl⟩
        have h := h y7 ey7
        refine lv_iinc (pc := 47) (v := y7) (lv' := [(2, .int y7), (1, .int y6), (0, .ref (r 0))]) hx hb dX6_wastedWork_47 hl (k := 2) rfl (by rw [ey7]; rfl) (by decide) rfl (fun ls hl => ?_)
        refine lv_goto (pc := 50) (tgt := 4) hx hb dX6_wastedWork_50 (by decide) ?_
        exact ih4 N0 y6 y7 _ _ _ h I (lv_sub hl [2, 1, 0] rfl)
      · have h := h.2 g4
        refine lv_aload_n (pc := 25) hx hb dX6_wastedWork_25 rfl (lv_at hl 0 rfl) ?_
        refine x_get (pc := 26) C I wR_0 rfl inlX6 (k := 18) q_5_1 (by decide) rfl rfl dX6_wastedWork_26 ?_
        refine lv_iload_n (pc := 29) hx hb dX6_wastedWork_29 rfl (lv_at hl 2 rfl) ?_
        obtain ⟨g8, h⟩ := h
        refine x_ald (pc := 30) C I wR_11 g8 dX6_wastedWork_30 ?_
        refine lv_iconst (pc := 31) (v := 4) hx hb dX6_wastedWork_31 (by decide) ?_
        refine lv_icmp_ne (pc := 32) (tgt := 44) hx hb dX6_wastedWork_32 (by decide) (fun g9 => ?_) (fun g9 => ?_)
        · have h := h.2 g9
          refine lv_iconst (pc := 44) (v := 0) hx hb dX6_wastedWork_44 (by decide) ?_
          refine lv_iadd (pc := 45) hx hb dX6_wastedWork_45 ?_
          refine lv_topi (fun y10 ey10 => ?_)
          have h := h y10 ey10
          refine lv_istore_n (pc := 46) (lv' := [(1, .int y10), (0, .ref (r 0)), (2, .int x2)]) hx hb dX6_wastedWork_46 rfl hl (by decide) rfl (fun ls hl => ?_)
          obtain ⟨y11, ey11⟩ : ∃ y : Int32, y = (x2 + 1) := ⟨_, rfl⟩
          have h := h y11 ey11
          refine lv_iinc (pc := 47) (v := y11) (lv' := [(2, .int y11), (1, .int y10), (0, .ref (r 0))]) hx hb dX6_wastedWork_47 hl (k := 2) rfl (by rw [ey11]; rfl) (by decide) rfl (fun ls hl => ?_)
          refine lv_goto (pc := 50) (tgt := 4) hx hb dX6_wastedWork_50 (by decide) ?_
          exact ih4 N0 y10 y11 _ _ _ h I (lv_sub hl [2, 1, 0] rfl)
        · have h := h.1 g9
          refine lv_aload_n (pc := 35) hx hb dX6_wastedWork_35 rfl (lv_at hl 0 rfl) ?_
          refine x_get (pc := 36) C I wR_0 rfl inlX6 (k := 17) q_5_0 (by decide) rfl rfl dX6_wastedWork_36 ?_
          refine lv_iload_n (pc := 39) hx hb dX6_wastedWork_39 rfl (lv_at hl 2 rfl) ?_
          obtain ⟨g12, h⟩ := h
          refine x_ald (pc := 40) C I wR_10 g12 dX6_wastedWork_40 ?_
          refine lv_goto (pc := 41) (tgt := 45) hx hb dX6_wastedWork_41 (by decide) ?_
          refine lv_iadd (pc := 45) hx hb dX6_wastedWork_45 ?_
          refine lv_topi (fun y13 ey13 => ?_)
          have h := h y13 ey13
          refine lv_istore_n (pc := 46) (lv' := [(1, .int y13), (0, .ref (r 0)), (2, .int x2)]) hx hb dX6_wastedWork_46 rfl hl (by decide) rfl (fun ls hl => ?_)
          obtain ⟨y14, ey14⟩ : ∃ y : Int32, y = (x2 + 1) := ⟨_, rfl⟩
          have h := h y14 ey14
          refine lv_iinc (pc := 47) (v := y14) (lv' := [(2, .int y14), (1, .int y13), (0, .ref (r 0))]) hx hb dX6_wastedWork_47 hl (k := 2) rfl (by rw [ey14]; rfl) (by decide) rfl (fun ls hl => ?_)
          refine lv_goto (pc := 50) (tgt := 4) hx hb dX6_wastedWork_50 (by decide) ?_
          exact ih4 N0 y13 y14 _ _ _ h I (lv_sub hl [2, 1, 0] rfl)
set_option maxHeartbeats 4000000 in
set_option maxRecDepth 100000 in
theorem m_X6_wastedWork {l : Launch} {D : va_G} {cI cZ : ClassId} {r : Nat → Nat} {N : xM} {post : Int32 → xM → Prop} (h : V_X6_wastedWork N post) : xMi l yX6_wastedWork cX6_wastedWork 3 (some .int) { frames := 0, cells := 0, slots := 0, locals := 0 } D cI cZ (wR cI cZ r) N [.ref (r 0)] post := by
  refine x_bodyi (own := RX6) (by decide) rfl (Nat.le_of_ble_eq_true rfl) ?_
  intro p e s m below meth c A ls C hr hlocks hA I hl
  have hx := C.1.1
  have hb := C.1.2.1
  have hl : lv_has ls 3 [(0, .ref (r 0))] := hl
  unfold V_X6_wastedWork at h
  refine lv_iconst (pc := 0) (v := 0) hx hb dX6_wastedWork_0 (by decide) ?_
  refine lv_istore_n (pc := 1) (lv' := [(1, .int 0), (0, .ref (r 0))]) hx hb dX6_wastedWork_1 rfl hl (by decide) rfl (fun ls hl => ?_)
  refine lv_iconst (pc := 2) (v := 0) hx hb dX6_wastedWork_2 (by decide) ?_
  refine lv_istore_n (pc := 3) (lv' := [(2, .int 0), (1, .int 0), (0, .ref (r 0))]) hx hb dX6_wastedWork_3 rfl hl (by decide) rfl (fun ls hl => ?_)
  obtain ⟨n15, h⟩ := h
  exact k_X6_wastedWork_L4 C hr hlocks hA n15 N 0 0 _ _ _ h I (lv_sub hl [2, 1, 0] rfl)
def V_X6_clears_L55 (post : xM → Prop) : Nat → xM → Int32 → Prop
  | 0, _, _ => False
  | n + 1, N0, x1 => ((16 ≤ x1 → post N0) ∧ (¬ 16 ≤ x1 → (vp_in x1 16 ∧ ∀ N8 : xM, N8 = xu N0 16 (x1).toNatClampNeg 0 → (vp_in x1 16 ∧ ∀ N10 : xM, N10 = xu N8 17 (x1).toNatClampNeg 0 → (vp_in x1 16 ∧ ∀ N12 : xM, N12 = xu N10 18 (x1).toNatClampNeg 0 → (∀ y13 : Int32, y13 = (x1 + 1) → (V_X6_clears_L55 post n N12 y13)))))))
def V_X6_clears_L17 (post : xM → Prop) : Nat → xM → Int32 → Prop
  | 0, _, _ => False
  | n + 1, N0, x1 => ((48 ≤ x1 → (∃ n14 : Nat, V_X6_clears_L55 post n14 N0 8)) ∧ (¬ 48 ≤ x1 → (vp_in x1 48 ∧ ∀ N16 : xM, N16 = xu N0 13 (x1).toNatClampNeg (-6) → (vp_in x1 48 ∧ ∀ N18 : xM, N18 = xu N16 14 (x1).toNatClampNeg (-6) → (vp_in x1 48 ∧ ∀ N20 : xM, N20 = xu N18 15 (x1).toNatClampNeg 0 → (∀ y21 : Int32, y21 = (x1 + 1) → (V_X6_clears_L17 post n N20 y21)))))))
def V_X6_clears (N : xM) (post : xM → Prop) : Prop := (vp_in 1 2 ∧ ∀ N2 : xM, N2 = xu N 5 (1 : Int32).toNatClampNeg 0 → (vp_in 1 2 ∧ ∀ N4 : xM, N4 = xu N2 6 (1 : Int32).toNatClampNeg 0 → (∃ n22 : Nat, V_X6_clears_L17 post n22 N4 24)))
set_option maxHeartbeats 4000000 in
set_option maxRecDepth 100000 in
theorem k_X6_clears_L55 {l : Launch} {D : va_G} {cI cZ : ClassId} {r : Nat → Nat} {p : Program} {e : Env} {s : State} {m : MethodId} {below : List Frame} {meth : Method} {c : Code} {A : Nat → Prop} {args : Array Value} {post : xM → Prop} (C : xC p s m args c cX6_clears 2 RX6 D cI cZ) (hr : meth.sig.returnType = none) (hlocks : meth.locks = false) (hA : ∀ q : Nat, s.heap.size ≤ q → A q) (n : Nat) : ∀ (N0 : xM) (x1 : Int32) (H : Heap) (locs : List Loc) (ls : Array Slot), V_X6_clears_L55 post n N0 x1 → xI D (wR cI cZ r N0) A s.heap H locs → lv_has ls 2 [(0, .ref (r 0)), (1, .int x1)] → W p l e { frames := 0, cells := 0, slots := 0, locals := 0 } s m args below meth c H locs 0 0 (MQ below (va_Qv post (xPost D cI cZ A (wR cI cZ r)) A) args s 0 0 A) (F0 m 55 ls []) := by
  have hx := C.1.1
  have hb := C.1.2.1
  induction n with
  | zero =>
    intro N0 x1 H locs ls h I hl
    exact absurd h id
  | succ n ih55 =>
    intro N0 x1 H locs ls h I hl
    rw [V_X6_clears_L55] at h
    refine lv_iload_n (pc := 55) hx hb dX6_clears_55 rfl (lv_at hl 1 rfl) ?_
    refine lv_bipush (pc := 56) (v := 16) hx hb dX6_clears_56 (by decide) ?_
    refine lv_icmp_ge (pc := 58) (tgt := 88) hx hb dX6_clears_58 (by decide) (fun g6 => ?_) (fun g6 => ?_)
    · have h := h.1 g6
      exact x_retv (pc := 88) C I hr hlocks h dX6_clears_88
    · have h := h.2 g6
      refine lv_aload_n (pc := 61) hx hb dX6_clears_61 rfl (lv_at hl 0 rfl) ?_
      refine x_get (pc := 62) C I wR_0 rfl inlX6 (k := 23) q_5_6 (by decide) rfl rfl dX6_clears_62 ?_
      refine lv_iload_n (pc := 65) hx hb dX6_clears_65 rfl (lv_at hl 1 rfl) ?_
      refine lv_iconst (pc := 66) (v := 0) hx hb dX6_clears_66 (by decide) ?_
      obtain ⟨g7, h⟩ := h
      refine x_ast (pc := 67) C I wR_16 g7 sR_16 dX6_clears_67 (fun H locs I => ?_)
      obtain ⟨N8, eN8⟩ : ∃ z : xM, z = xu N0 16 (x1).toNatClampNeg 0 := ⟨_, rfl⟩
      have h := h N8 eN8
      rw [← eN8] at I
      refine lv_aload_n (pc := 68) hx hb dX6_clears_68 rfl (lv_at hl 0 rfl) ?_
      refine x_get (pc := 69) C I wR_0 rfl inlX6 (k := 24) q_5_7 (by decide) rfl rfl dX6_clears_69 ?_
      refine lv_iload_n (pc := 72) hx hb dX6_clears_72 rfl (lv_at hl 1 rfl) ?_
      refine lv_iconst (pc := 73) (v := 0) hx hb dX6_clears_73 (by decide) ?_
      obtain ⟨g9, h⟩ := h
      refine x_ast (pc := 74) C I wR_17 g9 sR_17 dX6_clears_74 (fun H locs I => ?_)
      obtain ⟨N10, eN10⟩ : ∃ z : xM, z = xu N8 17 (x1).toNatClampNeg 0 := ⟨_, rfl⟩
      have h := h N10 eN10
      rw [← eN10] at I
      refine lv_aload_n (pc := 75) hx hb dX6_clears_75 rfl (lv_at hl 0 rfl) ?_
      refine x_get (pc := 76) C I wR_0 rfl inlX6 (k := 25) q_5_8 (by decide) rfl rfl dX6_clears_76 ?_
      refine lv_iload_n (pc := 79) hx hb dX6_clears_79 rfl (lv_at hl 1 rfl) ?_
      refine lv_iconst (pc := 80) (v := 0) hx hb dX6_clears_80 (by decide) ?_
      obtain ⟨g11, h⟩ := h
      refine x_ast (pc := 81) C I wR_18 g11 sR_18 dX6_clears_81 (fun H locs I => ?_)
      obtain ⟨N12, eN12⟩ : ∃ z : xM, z = xu N10 18 (x1).toNatClampNeg 0 := ⟨_, rfl⟩
      have h := h N12 eN12
      rw [← eN12] at I
      obtain ⟨y13, ey13⟩ : ∃ y : Int32, y = (x1 + 1) := ⟨_, rfl⟩
      have h := h y13 ey13
      refine lv_iinc (pc := 82) (v := y13) (lv' := [(1, .int y13), (0, .ref (r 0))]) hx hb dX6_clears_82 hl (k := 1) rfl (by rw [ey13]; rfl) (by decide) rfl (fun ls hl => ?_)
      refine lv_goto (pc := 85) (tgt := 55) hx hb dX6_clears_85 (by decide) ?_
      exact ih55 N12 y13 _ _ _ h I (lv_sub hl [1, 0] rfl)
set_option maxHeartbeats 4000000 in
set_option maxRecDepth 100000 in
theorem k_X6_clears_L17 {l : Launch} {D : va_G} {cI cZ : ClassId} {r : Nat → Nat} {p : Program} {e : Env} {s : State} {m : MethodId} {below : List Frame} {meth : Method} {c : Code} {A : Nat → Prop} {args : Array Value} {post : xM → Prop} (C : xC p s m args c cX6_clears 2 RX6 D cI cZ) (hr : meth.sig.returnType = none) (hlocks : meth.locks = false) (hA : ∀ q : Nat, s.heap.size ≤ q → A q) (n : Nat) : ∀ (N0 : xM) (x1 : Int32) (H : Heap) (locs : List Loc) (ls : Array Slot), V_X6_clears_L17 post n N0 x1 → xI D (wR cI cZ r N0) A s.heap H locs → lv_has ls 2 [(0, .ref (r 0)), (1, .int x1)] → W p l e { frames := 0, cells := 0, slots := 0, locals := 0 } s m args below meth c H locs 0 0 (MQ below (va_Qv post (xPost D cI cZ A (wR cI cZ r)) A) args s 0 0 A) (F0 m 17 ls []) := by
  have hx := C.1.1
  have hb := C.1.2.1
  induction n with
  | zero =>
    intro N0 x1 H locs ls h I hl
    exact absurd h id
  | succ n ih17 =>
    intro N0 x1 H locs ls h I hl
    rw [V_X6_clears_L17] at h
    refine lv_iload_n (pc := 17) hx hb dX6_clears_17 rfl (lv_at hl 1 rfl) ?_
    refine lv_bipush (pc := 18) (v := 48) hx hb dX6_clears_18 (by decide) ?_
    refine lv_icmp_ge (pc := 20) (tgt := 52) hx hb dX6_clears_20 (by decide) (fun g5 => ?_) (fun g5 => ?_)
    · have h := h.1 g5
      refine lv_bipush (pc := 52) (v := 8) hx hb dX6_clears_52 (by decide) ?_
      refine lv_istore_n (pc := 54) (lv' := [(1, .int 8), (0, .ref (r 0))]) hx hb dX6_clears_54 rfl hl (by decide) rfl (fun ls hl => ?_)
      obtain ⟨n14, h⟩ := h
      exact k_X6_clears_L55 C hr hlocks hA n14 N0 8 _ _ _ h I (lv_sub hl [1, 0] rfl)
    · have h := h.2 g5
      refine lv_aload_n (pc := 23) hx hb dX6_clears_23 rfl (lv_at hl 0 rfl) ?_
      refine x_get (pc := 24) C I wR_0 rfl inlX6 (k := 20) q_5_3 (by decide) rfl rfl dX6_clears_24 ?_
      refine lv_iload_n (pc := 27) hx hb dX6_clears_27 rfl (lv_at hl 1 rfl) ?_
      refine lv_bipush (pc := 28) (v := (-6)) hx hb dX6_clears_28 (by decide) ?_
      obtain ⟨g15, h⟩ := h
      refine x_ast (pc := 30) C I wR_13 g15 sR_13 dX6_clears_30 (fun H locs I => ?_)
      obtain ⟨N16, eN16⟩ : ∃ z : xM, z = xu N0 13 (x1).toNatClampNeg (-6) := ⟨_, rfl⟩
      have h := h N16 eN16
      rw [← eN16] at I
      refine lv_aload_n (pc := 31) hx hb dX6_clears_31 rfl (lv_at hl 0 rfl) ?_
      refine x_get (pc := 32) C I wR_0 rfl inlX6 (k := 21) q_5_4 (by decide) rfl rfl dX6_clears_32 ?_
      refine lv_iload_n (pc := 35) hx hb dX6_clears_35 rfl (lv_at hl 1 rfl) ?_
      refine lv_bipush (pc := 36) (v := (-6)) hx hb dX6_clears_36 (by decide) ?_
      obtain ⟨g17, h⟩ := h
      refine x_ast (pc := 38) C I wR_14 g17 sR_14 dX6_clears_38 (fun H locs I => ?_)
      obtain ⟨N18, eN18⟩ : ∃ z : xM, z = xu N16 14 (x1).toNatClampNeg (-6) := ⟨_, rfl⟩
      have h := h N18 eN18
      rw [← eN18] at I
      refine lv_aload_n (pc := 39) hx hb dX6_clears_39 rfl (lv_at hl 0 rfl) ?_
      refine x_get (pc := 40) C I wR_0 rfl inlX6 (k := 22) q_5_5 (by decide) rfl rfl dX6_clears_40 ?_
      refine lv_iload_n (pc := 43) hx hb dX6_clears_43 rfl (lv_at hl 1 rfl) ?_
      refine lv_iconst (pc := 44) (v := 0) hx hb dX6_clears_44 (by decide) ?_
      obtain ⟨g19, h⟩ := h
      refine x_ast (pc := 45) C I wR_15 g19 sR_15 dX6_clears_45 (fun H locs I => ?_)
      obtain ⟨N20, eN20⟩ : ∃ z : xM, z = xu N18 15 (x1).toNatClampNeg 0 := ⟨_, rfl⟩
      have h := h N20 eN20
      rw [← eN20] at I
      obtain ⟨y21, ey21⟩ : ∃ y : Int32, y = (x1 + 1) := ⟨_, rfl⟩
      have h := h y21 ey21
      refine lv_iinc (pc := 46) (v := y21) (lv' := [(1, .int y21), (0, .ref (r 0))]) hx hb dX6_clears_46 hl (k := 1) rfl (by rw [ey21]; rfl) (by decide) rfl (fun ls hl => ?_)
      refine lv_goto (pc := 49) (tgt := 17) hx hb dX6_clears_49 (by decide) ?_
      exact ih17 N20 y21 _ _ _ h I (lv_sub hl [1, 0] rfl)
set_option maxHeartbeats 4000000 in
set_option maxRecDepth 100000 in
theorem m_X6_clears {l : Launch} {D : va_G} {cI cZ : ClassId} {r : Nat → Nat} {N : xM} {post : xM → Prop} (h : V_X6_clears N post) : xMv l yX6_clears cX6_clears 2 none { frames := 0, cells := 0, slots := 0, locals := 0 } D cI cZ (wR cI cZ r) N [.ref (r 0)] post := by
  refine x_bodyv (own := RX6) (by decide) rfl (Nat.le_of_ble_eq_true rfl) ?_
  intro p e s m below meth c A ls C hr hlocks hA I hl
  have hx := C.1.1
  have hb := C.1.2.1
  have hl : lv_has ls 2 [(0, .ref (r 0))] := hl
  unfold V_X6_clears at h
  refine lv_aload_n (pc := 0) hx hb dX6_clears_0 rfl (lv_at hl 0 rfl) ?_
  refine x_get (pc := 1) C I wR_0 rfl inlX6 (k := 12) q_4_19 (by decide) rfl rfl dX6_clears_1 ?_
  refine lv_iconst (pc := 4) (v := 1) hx hb dX6_clears_4 (by decide) ?_
  refine lv_iconst (pc := 5) (v := 0) hx hb dX6_clears_5 (by decide) ?_
  obtain ⟨g1, h⟩ := h
  refine x_ast (pc := 6) C I wR_5 g1 sR_5 dX6_clears_6 (fun H locs I => ?_)
  obtain ⟨N2, eN2⟩ : ∃ z : xM, z = xu N 5 (1 : Int32).toNatClampNeg 0 := ⟨_, rfl⟩
  have h := h N2 eN2
  rw [← eN2] at I
  refine lv_aload_n (pc := 7) hx hb dX6_clears_7 rfl (lv_at hl 0 rfl) ?_
  refine x_get (pc := 8) C I wR_0 rfl inlX6 (k := 13) q_4_20 (by decide) rfl rfl dX6_clears_8 ?_
  refine lv_iconst (pc := 11) (v := 1) hx hb dX6_clears_11 (by decide) ?_
  refine lv_iconst (pc := 12) (v := 0) hx hb dX6_clears_12 (by decide) ?_
  obtain ⟨g3, h⟩ := h
  refine x_ast (pc := 13) C I wR_6 g3 sR_6 dX6_clears_13 (fun H locs I => ?_)
  obtain ⟨N4, eN4⟩ : ∃ z : xM, z = xu N2 6 (1 : Int32).toNatClampNeg 0 := ⟨_, rfl⟩
  have h := h N4 eN4
  rw [← eN4] at I
  refine lv_bipush (pc := 14) (v := 24) hx hb dX6_clears_14 (by decide) ?_
  refine lv_istore_n (pc := 16) (lv' := [(1, .int 24), (0, .ref (r 0))]) hx hb dX6_clears_16 rfl hl (by decide) rfl (fun ls hl => ?_)
  obtain ⟨n22, h⟩ := h
  exact k_X6_clears_L17 C hr hlocks hA n22 N4 24 _ _ _ h I (lv_sub hl [1, 0] rfl)
def V_X6_simulatedMakespan_L21 (post : Int32 → xM → Prop) : Nat → xM → Int32 → Prop
  | 0, _, _ => False
  | n + 1, N0, x1 => (((N0 0 4) ≤ 0 → (V_X6_greatestFinish N0  (fun r7 N6 => (∀ N8 : xM, N8 = xu N6 0 11 0 → post r7 N8)))) ∧ (¬ (N0 0 4) ≤ 0 → (V_X6_greatestFinish N0  (fun r10 N9 => ((r10 = (-6) → (vp_in 1 2 ∧ ((2000 ≤ (N9 6 (1 : Int32).toNatClampNeg) → (V_X6_greatestFinish N9  (fun r18 N17 => (∀ N19 : xM, N19 = xu N17 0 11 0 → post r18 N19)))) ∧ (¬ 2000 ≤ (N9 6 (1 : Int32).toNatClampNeg) → (V_X6_passes N9 x1 (fun r21 N20 => (V_X6_simulatedMakespan_L21 post n N20 x1))))))) ∧ (¬ r10 = (-6) → (V_X6_greatestFinish N9  (fun r13 N12 => (∀ N14 : xM, N14 = xu N12 0 11 0 → post r13 N14)))))))))
def V_X6_simulatedMakespan (N : xM) (x1 : Int32) (post : Int32 → xM → Prop) : Prop := (V_X6_within x1 0 2 (fun r1 => ((r1 = 0 → post (-4) N) ∧ (¬ r1 = 0 → (∀ N3 : xM, N3 = xu N 0 11 1 → (V_X6_clears N3  (fun N4 => (∃ n22 : Nat, V_X6_simulatedMakespan_L21 post n22 N4 x1))))))))
set_option maxHeartbeats 4000000 in
set_option maxRecDepth 100000 in
theorem k_X6_simulatedMakespan_L21 {l : Launch} {D : va_G} {cI cZ : ClassId} {r : Nat → Nat} {p : Program} {e : Env} {s : State} {m : MethodId} {below : List Frame} {meth : Method} {c : Code} {A : Nat → Prop} {args : Array Value} {post : Int32 → xM → Prop} (C : xC p s m args c cX6_simulatedMakespan 3 RX6 D cI cZ) (hr : meth.sig.returnType = (some .int)) (hlocks : meth.locks = false) (hA : ∀ q : Nat, s.heap.size ≤ q → A q) (n : Nat) : ∀ (N0 : xM) (x1 : Int32) (H : Heap) (locs : List Loc) (ls : Array Slot), V_X6_simulatedMakespan_L21 post n N0 x1 → xI D (wR cI cZ r N0) A s.heap H locs → lv_has ls 3 [(0, .ref (r 0)), (1, .int x1)] → W p l e { frames := 7, cells := 0, slots := 0, locals := 159 } s m args below meth c H locs 0 0 (MQ below (va_Qi post (xPost D cI cZ A (wR cI cZ r)) A) args s 0 0 A) (F0 m 21 ls []) := by
  have hx := C.1.1
  have hb := C.1.2.1
  induction n with
  | zero =>
    intro N0 x1 H locs ls h I hl
    exact absurd h id
  | succ n ih21 =>
    intro N0 x1 H locs ls h I hl
    rw [V_X6_simulatedMakespan_L21] at h
    refine lv_aload_n (pc := 21) hx hb dX6_simulatedMakespan_21 rfl (lv_at hl 0 rfl) ?_
    refine x_get (pc := 22) C I wR_0 rfl inlX6 (k := 4) q_9_5 (by decide) rfl rfl dX6_simulatedMakespan_22 ?_
    refine lv_if_le (pc := 25) (tgt := 58) hx hb dX6_simulatedMakespan_25 (by decide) (fun g5 => ?_) (fun g5 => ?_)
    · have h := h.1 g5
      refine lv_aload_n (pc := 58) hx hb dX6_simulatedMakespan_58 rfl (lv_at hl 0 rfl) ?_
      refine x_calli (pc := 59) C I hA (m_X6_greatestFinish h) c_RX6_184 wR_0 rfl ⟨Nat.le_of_ble_eq_true rfl, Nat.le_of_ble_eq_true rfl⟩ ⟨rfl, rfl⟩ ⟨Nat.le_of_ble_eq_true rfl, Nat.le_of_ble_eq_true rfl⟩ (As := []) rfl hl.1 rfl (Nat.le_of_ble_eq_true rfl) dX6_simulatedMakespan_59 (fun r7 N6 H locs h I => ?_)
      refine lv_istore_n (pc := 62) (lv' := [(2, .int r7), (0, .ref (r 0)), (1, .int x1)]) hx hb dX6_simulatedMakespan_62 rfl hl (by decide) rfl (fun ls hl => ?_)
      refine lv_aload_n (pc := 63) hx hb dX6_simulatedMakespan_63 rfl (lv_at hl 1 rfl) ?_
      refine lv_iconst (pc := 64) (v := 0) hx hb dX6_simulatedMakespan_64 (by decide) ?_
      refine x_puti (pc := 65) C I wR_0 rfl inlX6 tyX6_ok nmX6 (k := 11) q_8_7 (by decide) rfl rfl rfl (Nat.le_of_ble_eq_true rfl) sR_0_11 dX6_simulatedMakespan_65 (fun H locs I => ?_)
      obtain ⟨N8, eN8⟩ : ∃ z : xM, z = xu N6 0 11 0 := ⟨_, rfl⟩
      have h := h N8 eN8
      rw [← eN8] at I
      refine lv_iload_n (pc := 68) hx hb dX6_simulatedMakespan_68 rfl (lv_at hl 0 rfl) ?_
      exact x_ireti (pc := 69) C I hr hlocks h dX6_simulatedMakespan_69
    · have h := h.2 g5
      refine lv_aload_n (pc := 28) hx hb dX6_simulatedMakespan_28 rfl (lv_at hl 0 rfl) ?_
      refine x_calli (pc := 29) C I hA (m_X6_greatestFinish h) c_RX6_184 wR_0 rfl ⟨Nat.le_of_ble_eq_true rfl, Nat.le_of_ble_eq_true rfl⟩ ⟨rfl, rfl⟩ ⟨Nat.le_of_ble_eq_true rfl, Nat.le_of_ble_eq_true rfl⟩ (As := []) rfl hl.1 rfl (Nat.le_of_ble_eq_true rfl) dX6_simulatedMakespan_29 (fun r10 N9 H locs h I => ?_)
      refine lv_bipush (pc := 32) (v := (-6)) hx hb dX6_simulatedMakespan_32 (by decide) ?_
      refine lv_icmp_ne (pc := 34) (tgt := 58) hx hb dX6_simulatedMakespan_34 (by decide) (fun g11 => ?_) (fun g11 => ?_)
      · have h := h.2 g11
        refine lv_aload_n (pc := 58) hx hb dX6_simulatedMakespan_58 rfl (lv_at hl 0 rfl) ?_
        refine x_calli (pc := 59) C I hA (m_X6_greatestFinish h) c_RX6_184 wR_0 rfl ⟨Nat.le_of_ble_eq_true rfl, Nat.le_of_ble_eq_true rfl⟩ ⟨rfl, rfl⟩ ⟨Nat.le_of_ble_eq_true rfl, Nat.le_of_ble_eq_true rfl⟩ (As := []) rfl hl.1 rfl (Nat.le_of_ble_eq_true rfl) dX6_simulatedMakespan_59 (fun r13 N12 H locs h I => ?_)
        refine lv_istore_n (pc := 62) (lv' := [(2, .int r13), (0, .ref (r 0)), (1, .int x1)]) hx hb dX6_simulatedMakespan_62 rfl hl (by decide) rfl (fun ls hl => ?_)
        refine lv_aload_n (pc := 63) hx hb dX6_simulatedMakespan_63 rfl (lv_at hl 1 rfl) ?_
        refine lv_iconst (pc := 64) (v := 0) hx hb dX6_simulatedMakespan_64 (by decide) ?_
        refine x_puti (pc := 65) C I wR_0 rfl inlX6 tyX6_ok nmX6 (k := 11) q_8_7 (by decide) rfl rfl rfl (Nat.le_of_ble_eq_true rfl) sR_0_11 dX6_simulatedMakespan_65 (fun H locs I => ?_)
        obtain ⟨N14, eN14⟩ : ∃ z : xM, z = xu N12 0 11 0 := ⟨_, rfl⟩
        have h := h N14 eN14
        rw [← eN14] at I
        refine lv_iload_n (pc := 68) hx hb dX6_simulatedMakespan_68 rfl (lv_at hl 0 rfl) ?_
        exact x_ireti (pc := 69) C I hr hlocks h dX6_simulatedMakespan_69
      · have h := h.1 g11
        refine lv_aload_n (pc := 37) hx hb dX6_simulatedMakespan_37 rfl (lv_at hl 0 rfl) ?_
        refine x_get (pc := 38) C I wR_0 rfl inlX6 (k := 13) q_4_20 (by decide) rfl rfl dX6_simulatedMakespan_38 ?_
        refine lv_iconst (pc := 41) (v := 1) hx hb dX6_simulatedMakespan_41 (by decide) ?_
        obtain ⟨g15, h⟩ := h
        refine x_ald (pc := 42) C I wR_6 g15 dX6_simulatedMakespan_42 ?_
        refine lv_sipush (pc := 43) (v := 2000) hx hb dX6_simulatedMakespan_43 (by decide) ?_
        refine lv_icmp_ge (pc := 46) (tgt := 58) hx hb dX6_simulatedMakespan_46 (by decide) (fun g16 => ?_) (fun g16 => ?_)
        · have h := h.1 g16
          refine lv_aload_n (pc := 58) hx hb dX6_simulatedMakespan_58 rfl (lv_at hl 0 rfl) ?_
          refine x_calli (pc := 59) C I hA (m_X6_greatestFinish h) c_RX6_184 wR_0 rfl ⟨Nat.le_of_ble_eq_true rfl, Nat.le_of_ble_eq_true rfl⟩ ⟨rfl, rfl⟩ ⟨Nat.le_of_ble_eq_true rfl, Nat.le_of_ble_eq_true rfl⟩ (As := []) rfl hl.1 rfl (Nat.le_of_ble_eq_true rfl) dX6_simulatedMakespan_59 (fun r18 N17 H locs h I => ?_)
          refine lv_istore_n (pc := 62) (lv' := [(2, .int r18), (0, .ref (r 0)), (1, .int x1)]) hx hb dX6_simulatedMakespan_62 rfl hl (by decide) rfl (fun ls hl => ?_)
          refine lv_aload_n (pc := 63) hx hb dX6_simulatedMakespan_63 rfl (lv_at hl 1 rfl) ?_
          refine lv_iconst (pc := 64) (v := 0) hx hb dX6_simulatedMakespan_64 (by decide) ?_
          refine x_puti (pc := 65) C I wR_0 rfl inlX6 tyX6_ok nmX6 (k := 11) q_8_7 (by decide) rfl rfl rfl (Nat.le_of_ble_eq_true rfl) sR_0_11 dX6_simulatedMakespan_65 (fun H locs I => ?_)
          obtain ⟨N19, eN19⟩ : ∃ z : xM, z = xu N17 0 11 0 := ⟨_, rfl⟩
          have h := h N19 eN19
          rw [← eN19] at I
          refine lv_iload_n (pc := 68) hx hb dX6_simulatedMakespan_68 rfl (lv_at hl 0 rfl) ?_
          exact x_ireti (pc := 69) C I hr hlocks h dX6_simulatedMakespan_69
        · have h := h.2 g16
          refine lv_aload_n (pc := 49) hx hb dX6_simulatedMakespan_49 rfl (lv_at hl 0 rfl) ?_
          refine lv_iload_n (pc := 50) hx hb dX6_simulatedMakespan_50 rfl (lv_at hl 1 rfl) ?_
          refine x_calli (pc := 51) C I hA (m_X6_passes h) c_RX6_178 wR_0 rfl ⟨Nat.le_of_ble_eq_true rfl, Nat.le_of_ble_eq_true rfl⟩ ⟨rfl, rfl⟩ ⟨Nat.le_of_ble_eq_true rfl, Nat.le_of_ble_eq_true rfl⟩ (As := [.int x1]) rfl hl.1 rfl (Nat.le_of_ble_eq_true rfl) dX6_simulatedMakespan_51 (fun r21 N20 H locs h I => ?_)
          refine lv_pop (pc := 54) hx hb dX6_simulatedMakespan_54 rfl ?_
          refine lv_goto (pc := 55) (tgt := 21) hx hb dX6_simulatedMakespan_55 (by decide) ?_
          exact ih21 N20 x1 _ _ _ h I (lv_sub hl [0, 1] rfl)
set_option maxHeartbeats 4000000 in
set_option maxRecDepth 100000 in
theorem m_X6_simulatedMakespan {l : Launch} {D : va_G} {cI cZ : ClassId} {r : Nat → Nat} {N : xM} {x1 : Int32} {post : Int32 → xM → Prop} (h : V_X6_simulatedMakespan N x1 post) : xMi l yX6_simulatedMakespan cX6_simulatedMakespan 3 (some .int) { frames := 7, cells := 0, slots := 0, locals := 159 } D cI cZ (wR cI cZ r) N [.ref (r 0), .int x1] post := by
  refine x_bodyi (own := RX6) (by decide) rfl (Nat.le_of_ble_eq_true rfl) ?_
  intro p e s m below meth c A ls C hr hlocks hA I hl
  have hx := C.1.1
  have hb := C.1.2.1
  have hl : lv_has ls 3 [(0, .ref (r 0)), (1, .int x1)] := hl
  unfold V_X6_simulatedMakespan at h
  refine lv_iload_n (pc := 0) hx hb dX6_simulatedMakespan_0 rfl (lv_at hl 1 rfl) ?_
  refine lv_iconst (pc := 1) (v := 0) hx hb dX6_simulatedMakespan_1 (by decide) ?_
  refine lv_iconst (pc := 2) (v := 2) hx hb dX6_simulatedMakespan_2 (by decide) ?_
  refine x_calls (pc := 3) C I hA (m_X6_within h) c_RX6_84 ⟨Nat.le_of_ble_eq_true rfl, Nat.le_of_ble_eq_true rfl⟩ ⟨rfl, rfl⟩ ⟨Nat.le_of_ble_eq_true rfl, Nat.le_of_ble_eq_true rfl⟩ (As := [.int x1, .int 0, .int 2]) rfl hl.1 rfl (Nat.le_of_ble_eq_true rfl) dX6_simulatedMakespan_3 (fun r1 u2 H locs h I => ?_)
  obtain ⟨e9, h⟩ := h
  rw [e9] at I
  refine lv_if_ne (pc := 6) (tgt := 12) hx hb dX6_simulatedMakespan_6 (by decide) (fun g2 => ?_) (fun g2 => ?_)
  · have h := h.2 g2
    refine lv_aload_n (pc := 12) hx hb dX6_simulatedMakespan_12 rfl (lv_at hl 0 rfl) ?_
    refine lv_iconst (pc := 13) (v := 1) hx hb dX6_simulatedMakespan_13 (by decide) ?_
    refine x_puti (pc := 14) C I wR_0 rfl inlX6 tyX6_ok nmX6 (k := 11) q_8_7 (by decide) rfl rfl rfl (Nat.le_of_ble_eq_true rfl) sR_0_11 dX6_simulatedMakespan_14 (fun H locs I => ?_)
    obtain ⟨N3, eN3⟩ : ∃ z : xM, z = xu N 0 11 1 := ⟨_, rfl⟩
    have h := h N3 eN3
    rw [← eN3] at I
    refine lv_aload_n (pc := 17) hx hb dX6_simulatedMakespan_17 rfl (lv_at hl 0 rfl) ?_
    refine x_callv (pc := 18) C I hA (m_X6_clears h) c_RX6_190 wR_0 rfl ⟨Nat.le_of_ble_eq_true rfl, Nat.le_of_ble_eq_true rfl⟩ ⟨rfl, rfl⟩ ⟨Nat.le_of_ble_eq_true rfl, Nat.le_of_ble_eq_true rfl⟩ (As := []) rfl hl.1 rfl (Nat.le_of_ble_eq_true rfl) dX6_simulatedMakespan_18 (fun N4 H locs h I => ?_)
    obtain ⟨n22, h⟩ := h
    exact k_X6_simulatedMakespan_L21 C hr hlocks hA n22 N4 x1 _ _ _ h I (lv_sub hl [0, 1] rfl)
  · have h := h.1 g2
    refine lv_bipush (pc := 9) (v := (-4)) hx hb dX6_simulatedMakespan_9 (by decide) ?_
    exact x_ireti (pc := 11) C I hr hlocks h dX6_simulatedMakespan_11
