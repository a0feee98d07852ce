/-! Pure: a node fails; makespans; wasted work. -/
theorem nat0 (i : Nat) : 200 * 0 + i = i := by omega
theorem nat24 (i : Nat) : 24 * 0 + i = i := by omega
theorem nat8 (i : Nat) : 8 * 0 + i = i := by omega
theorem in02 : vp_in 0 2 := inn (n := 0) (by omega) (by omega)
theorem in12 : vp_in 1 2 := inn (n := 1) (by omega) (by omega)
theorem z0 : (0 : Int32).toNatClampNeg = 0 := rfl
theorem sameC_ls {M : xM} {X : Int32} {p : Int32 × xM} {a : Nat} (h : sameC M p.2) : sameC M (lsT X p a).2 := by
  unfold lsT
  by_cases q : p.2 17 a = 1 ∧ p.2 16 a = X
  · rw [if_pos q]; exact sameC_enD h
  · rw [if_neg q]; exact h
theorem lessR_ls {M : xM} {X : Int32} {p : Int32 × xM} {a : Nat} (h : lessR M p.2) : lessR M (lsT X p a).2 := by
  unfold lsT
  by_cases q : p.2 17 a = 1 ∧ p.2 16 a = X
  · rw [if_pos q]; exact lessR_enD (by decide) h
  · rw [if_neg q]; exact h
def lfR (M : xM) : List Nat → Int32 → Int32
  | [], x => x
  | t :: l, x => if M 13 t = -6 then -6 else lfR M l (x_max x (M 14 t))
def wst (M : xM) (x : Int32) (a : Nat) : Int32 := if M 17 a = 3 ∨ M 17 a = 4 then x + M 20 a else x
section
variable {e s nn nt na now g : Nat} {L : List Nat} {N0 M N : xM} {post : Int32 → xM → Prop}
theorem ls_run {X : Int32} {p : Int32 × xM} (h : lessR M p.2) : (List.range na).foldl (lsT X) p = (run na M).foldl (lsT X) p := by
  refine foldJ (lsT X) (fun a => decide (M 17 a = 1)) (fun p => lessR M p.2) (List.range na) (fun p o _ hp => lessR_ls hp) (fun p o _ hq hp => ?_) p h
  unfold lsT
  rw [if_neg]
  intro q
  have := hp o q.1
  simp [this] at hq
theorem c_lose {n : Nat} (I : Iv e nn nt na now g L M) (k : ∀ M', (∀ r, r ≠ 4 → r ≠ 23 → M' r = ((List.range na).foldl (lsT (nI n)) (0, M)).2 r) → M' 4 0 = ((List.range na).foldl (lsT (nI n)) (0, M)).2 4 0 → lst (L.filter (fun a => decide (((List.range na).foldl (lsT (nI n)) (0, M)).2 17 a = 1))) M' → post ((List.range na).foldl (lsT (nI n)) (0, M)).1 M') : V_X1_loseAttemptsOn M (nI n) post := by
  have h32 := I.h32
  have nd : L.Nodup := by rw [I.r]; exact run_nd
  rw [ls_run (lessR.rf M), ← I.r] at k
  refine loopL (fun m (p : Int32 × xM) i => V_X1_loseAttemptsOn_L4 post m p.2 (nI n) p.1 i) (lsT (nI n)) (fun p => ∀ M', (∀ r, r ≠ 4 → r ≠ 23 → M' r = p.2 r) → M' 4 0 = p.2 4 0 → lst (L.filter (fun a => decide (p.2 17 a = 1))) M' → post p.1 M') L (fun i p => sameC M p.2 ∧ ∀ (j : Nat) (h : j < L.length), i ≤ j → p.2 17 L[j] = 1) ?_ ?_ ?_ (0, M) ⟨sameC.rf M, fun j h _ => (I.mem (mem_at h)).2⟩ k
  · intro m p hp hX
    have e4 := hp.1 4 (by omega) (by omega) (by omega) (by omega) (by omega)
    have e23 := hp.1 23 (by omega) (by omega) (by omega) (by omega) (by omega)
    show V_X1_loseAttemptsOn_L4 post (m + 1) p.2 (nI n) p.1 (nI L.length)
    rw [V_X1_loseAttemptsOn_L4]
    refine ⟨fun _ => c_drop (L := L) ?_ I.b200 h32 hX, fun q => absurd (by rw [e4, I.l.1]; exact len (Nat.le_refl _) (by omega)) q⟩
    unfold lst
    rw [e4, e23]; exact I.l
  · intro m i p h hp hW
    have e4 := hp.1 4 (by omega) (by omega) (by omega) (by omega) (by omega)
    have e23 := hp.1 23 (by omega) (by omega) (by omega) (by omega) (by omega)
    have hb := I.b200 _ (mem_at h)
    have hm := (I.mem (mem_at h)).1
    have hr1 := hp.2 i h (Nat.le_refl _)
    have hW : V_X1_loseAttemptsOn_L4 post m (lsT (nI n) p L[i]).2 (nI n) (lsT (nI n) p L[i]).1 (nI (i + 1)) := hW
    unfold lsT at hW
    show V_X1_loseAttemptsOn_L4 post (m + 1) p.2 (nI n) p.1 (nI i)
    rw [V_X1_loseAttemptsOn_L4, e4, I.l.1, cln (by omega : i < 1000000), e23, I.l.2 i h]
    refine ⟨fun q => absurd q (nlen h (by omega)), fun _ => ⟨inn (by omega) (by omega), fun y4 ey4 => ?_⟩⟩
    rw [ey4, cln (by omega : L[i] < 1000000)]
    refine ⟨inn hb (by omega), fun q => c_enD I.B hp.1 hm (fun y9 e9 y10 e10 => ?_), fun q y7 e7 => ?_⟩
    · rw [if_pos ⟨hr1, q⟩] at hW; rw [e9, e10, nI_1]; exact hW
    · rw [if_neg (fun z => q z.2)] at hW; rw [e7, nI_1]; exact hW
  · intro i p h hp
    refine ⟨sameC_ls hp.1, fun j hj hij => ?_⟩
    have hne : L[j] ≠ L[i] := fun z => by
      have hm : L[j] ∈ L.drop (i + 1) := by
        rw [List.mem_drop_iff_getElem]
        exact ⟨j - (i + 1), by omega, by congr 1; omega⟩
      rw [z] at hm
      exact nd_drop nd h hm
    unfold lsT
    by_cases q : p.2 17 L[i] = 1 ∧ p.2 16 L[i] = nI n
    · rw [if_pos q]
      show enD p.2 L[i] 4 17 L[j] = 1
      rw [enD_17, if_neg hne]
      exact hp.2 j hj (by omega)
    · rw [if_neg q]
      exact hp.2 j hj (by omega)
theorem r_lose {n : Nat} (h : Rel 0 nn nt na N0 M N) (B : Bd e nn nt na now g L M) (k : ∀ N', Rel 0 nn nt na N0 ((List.range na).foldl (lsT (nI n)) (0, M)).2 N' → post ((List.range na).foldl (lsT (nI n)) (0, M)).1 N') : ∃ m, V_X6_failNode_L33 post m N (nI n) 0 0 := by
  have hA := B.hA
  have key : ∃ m, ∀ N, Rel 0 nn nt na N0 M N → V_X6_failNode_L33 post m N (nI n) 0 (nI 0) := by
    refine loopO (fun m (p : Int32 × xM) i => ∀ N, Rel 0 nn nt na N0 p.2 N → V_X6_failNode_L33 post m N (nI n) p.1 i) (lsT (nI n)) (fun p => ∀ N', Rel 0 nn nt na N0 p.2 N' → post p.1 N') 0 na (fun _ p => sameC M p.2) ?_ ?_ (fun i p _ hp => sameC_ls hp) (0, M) (sameC.rf M) k
    · intro m p hp hX N h
      show V_X6_failNode_L33 post (m + 1) N (nI n) p.1 _
      rw [V_X6_failNode_L33, z0, h.cn, Nat.zero_add]
      exact ⟨in02, fun _ => hX N h, fun q => absurd (len (Nat.le_refl _) (by omega)) q⟩
    · intro m i p hi hp hW N h
      rw [Nat.zero_add] at hW ⊢
      have hW : ∀ N, Rel 0 nn nt na N0 (lsT (nI n) p i).2 N → V_X6_failNode_L33 post m N (nI n) (lsT (nI n) p i).1 (nI (i + 1)) := hW
      unfold lsT at hW
      have h17 := h.a17 hi
      have h16 := h.a16 hi
      rw [nat0] at h17 h16
      show V_X6_failNode_L33 post (m + 1) N (nI n) p.1 (nI i)
      rw [V_X6_failNode_L33, z0, h.cn, cln (by omega : i < 1000000), h17, h16]
      have i1 : vp_in (nI i) 400 := inn (by omega) (by omega)
      have hst : ∀ {Q : xM → Prop}, (∀ N', Rel 0 nn nt na N0 (enD p.2 i 4) N' → Q N') → V_X6_stops N (nI (200 * 0 + i)) 4 Q := fun hQ => r_enD h (by omega) B hp hi hQ
      rw [nat0] at hst
      refine ⟨in02, fun q => absurd q (nlen hi (by omega)), fun _ => ⟨i1, fun q => ⟨i1, fun q2 => hst (fun N' h' y17 e17 y18 e18 => ?_), fun q2 y15 e15 => ?_⟩, fun q y12 e12 => ?_⟩⟩
      · rw [if_pos ⟨q, q2⟩] at hW; rw [e17, e18, nI_1]; exact hW N' h'
      · rw [if_neg (fun z => q2 z.2)] at hW; rw [e15, nI_1]; exact hW N h
      · rw [if_neg (fun z => q z.1)] at hW; rw [e12, nI_1]; exact hW N h
  obtain ⟨m, hk⟩ := key
  exact ⟨m, hk N h⟩
theorem bd_lose {n : Nat} (B : Bd e nn nt na now g (run na M) M) : Bd e nn nt na now g (run na ((List.range na).foldl (lsT (nI n)) (0, M)).2) ((List.range na).foldl (lsT (nI n)) (0, M)).2 ∧ sameC M ((List.range na).foldl (lsT (nI n)) (0, M)).2 ∧ lessR M ((List.range na).foldl (lsT (nI n)) (0, M)).2 := by
  refine foldInv (lsT (nI n)) (fun p => Bd e nn nt na now g (run na p.2) p.2 ∧ sameC M p.2 ∧ lessR M p.2) (List.range na) (fun p o ho hp => ⟨?_, sameC_ls hp.2.1, lessR_ls hp.2.2⟩) (0, M) ⟨B, sameC.rf M, lessR.rf M⟩
  unfold lsT
  by_cases q : p.2 17 o = 1 ∧ p.2 16 o = nI n
  · rw [if_pos q]
    exact bd_end hp.1 (List.mem_range.mp ho) q.1 (by decide)
  · rw [if_neg q]; exact hp.1
theorem xmax_le {x y : Int32} (h : y ≤ x) : x_max x y = x := by
  unfold x_max
  rw [if_neg (Int32.not_lt.mpr h)]
theorem xmax_gt {x y : Int32} (h : ¬ y ≤ x) : x_max x y = y := by
  unfold x_max
  rw [if_pos (Int32.not_le.mp h)]
theorem c_lf (B : Bd e nn nt na now g L M) (k : post (lfR M (List.range nt) (-6)) M) : V_X4_lastFinish M post := by
  have hT := B.hT
  have key : ∀ d i x, i + d = nt → post (lfR M (List.range' i d) x) M → V_X4_lastFinish_L5 post (d + 1) M x (nI i) := by
    intro d
    induction d with
    | zero =>
      intro i x hi hX
      rw [V_X4_lastFinish_L5, B.eT, show i = nt by omega]
      exact ⟨fun _ => hX, fun q => absurd (len (Nat.le_refl _) (by omega)) q⟩
    | succ d ih =>
      intro i x hi hX
      rw [V_X4_lastFinish_L5, B.eT, cln (by omega : i < 1000000)]
      rw [List.range'_succ, lfR] at hX
      have i1 : vp_in (nI i) 24 := inn (by omega) (by omega)
      refine ⟨fun q => absurd q (nlen (by omega) (by omega)), fun _ => ⟨i1, fun q => ?_, fun q => ⟨i1, fun y5 e5 y6 e6 => ?_⟩⟩⟩
      · rw [if_pos q] at hX; exact hX
      · rw [if_neg q] at hX
        rw [e5, e6, nI_1]; exact ih (i + 1) _ (by omega) hX
  rw [List.range_eq_range'] at k
  exact ⟨_, key nt 0 (-6) (by omega) k⟩
theorem r_lf (h : Rel s nn nt na N0 M N) (hs : s ≤ 1) (B : Bd e nn nt na now g L M) (k : post (lfR M (List.range nt) (-6)) N) : V_X6_greatestFinish N post := by
  have hT := B.hT
  have key : ∀ d i x, i + d = nt → post (lfR M (List.range' i d) x) N → V_X6_greatestFinish_L5 post (d + 1) N x (nI i) := by
    intro d
    induction d with
    | zero =>
      intro i x hi hX
      rw [V_X6_greatestFinish_L5, h.1.2.1, B.eT, show i = nt by omega]
      exact ⟨fun _ => hX, fun q => absurd (len (Nat.le_refl _) (by omega)) q⟩
    | succ d ih =>
      intro i x hi hX
      obtain ⟨-, hc⟩ := B.2.2.1 i (by omega)
      have hiff : M 14 i = -6 ↔ M 13 i = -6 := by
        rcases hc with ⟨c1, c2⟩ | ⟨⟨c, c1, c2⟩, f, f1, f2, f3⟩
        · exact ⟨fun _ => c1, fun _ => c2⟩
        · rw [f3, c2]
          exact ⟨fun z => absurd z (nI_n6 (by omega)), fun z => absurd z (nI_n6 (by omega))⟩
      rw [V_X6_greatestFinish_L5, h.1.2.1, B.eT, h.sd, i24, cln (by omega : 24 * s + i < 1000000), h.a14 (by omega)]
      rw [List.range'_succ, lfR] at hX
      refine ⟨fun q => absurd q (nlen (by omega) (by omega)), fun _ => ⟨inn (by omega) (by omega), fun y3 e3 => ?_⟩⟩
      rw [e3]
      refine ⟨fun q => ?_, fun q => ⟨fun q2 y6 e6 => ?_, fun q2 y7 e7 => ?_⟩⟩
      · rw [if_pos (hiff.mp q)] at hX; exact hX
      · rw [if_neg (fun z => q (hiff.mpr z)), xmax_le q2] at hX
        rw [e6, nI_1]; exact ih (i + 1) _ (by omega) hX
      · rw [if_neg (fun z => q (hiff.mpr z)), xmax_gt q2] at hX
        rw [e7, nI_1]; exact ih (i + 1) _ (by omega) hX
  rw [List.range_eq_range'] at k
  exact ⟨_, key nt 0 (-6) (by omega) k⟩
theorem lf_none (l : List Nat) : ∀ x, (∃ t, t ∈ l ∧ M 13 t = -6) → lfR M l x = -6 := by
  induction l with
  | nil => intro x h; obtain ⟨t, h, -⟩ := h; cases h
  | cons a l ih =>
    intro x h
    rw [lfR]
    by_cases q : M 13 a = -6
    · rw [if_pos q]
    · rw [if_neg q]
      refine ih _ ?_
      obtain ⟨t, ht, et⟩ := h
      rcases List.mem_cons.mp ht with rfl | ht
      · exact absurd et q
      · exact ⟨t, ht, et⟩
theorem lf_some (l : List Nat) : ∀ x, (∀ t, t ∈ l → M 13 t ≠ -6 ∧ ∃ f, 1 ≤ f ∧ f ≤ 300000 ∧ M 14 t = nI f) → (l ≠ [] ∨ ∃ f, f ≤ 300000 ∧ x = nI f) → (x = -6 ∨ ∃ f, f ≤ 300000 ∧ x = nI f) → ¬ lfR M l x = -6 := by
  induction l with
  | nil =>
    intro x _ h _
    rcases h with h | ⟨f, hf, ef⟩
    · exact absurd rfl h
    · rw [lfR, ef]; exact nI_n6 (by omega)
  | cons a l ih =>
    intro x h _ h3
    obtain ⟨h1, f, f1, f2, ef⟩ := h a List.mem_cons_self
    rw [lfR, if_neg h1]
    have hx : ∃ f', f' ≤ 300000 ∧ x_max x (M 14 a) = nI f' := by
      by_cases q : M 14 a ≤ x
      · rw [xmax_le q]
        rcases h3 with rfl | h3
        · rw [ef] at q
          rw [Int32.le_iff_toInt_le, nI_toInt (by omega), show ((-6 : Int32)).toInt = -6 from by decide] at q
          omega
        · exact h3
      · rw [xmax_gt q]
        exact ⟨f, f2, ef⟩
    exact ih _ (fun t ht => h t (List.mem_cons_of_mem _ ht)) (Or.inr hx) (Or.inr hx)
theorem lf_iff (B : Bd e nn nt na now g L M) (h0 : 0 < nt) : lfR M (List.range nt) (-6) = -6 ↔ ¬ opn nt M = 0 := by
  unfold opn
  rw [List.length_eq_zero_iff, List.filter_eq_nil_iff]
  constructor
  · intro q hn
    refine lf_some (M := M) (List.range nt) (-6) (fun t ht => ?_) (Or.inl (fun z => ?_)) (Or.inl rfl) q
    · have h1 : ¬ M 13 t = -6 := by simpa using hn t ht
      refine ⟨h1, ?_⟩
      obtain ⟨-, hc⟩ := B.2.2.1 t (List.mem_range.mp ht)
      rcases hc with ⟨c1, -⟩ | ⟨-, hf⟩
      · exact absurd c1 h1
      · exact hf
    · have := congrArg List.length z
      rw [List.length_range] at this
      exact absurd this (by show ¬ nt = 0; omega)
  · intro q
    refine lf_none _ _ ?_
    refine Decidable.byContradiction (fun hn => q (fun t ht => ?_))
    intro z
    exact hn ⟨t, ht, by simpa using z⟩
theorem c_wst (B : Bd e nn nt na now g L M) (k : post ((List.range na).foldl (wst M) 0) M) : V_X0_wasted M post := by
  have hA := B.hA
  refine loopO (fun n x i => V_X0_wasted_L4 post n M x i) (wst M) (fun x => post x M) 0 na (fun _ _ => True) ?_ ?_ (fun _ _ _ _ => trivial) 0 trivial k
  · intro n x _ hX
    show V_X0_wasted_L4 post (n + 1) M x _
    rw [V_X0_wasted_L4, B.eA, Nat.zero_add]
    exact ⟨fun _ => hX, fun q => absurd (len (Nat.le_refl _) (by omega)) q⟩
  · intro n i x hi _ hW
    rw [Nat.zero_add] at hW ⊢
    have hW : V_X0_wasted_L4 post n M (wst M x i) (nI (i + 1)) := hW
    unfold wst at hW
    show V_X0_wasted_L4 post (n + 1) M x (nI i)
    have i1 : vp_in (nI i) 200 := inn (by omega) (by omega)
    rw [V_X0_wasted_L4, B.eA, cln (by omega : i < 1000000)]
    refine ⟨fun q => absurd q (nlen hi (by omega)), fun _ => ⟨i1, fun q => ⟨i1, fun y5 e5 y6 e6 => ?_⟩, fun q => ⟨i1, fun q2 => ⟨i1, fun y11 e11 y12 e12 => ?_⟩, fun q2 y9 e9 => ?_⟩⟩⟩
    · rw [if_pos (Or.inl q)] at hW; rw [e5, e6, nI_1]; exact hW
    · rw [if_pos (Or.inr q2)] at hW; rw [e11, e12, nI_1]; exact hW
    · rw [if_neg (fun z => z.elim q q2)] at hW; rw [e9, nI_1]; exact hW
theorem r_wst (h : Rel 0 nn nt na N0 M N) (B : Bd e nn nt na now g L M) (k : post ((List.range na).foldl (wst M) 0) N) : V_X6_wastedWork N post := by
  have hA := B.hA
  refine loopO (fun n x i => V_X6_wastedWork_L4 post n N x i) (wst M) (fun x => post x N) 0 na (fun _ _ => True) ?_ ?_ (fun _ _ _ _ => trivial) 0 trivial k
  · intro n x _ hX
    show V_X6_wastedWork_L4 post (n + 1) N x _
    rw [V_X6_wastedWork_L4, z0, h.cn, Nat.zero_add]
    exact ⟨in02, fun _ => hX, fun q => absurd (len (Nat.le_refl _) (by omega)) q⟩
  · intro n i x hi _ hW
    rw [Nat.zero_add] at hW ⊢
    have hW : V_X6_wastedWork_L4 post n N (wst M x i) (nI (i + 1)) := hW
    unfold wst at hW
    have h17 := h.a17 hi
    have h20 := h.a20 hi
    rw [nat0] at h17 h20
    show V_X6_wastedWork_L4 post (n + 1) N x (nI i)
    have i1 : vp_in (nI i) 400 := inn (by omega) (by omega)
    rw [V_X6_wastedWork_L4, z0, h.cn, cln (by omega : i < 1000000), h17, h20]
    refine ⟨in02, fun q => absurd q (nlen hi (by omega)), fun _ => ⟨i1, fun q => ⟨i1, fun y6 e6 y7 e7 => ?_⟩, fun q => ⟨i1, fun q2 => ⟨i1, fun y13 e13 y14 e14 => ?_⟩, fun q2 y10 e10 y11 e11 => ?_⟩⟩⟩
    · rw [if_pos (Or.inl q)] at hW; rw [e6, e7, nI_1]; exact hW
    · rw [if_pos (Or.inr q2)] at hW; rw [e13, e14, nI_1]; exact hW
    · rw [if_neg (fun z => z.elim q q2)] at hW; rw [e10, e11, nI_1, Int32.add_zero]; exact hW
end
