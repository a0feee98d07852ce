/-! Pure: nodes' scores, the first waiting task, a start. -/
def sc (M : xM) (n : Nat) : Int32 := if M 10 n ≤ 0 then 0 else M 9 n / M 10 n
def stS (M : xM) (p : Int32 × Int32) (n : Nat) : Int32 × Int32 := if M 7 n = 0 then p else if M 10 n ≤ 0 then p else (p.1 + sc M n, p.2 + 1)
def msc (M : xM) (nn : Nat) : Int32 := if ((List.range nn).foldl (stS M) (0, 0)).2 ≤ 0 then 0 else ((List.range nn).foldl (stS M) (0, 0)).1 / ((List.range nn).foldl (stS M) (0, 0)).2
def slw (M : xM) (nn n : Nat) : Int32 := if M 10 n ≤ 0 then 0 else if msc M nn * M 1 4 ≤ sc M n * 100 then 0 else 1
def wtg (M : xM) (t : Nat) : Bool := decide (M 13 t = -6 ∧ M 12 t ≤ 0)
def fw (M : xM) (nt : Nat) : Option Nat := (List.range nt).find? (wtg M)
section
variable {e s nn nt na now g : Nat} {L : List Nat} {N0 M N : xM} {post : Int32 → xM → Prop}
theorem c_score {n : Nat} (hn : n < 8) (k : post (sc M n) M) : V_X2_score M (nI n) post := by
  unfold V_X2_score
  unfold sc at k
  rw [cln (by omega : n < 1000000)]
  have i1 : vp_in (nI n) 8 := inn hn (by omega)
  refine ⟨i1, fun q => ?_, fun q => ⟨i1, i1, fun q0 => q (by rw [q0]; exact le00), ?_⟩⟩
  · rw [if_pos q] at k; exact k
  · rw [if_neg q] at k; exact k
theorem c_msc (B : Bd e nn nt na now g L M) (k : post (msc M nn) M) : V_X2_meanScore M post := by
  have hN := B.hN
  refine loopO (fun n (p : Int32 × Int32) i => V_X2_meanScore_L6 post n M p.1 p.2 i) (stS M) (fun p => post (if p.2 ≤ 0 then 0 else p.1 / p.2) M) 0 nn (fun _ _ => True) ?_ ?_ (fun _ _ _ _ => trivial) (0, 0) trivial k
  · intro n p _ hX
    show V_X2_meanScore_L6 post (n + 1) M p.1 p.2 _
    rw [V_X2_meanScore_L6, B.eN, Nat.zero_add]
    refine ⟨fun _ => ⟨fun q => ?_, fun q => ⟨fun q0 => q (by rw [q0]; exact le00), ?_⟩⟩, fun q => absurd (len (Nat.le_refl _) (by omega)) q⟩
    · rw [if_pos q] at hX; exact hX
    · rw [if_neg q] at hX; exact hX
  · intro n i p hi _ hW
    rw [Nat.zero_add] at hW ⊢
    have hW : V_X2_meanScore_L6 post n M (stS M p i).1 (stS M p i).2 (nI (i + 1)) := hW
    show V_X2_meanScore_L6 post (n + 1) M p.1 p.2 (nI i)
    rw [V_X2_meanScore_L6, B.eN, cln (by omega : i < 1000000)]
    have i1 : vp_in (nI i) 8 := inn (by omega) (by omega)
    unfold stS at hW
    refine ⟨fun q => absurd q (nlen hi (by omega)), fun _ => ⟨i1, fun q y6 e6 => ?_, fun q => ⟨i1, fun q2 y9 e9 => ?_, fun q2 => c_score (by omega) (fun y12 e12 y13 e13 y14 e14 => ?_)⟩⟩⟩
    · rw [if_pos q] at hW; rw [e6, nI_1]; exact hW
    · rw [if_neg q, if_pos q2] at hW; rw [e9, nI_1]; exact hW
    · rw [if_neg q, if_neg q2] at hW; rw [e12, e13, e14, nI_1]; exact hW
theorem c_slow (B : Bd e nn nt na now g L M) {n : Nat} (hn : n < nn) (k : post (slw M nn n) M) : V_X2_isSlow M (nI n) (M 1 4) post := by
  have hN := B.hN
  unfold V_X2_isSlow
  unfold slw at k
  rw [cln (by omega : n < 1000000)]
  refine ⟨inn (by omega) (by omega), fun q => ?_, fun q => c_score (by omega) (c_msc B ⟨fun q2 => ?_, fun q2 => ?_⟩)⟩
  · rw [if_pos q] at k; exact k
  · rw [if_neg q, if_pos q2] at k; exact k
  · rw [if_neg q, if_neg q2] at k; exact k
theorem Bd.ag (B : Bd e nn nt na now g L M) {n : Nat} (hn : n < nn) : M 10 n ≤ 0 ↔ M 10 n = 0 := by
  obtain ⟨-, -, -, -, v, hv, ev⟩ := B.2.1 n hn
  have hG := B.hG
  rw [ev]
  exact nI_z (by omega)
theorem r_score (h : Rel s nn nt na N0 M N) (hs : s ≤ 1) (B : Bd e nn nt na now g L M) {n : Nat} (hn : n < nn) (k : post (sc M n) N) : V_X6_scoreOf N (nI n) post := by
  have hN := B.hN
  unfold V_X6_scoreOf
  unfold sc at k
  rw [h.sd, i8, cln (by omega : 8 * s + n < 1000000), h.a10 hn, h.a9 hn]
  have i1 : vp_in (nI (8 * s + n)) 16 := inn (by omega) (by omega)
  refine ⟨i1, fun y2 e2 => ?_⟩
  subst e2
  refine ⟨fun q => ?_, fun q => ⟨i1, q, ?_⟩⟩
  · rw [if_pos ((B.ag hn).mpr q)] at k; exact k
  · rw [if_neg (fun z => q ((B.ag hn).mp z))] at k; exact k
theorem r_msc (h : Rel s nn nt na N0 M N) (hs : s ≤ 1) (B : Bd e nn nt na now g L M) (k : post (msc M nn) N) : V_X6_meanScore N post := by
  have hN := B.hN
  refine loopO (fun n (p : Int32 × Int32) i => V_X6_meanScore_L6 post n N p.1 p.2 i) (stS M) (fun p => post (if p.2 ≤ 0 then 0 else p.1 / p.2) N) 0 nn (fun i p => ∃ c, c ≤ i ∧ p.2 = nI c) ?_ ?_ ?_ (0, 0) ⟨0, Nat.le_refl _, rfl⟩ k
  · intro n p hj hX
    obtain ⟨c, hc, ec⟩ := hj
    show V_X6_meanScore_L6 post (n + 1) N p.1 p.2 _
    rw [V_X6_meanScore_L6, h.1.1, B.eN, Nat.zero_add]
    refine ⟨fun _ => ⟨fun q => ?_, fun q => ⟨q, ?_⟩⟩, fun q => absurd (len (Nat.le_refl _) (by omega)) q⟩
    · rw [if_pos (by rw [q]; exact le00)] at hX; exact hX
    · rw [if_neg (by rw [ec, nI_z (by omega), ← ec]; exact q)] at hX; exact hX
  · intro n i p hi _ hW
    rw [Nat.zero_add] at hW ⊢
    have hW : V_X6_meanScore_L6 post n N (stS M p i).1 (stS M p i).2 (nI (i + 1)) := hW
    show V_X6_meanScore_L6 post (n + 1) N p.1 p.2 (nI i)
    rw [V_X6_meanScore_L6, h.1.1, B.eN, cln (by omega : i < 1000000), h.a7 hi, h.sd, i8, cln (by omega : 8 * s + i < 1000000), h.a10 hi]
    unfold stS at hW
    refine ⟨fun q => absurd q (nlen hi (by omega)), fun _ => ⟨inn (by omega) (by omega), fun q y6 e6 => ?_, fun q => ⟨inn (by omega) (by omega), fun q2 y9 e9 => ?_, fun q2 => r_score h hs B hi (fun y12 e12 y13 e13 y14 e14 => ?_)⟩⟩⟩
    · rw [if_pos q] at hW; rw [e6, nI_1]; exact hW
    · rw [if_neg q, if_pos q2] at hW; rw [e9, nI_1]; exact hW
    · rw [if_neg q, if_neg q2] at hW; rw [e12, e13, e14, nI_1]; exact hW
  · intro i p hi hj
    obtain ⟨c, hc, ec⟩ := hj
    unfold stS
    by_cases q : M 7 i = 0
    · rw [if_pos q]; exact ⟨c, by omega, ec⟩
    · rw [if_neg q]
      by_cases q2 : M 10 i ≤ 0
      · rw [if_pos q2]; exact ⟨c, by omega, ec⟩
      · rw [if_neg q2]; exact ⟨c + 1, by omega, by show p.2 + 1 = _; rw [ec, nI_1]⟩
theorem r_slow (h : Rel s nn nt na N0 M N) (hs : s ≤ 1) (B : Bd e nn nt na now g L M) {n : Nat} (hn : n < nn) (k : post (slw M nn n) N) : V_X6_isSlow N (nI n) post := by
  have hN := B.hN
  unfold V_X6_isSlow
  unfold slw at k
  rw [h.sd, i8, cln (by omega : 8 * s + n < 1000000), h.a10 hn]
  refine ⟨inn (by omega) (by omega), fun q => ?_, fun q => r_score h hs B hn (r_msc h hs B ?_)⟩
  · rw [if_pos q] at k; exact k
  · rw [h.1.2.2.2.2.2.1]
    refine ⟨fun q2 => ?_, fun q2 => ?_⟩
    · rw [if_neg q, if_pos q2] at k; exact k
    · rw [if_neg q, if_neg q2] at k; exact k
theorem c_fw (B : Bd e nn nt na now g L M) (k : post (encO 0 (fw M nt)) M) : V_X4_firstWaiting M post := by
  have hT := B.hT
  have key : ∀ d i, i + d = nt → post (encO 0 ((List.range' i d).find? (wtg M))) M → V_X4_firstWaiting_L2 post (d + 1) M (nI i) := by
    intro d
    induction d with
    | zero =>
      intro i hi hX
      rw [V_X4_firstWaiting_L2, B.eT, show i = nt by omega]
      exact ⟨fun _ => hX, fun q => absurd (len (Nat.le_refl _) (by omega)) q⟩
    | succ d ih =>
      intro i hi hX
      rw [V_X4_firstWaiting_L2, B.eT]
      rw [List.range'_succ, List.find?_cons] at hX
      refine ⟨fun q => absurd q (nlen (by omega) (by omega)), fun _ => ?_⟩
      unfold V_X4_stateOf
      rw [cln (by omega : i < 1000000)]
      have i1 : vp_in (nI i) 24 := inn (by omega) (by omega)
      refine ⟨i1, fun q => ⟨i1, fun q2 => ⟨fun _ => ?_, fun z => absurd rfl z⟩, fun q2 => ⟨fun z => absurd z (by decide), fun _ y5 e5 => ?_⟩⟩, fun q => ⟨fun z => absurd z (by decide), fun _ y5 e5 => ?_⟩⟩
      · rw [show wtg M i = true by unfold wtg; simp [q, q2]] at hX
        rw [← encO0]; exact hX
      · rw [show wtg M i = false by unfold wtg; simp [q2]] at hX
        rw [e5, nI_1]; exact ih (i + 1) (by omega) hX
      · rw [show wtg M i = false by unfold wtg; simp [q]] at hX
        rw [e5, nI_1]; exact ih (i + 1) (by omega) hX
  unfold fw at k
  rw [List.range_eq_range'] at k
  exact ⟨_, key nt 0 (by omega) k⟩
theorem r_fw (h : Rel s nn nt na N0 M N) (hs : s ≤ 1) (B : Bd e nn nt na now g L M) (k : post (encO 0 (fw M nt)) N) : V_X6_firstWaiting N post := by
  have hT := B.hT
  have key : ∀ d i, i + d = nt → post (encO 0 ((List.range' i d).find? (wtg M))) N → V_X6_firstWaiting_L2 post (d + 1) N (nI i) := by
    intro d
    induction d with
    | zero =>
      intro i hi hX
      rw [V_X6_firstWaiting_L2, h.1.2.1, B.eT, show i = nt by omega]
      exact ⟨fun _ => hX, fun q => absurd (len (Nat.le_refl _) (by omega)) q⟩
    | succ d ih =>
      intro i hi hX
      rw [V_X6_firstWaiting_L2, h.1.2.1, B.eT]
      rw [List.range'_succ, List.find?_cons] at hX
      refine ⟨fun q => absurd q (nlen (by omega) (by omega)), fun _ => ?_⟩
      unfold V_X6_stateOfTask
      intro y1 e1
      rw [h.sd, i24] at e1
      subst e1
      rw [cln (by omega : 24 * s + i < 1000000), h.a13 (by omega), h.a12 (by omega)]
      have i1 : vp_in (nI (24 * s + i)) 48 := inn (by omega) (by omega)
      refine ⟨i1, fun q => ⟨i1, fun q2 => ⟨fun _ => ?_, fun z => absurd rfl z⟩, fun q2 => ⟨fun z => absurd z (by decide), fun _ y5 e5 => ?_⟩⟩, fun q => ⟨fun z => absurd z (by decide), fun _ y5 e5 => ?_⟩⟩
      · rw [show wtg M i = true by unfold wtg; simp [q, q2]] at hX
        rw [← encO0]; exact hX
      · rw [show wtg M i = false by unfold wtg; simp [q2]] at hX
        rw [e5, nI_1]; exact ih (i + 1) (by omega) hX
      · rw [show wtg M i = false by unfold wtg; simp [q]] at hX
        rw [e5, nI_1]; exact ih (i + 1) (by omega) hX
  unfold fw at k
  rw [List.range_eq_range'] at k
  exact ⟨_, key nt 0 (by omega) k⟩
/-- the memory behind a start -/
def sec (M : xM) (t : Nat) : Int32 := vp_nar .boolean (if M 12 t ≤ 0 then 0 else 1)
def fAdd (M : xM) (na rc t n : Nat) : xM := xu (xu (xu (xu (xu (xu (xu (xu (xu (xu (xu M 4 0 (nI na + 1)) 15 na (nI t)) 16 na (nI n)) 17 na 1) 18 na (sec M t)) 19 na 0) 20 na 0) 21 na 0) 22 na 0) 23 rc (nI na)) 4 10 (nI rc + 1)
def fStart (M : xM) (na rc t n : Nat) : xM := xu (xu (fAdd M na rc t n) 12 t (M 12 t + 1)) 8 n (M 8 n + 1)
theorem c_add {rc t n : Nat} {x : Int32} {post : xM → Prop} (eA : M 4 0 = nI na) (hA : na < 200) (eR : M 4 10 = nI rc) (hR : rc < 32) (hx : vp_nar .boolean x = sec M t) (k : post (fAdd M na rc t n)) : V_X0_add M (nI t) (nI n) x post := by
  unfold V_X0_add V_X0_isFull
  refine ⟨fun q => absurd q ?_, fun _ => ⟨fun _ => ⟨fun _ => ?_, fun z => absurd rfl z⟩, fun q => absurd ?_ q⟩⟩
  · rw [eA]; exact (show ¬ nI 200 ≤ nI na from nlen hA (by omega))
  · intro y4 e4 M5 e5
    rw [eA] at e4 e5
    subst e4
    rw [cln (by omega : na < 1000000)]
    have i1 : vp_in (nI na) 200 := inn hA (by omega)
    subst e5
    refine ⟨i1, fun M7 e7 => ?_⟩; subst e7
    refine ⟨i1, fun M9 e9 => ?_⟩; subst e9
    refine ⟨i1, fun M11 e11 => ?_⟩; subst e11
    refine ⟨i1, fun M13 e13 => ?_⟩; rw [hx] at e13; subst e13
    refine ⟨i1, fun M15 e15 => ?_⟩; subst e15
    refine ⟨i1, fun M17 e17 => ?_⟩; subst e17
    refine ⟨i1, fun M19 e19 => ?_⟩; subst e19
    refine ⟨i1, fun M21 e21 => ?_⟩
    have e0 : M21 4 10 = nI rc := by subst e21; exact eR
    rw [e0, cln (by omega : rc < 1000000)]
    refine ⟨inn hR (by omega), fun M23 e23 M24 e24 => ?_⟩
    have e1 : M23 4 10 = nI rc := by subst e23; exact e0
    rw [e1] at e24
    subst e24 e23 e21
    exact k
  · rw [eR]; exact (show nI rc < nI 32 from nI_lt hR (by omega))
theorem c_start {rc t n : Nat} {post : xM → Prop} (eA : M 4 0 = nI na) (hA : na < 200) (eR : M 4 10 = nI rc) (hR : rc < 32) (ht : t < 24) (hn : n < 8) (k : post (fStart M na rc t n)) : V_X1_start M (nI t) (nI n) post := by
  have i1 : vp_in (nI t) 24 := inn ht (by omega)
  have i2 : vp_in (nI n) 8 := inn hn (by omega)
  unfold V_X1_start
  rw [cln (by omega : t < 1000000), cln (by omega : n < 1000000)]
  refine ⟨i1, fun q => c_add eA hA eR hR (by unfold sec; rw [if_pos q]) ⟨i1, i1, fun M6 e6 => ⟨i2, i2, fun M9 e9 => ?_⟩⟩, fun q => c_add eA hA eR hR (by unfold sec; rw [if_neg q]) ⟨i1, i1, fun M6 e6 => ⟨i2, i2, fun M9 e9 => ?_⟩⟩⟩
  · subst e9 e6; exact k
  · subst e9 e6; exact k
theorem r_starts {rc t n : Nat} {post : xM → Prop} (h : Rel s nn nt na N0 M N) (hs : s ≤ 1) (B : Bd e nn nt na now g L M) (hA : na < 200) (ht : t < nt) (hn : n < nn) (k : ∀ N', Rel s nn nt (na + 1) N0 (fStart M na rc t n) N' → post N') : V_X6_starts N (nI t) (nI n) post := by
  have hT := B.hT
  have hN := B.hN
  have i1 : vp_in (nI (200 * s + na)) 400 := inn (by omega) (by omega)
  have i2 : vp_in (nI (24 * s + t)) 48 := inn (by omega) (by omega)
  have i3 : vp_in (nI (8 * s + n)) 16 := inn (by omega) (by omega)
  have i4 : vp_in (nI s) 2 := inn (by omega) (by omega)
  unfold V_X6_starts
  refine r_last h hs B ?_
  rw [cln (by omega : 200 * s + na < 1000000)]
  have l6 : ∀ r, 15 ≤ r → lim nn nt na r ≤ na := fun r hr => by
    unfold lim
    rw [if_neg (by omega), if_neg (by omega)]
    exact Nat.le_refl _
  have hm : Rel s nn nt na N0 (fAdd M na rc t n) N := (((((((((((h.wc 4 0 _ (Or.inl rfl)).wc 15 na _ (Or.inr (Or.inr ⟨by omega, by omega, l6 15 (by omega)⟩))).wc 16 na _ (Or.inr (Or.inr ⟨by omega, by omega, l6 16 (by omega)⟩))).wc 17 na _ (Or.inr (Or.inr ⟨by omega, by omega, l6 17 (by omega)⟩))).wc 18 na _ (Or.inr (Or.inr ⟨by omega, by omega, l6 18 (by omega)⟩))).wc 19 na _ (Or.inr (Or.inr ⟨by omega, by omega, l6 19 (by omega)⟩))).wc 20 na _ (Or.inr (Or.inr ⟨by omega, by omega, l6 20 (by omega)⟩))).wc 21 na _ (Or.inr (Or.inl (by omega)))).wc 22 na _ (Or.inr (Or.inl (by omega)))).wc 23 rc _ (Or.inr (Or.inl (by omega)))).wc 4 10 _ (Or.inl rfl))
  have m12 : fAdd M na rc t n 12 t = M 12 t := rfl
  have m8 : fAdd M na rc t n 8 n = M 8 n := rfl
  refine ⟨i1, fun N4 e4 => ?_⟩
  have h4 : Rel s nn nt na N0 (fAdd M na rc t n) N4 := by rw [e4]; exact hm.wn 15 na (nI t) (by omega) (by omega) (l6 15 (by omega))
  refine ⟨i1, fun N6 e6 => ?_⟩
  have h6 : Rel s nn nt na N0 (fAdd M na rc t n) N6 := by rw [e6]; exact h4.wn 16 na (nI n) (by omega) (by omega) (l6 16 (by omega))
  refine ⟨i1, fun N8 e8 => ?_⟩
  have h8 : Rel s nn nt na N0 (fAdd M na rc t n) N8 := by rw [e8]; exact h6.wn 19 na 0 (by omega) (by omega) (l6 19 (by omega))
  refine ⟨i1, fun N10 e10 => ?_⟩
  have h10 : Rel s nn nt na N0 (fAdd M na rc t n) N10 := by rw [e10]; exact h8.wn 20 na 0 (by omega) (by omega) (l6 20 (by omega))
  refine ⟨i1, fun N12 e12 => ?_⟩
  have h12 : Rel s nn nt na N0 (fAdd M na rc t n) N12 := by rw [e12]; exact h10.wn 17 na 1 (by omega) (by omega) (l6 17 (by omega))
  rw [h12.sd, i24, cln (by omega : 24 * s + t < 1000000), h12.a12 ht, m12]
  have tail : ∀ N16, N16 = xu N12 12 (200 * s + na) (sec M t) → (vp_in (24 * N16 0 11 + nI t) 48 ∧ (vp_in (24 * N16 0 11 + nI t) 48 ∧ ∀ N19 : xM, N19 = xu N16 15 (24 * N16 0 11 + nI t).toNatClampNeg (N16 15 (24 * N16 0 11 + nI t).toNatClampNeg + 1) → (vp_in (8 * N19 0 11 + nI n) 16 ∧ (vp_in (8 * N19 0 11 + nI n) 16 ∧ ∀ N22 : xM, N22 = xu N19 16 (8 * N19 0 11 + nI n).toNatClampNeg (N19 16 (8 * N19 0 11 + nI n).toNatClampNeg + 1) → (vp_in (N22 0 11) 2 ∧ (vp_in (N22 0 11) 2 ∧ ∀ N25 : xM, N25 = xu N22 5 (N22 0 11).toNatClampNeg (N22 5 (N22 0 11).toNatClampNeg + 1) → post N25)))))) := by
    intro N16 e16
    have h16 : Rel s nn nt na N0 (fAdd M na rc t n) N16 := by rw [e16]; exact h12.wn 18 na (sec M t) (by omega) (by omega) (l6 18 (by omega))
    rw [h16.sd, i24, cln (by omega : 24 * s + t < 1000000), h16.a12 ht, m12]
    refine ⟨i2, i2, fun N19 e19 => ?_⟩
    have h19 : Rel s nn nt na N0 (xu (fAdd M na rc t n) 12 t (M 12 t + 1)) N19 := by rw [e19]; exact h16.w12 ht
    rw [h19.sd, i8, cln (by omega : 8 * s + n < 1000000), h19.a8 hn, show (xu (fAdd M na rc t n) 12 t (M 12 t + 1)) 8 n = M 8 n from rfl]
    refine ⟨i3, i3, fun N22 e22 => ?_⟩
    have h22 : Rel s nn nt na N0 (fStart M na rc t n) N22 := by rw [e22]; exact h19.w8 hn
    rw [h22.sd, cln (by omega : s < 1000000), h22.cn, nI_1]
    refine ⟨i4, i4, fun N25 e25 => k N25 ?_⟩
    rw [e25]
    refine h22.grow (fun r g1 g2 => ?_)
    subst e22 e19 e16 e12 e10 e8 e6 e4
    rcases (show r = 15 ∨ r = 16 ∨ r = 17 ∨ r = 18 ∨ r = 19 ∨ r = 20 by omega) with rfl | rfl | rfl | rfl | rfl | rfl <;> simp [rho, fStart, fAdd, xu, upd]
  refine ⟨i2, fun q => ⟨i1, fun N16 e16 => tail N16 ?_⟩, fun q => ⟨i1, fun N16 e16 => tail N16 ?_⟩⟩
  · rw [e16]; unfold sec; rw [if_pos q]
  · rw [e16]; unfold sec; rw [if_neg q]
end
