/-! Pure: the state's invariant, the picture of the reference in the class's memory. -/
/-- progress and rate as the document has them -/
def pg (M : xM) (a : Nat) : Int32 := x_min 1000 (M 20 a * 1000 / M 11 (M 15 a).toNatClampNeg)
def rt (M : xM) (a : Nat) : Int32 := if M 19 a ≤ 0 then 0 else M 21 a / M 19 a
/-- how many of L run on node n -/
def cntN (M : xM) (L : List Nat) (n : Nat) : Nat := (L.filter (fun a => decide (M 16 a = nI n))).length
def nodeOk (g : Nat) (L : List Nat) (M : xM) (n : Nat) : Prop :=
  (∃ v, v ≤ 100 ∧ M 5 n = nI v) ∧ (∃ v, v ≤ 4 ∧ M 6 n = nI v ∧ cntN M L n ≤ v) ∧ (M 7 n = 0 ∨ M 7 n = 1) ∧ M 8 n = nI (cntN M L n) ∧ ∃ v, v ≤ 32 * g ∧ M 10 n = nI v
def taskOk (M : xM) (t : Nat) : Prop :=
  (∃ w, 1 ≤ w ∧ w ≤ 10000 ∧ M 11 t = nI w) ∧ ((M 13 t = -6 ∧ M 14 t = -6) ∨ ((∃ c, c < 200 ∧ M 13 t = nI c) ∧ ∃ f, 1 ≤ f ∧ f ≤ 300000 ∧ M 14 t = nI f))
def attOk (e nn nt g : Nat) (M : xM) (a : Nat) : Prop :=
  (∃ t, t < nt ∧ M 15 a = nI t ∧ (M 17 a = 1 → M 13 t = -6)) ∧ (∃ n, n < nn ∧ M 16 a = nI n) ∧ (∃ v, v ≤ g ∧ M 19 a = nI v) ∧ (∃ d, d ≤ 10100 ∧ M 20 a = nI d ∧ (M 17 a = 1 → d ≤ 9999 + e)) ∧ M 21 a = pg M a ∧ M 22 a = rt M a
/-- the list of the running ones, as the row of the class has it -/
def lst (L : List Nat) (M : xM) : Prop := M 4 10 = nI L.length ∧ ∀ (i : Nat) (h : i < L.length), M 23 i = nI L[i]
def run (na : Nat) (M : xM) : List Nat := (List.range na).filter (fun a => decide (M 17 a = 1))
/-- counts -/
def cnts (nn nt na now : Nat) (M : xM) : Prop := (M 2 0 = nI nn ∧ nn ≤ 8) ∧ (M 3 0 = nI nt ∧ nt ≤ 24) ∧ (M 4 0 = nI na ∧ na ≤ 200) ∧ M 0 4 = nI now ∧ now ≤ 256000
/-- all but the list's own row -/
def Bd (e nn nt na now g : Nat) (L : List Nat) (M : xM) : Prop := cnts nn nt na now M ∧ (∀ n, n < nn → nodeOk g L M n) ∧ (∀ t, t < nt → taskOk M t) ∧ (∀ a, a < na → attOk e nn nt g M a) ∧ g ≤ 256001
def Iv (e nn nt na now g : Nat) (L : List Nat) (M : xM) : Prop := Bd e nn nt na now g L M ∧ lst L M ∧ L = run na M
/-! the reference's memory -/
def rho (r : Nat) : Nat := if r = 5 then 1 else if r = 6 then 2 else if r = 7 then 3 else if r = 8 then 16 else if r = 9 then 18 else if r = 10 then 17 else if r = 11 then 4 else if r = 12 then 15 else if r = 13 then 13 else if r = 14 then 14 else if r = 15 then 7 else if r = 16 then 8 else if r = 17 then 11 else if r = 18 then 12 else if r = 19 then 9 else 10
def ofs (s r : Nat) : Nat := if r ≤ 7 then 0 else if r ≤ 10 then 8 * s else if r = 11 then 0 else if r ≤ 14 then 24 * s else 200 * s
def lim (nn nt na r : Nat) : Nat := if r ≤ 10 then nn else if r ≤ 14 then nt else na
def Hd (s na : Nat) (M N : xM) : Prop := N 0 0 = M 2 0 ∧ N 0 4 = M 3 0 ∧ N 0 7 = M 1 1 ∧ N 0 8 = M 1 2 ∧ N 0 9 = M 1 3 ∧ N 0 10 = M 1 4 ∧ N 0 11 = nI s ∧ N 5 s = nI na ∧ N 6 s = M 0 4
def own1 (r j : Nat) : Prop := (r = 5 ∧ j = 1) ∨ (r = 6 ∧ j = 1) ∨ (7 ≤ r ∧ r ≤ 12 ∧ 200 ≤ j) ∨ (13 ≤ r ∧ r ≤ 15 ∧ 24 ≤ j) ∨ (16 ≤ r ∧ r ≤ 18 ∧ 8 ≤ j)
/-- what is not there yet is zero in the reference's own half -/
def Zr (nn nt : Nat) (N : xM) : Prop := (∀ j, nn ≤ j → j < 8 → N 16 j = 0 ∧ N 17 j = 0 ∧ N 18 j = 0) ∧ (∀ t, nt ≤ t → t < 24 → N 15 t = 0)
def Rel (s nn nt na : Nat) (N0 M N : xM) : Prop := Hd s na M N ∧ (∀ r j, 5 ≤ r → r ≤ 20 → j < lim nn nt na r → N (rho r) (ofs s r + j) = M r j) ∧ N 0 6 = N0 0 6 ∧ (s = 1 → ∀ r j, ¬ own1 r j → N r j = N0 r j) ∧ (s = 0 → Zr nn nt N)
theorem rho_inj : ∀ r, r < 21 → ∀ r', r' < 21 → 5 ≤ r → 5 ≤ r' → rho r = rho r' → r = r' := by decide +kernel
theorem rho_0 : ∀ r, r < 21 → 5 ≤ r → rho r ≠ 0 ∧ rho r ≠ 5 ∧ rho r ≠ 6 := by decide +kernel
theorem own_a : ∀ r, r < 11 → 8 ≤ r → 16 ≤ rho r ∧ rho r ≤ 18 := by decide +kernel
theorem own_b : ∀ r, r < 15 → 12 ≤ r → 13 ≤ rho r ∧ rho r ≤ 15 := by decide +kernel
theorem own_c : ∀ r, r < 21 → 15 ≤ r → 7 ≤ rho r ∧ rho r ≤ 12 := by decide +kernel
theorem rho_own (r : Nat) (h1 : r < 21) (h2 : 8 ≤ r) (h3 : r ≠ 11) : (16 ≤ rho r ∧ rho r ≤ 18 ∧ r ≤ 10) ∨ (13 ≤ rho r ∧ rho r ≤ 15 ∧ 11 < r ∧ r ≤ 14) ∨ (7 ≤ rho r ∧ rho r ≤ 12 ∧ 14 < r) := by
  rcases Nat.lt_or_ge r 11 with h | h
  · have := own_a r h h2
    exact Or.inl ⟨this.1, this.2, by omega⟩
  · rcases Nat.lt_or_ge r 15 with h' | h'
    · have := own_b r h' (by omega)
      exact Or.inr (Or.inl ⟨this.1, this.2, by omega, by omega⟩)
    · have := own_c r h1 h'
      exact Or.inr (Or.inr ⟨this.1, this.2, by omega⟩)
theorem ofs_own {r j : Nat} (h1 : r ≤ 20) (h2 : 8 ≤ r) (h3 : r ≠ 11) : own1 (rho r) (ofs 1 r + j) := by
  rcases rho_own r (by omega) h2 h3 with ⟨a, b, c⟩ | ⟨a, b, c, d⟩ | ⟨a, b, c⟩
  · refine Or.inr (Or.inr (Or.inr (Or.inr ⟨a, b, ?_⟩)))
    unfold ofs
    rw [if_neg (by omega), if_pos (by omega)]
    omega
  · refine Or.inr (Or.inr (Or.inr (Or.inl ⟨a, b, ?_⟩)))
    unfold ofs
    rw [if_neg (by omega), if_neg (by omega), if_neg (by omega), if_pos (by omega)]
    omega
  · refine Or.inr (Or.inr (Or.inl ⟨a, b, ?_⟩))
    unfold ofs
    rw [if_neg (by omega), if_neg (by omega), if_neg (by omega), if_neg (by omega)]
    omega
/-- a write on both sides -/
theorem Rel.wr {s nn nt na : Nat} {N0 M N : xM} (h : Rel s nn nt na N0 M N) (r j : Nat) (x : Int32) (h1 : r ≤ 20) (h2 : 8 ≤ r) (h3 : r ≠ 11) (h4 : r ≤ 12 → j < lim nn nt na r) : Rel s nn nt na N0 (xu M r j x) (xu N (rho r) (ofs s r + j) x) := by
  obtain ⟨hd, ha, hk⟩ := h
  obtain ⟨z0, z5, z6⟩ := rho_0 r (by omega) (by omega)
  refine ⟨?_, ?_, ?_⟩
  · unfold Hd
    rw [xu_r (Ne.symm z0), xu_r (Ne.symm z5), xu_r (Ne.symm z6), xu_r (show 2 ≠ r by omega), xu_r (show 3 ≠ r by omega), xu_r (show 1 ≠ r by omega), xu_r (show 0 ≠ r by omega)]
    exact hd
  · intro r' j' g1 g2 g3
    rw [xu_at, xu_at]
    by_cases hr : r' = r
    · subst hr
      by_cases hj : j' = j
      · subst hj
        simp
      · rw [if_neg (by omega), if_neg (by omega)]
        exact ha r' j' g1 g2 g3
    · rw [if_neg (fun q => hr (rho_inj r' (by omega) r (by omega) g1 (by omega) q.1)), if_neg (fun q => hr q.1)]
      exact ha r' j' g1 g2 g3
  · refine ⟨by rw [xu_r (Ne.symm z0)]; exact hk.1, fun hs r' j' ho => ?_, fun hs => ?_⟩
    · subst hs
      rw [xu_at, if_neg]
      · exact hk.2.1 rfl r' j' ho
      · rintro ⟨rfl, rfl⟩
        exact ho (ofs_own h1 h2 h3)
    · obtain ⟨b1, b2⟩ := hk.2.2 hs
      subst hs
      refine ⟨fun j' j1 j2 => ?_, fun t t1 t2 => ?_⟩
      · rw [xu_at, xu_at, xu_at, if_neg, if_neg, if_neg]
        · exact b1 j' j1 j2
        all_goals
          rintro ⟨q1, q2⟩
          have hr : r = 8 ∨ r = 9 ∨ r = 10 := by
            rcases rho_own r (by omega) h2 h3 with ⟨_, _, _⟩ | ⟨_, _, _, _⟩ | ⟨_, _, _⟩ <;> omega
          have h5 := h4 (by omega)
          unfold lim at h5
          unfold ofs at q2
          rw [if_pos (by omega)] at h5
          rw [if_neg (by omega), if_pos (by omega)] at q2
          omega
      · rw [xu_at, if_neg]
        · exact b2 t t1 t2
        · rintro ⟨q1, q2⟩
          have hr : r = 12 := by
            rcases rho_own r (by omega) h2 h3 with ⟨_, _, _⟩ | ⟨_, _, _, _⟩ | ⟨_, _, _⟩
            · omega
            · exact rho_inj r (by omega) 12 (by omega) (by omega) (by omega) q1.symm
            · omega
          subst hr
          have h5 : j < nt := h4 (by omega)
          have q2 : t = 24 * 0 + j := q2
          omega
/-- a write on the class's side alone: counts of attempts, progress, rate, the list; or beyond what is there -/
theorem Rel.wc {s nn nt na : Nat} {N0 M N : xM} (h : Rel s nn nt na N0 M N) (r j : Nat) (x : Int32) (h1 : r = 4 ∨ 21 ≤ r ∨ (5 ≤ r ∧ r ≤ 20 ∧ lim nn nt na r ≤ j)) : Rel s nn nt na N0 (xu M r j x) N := by
  obtain ⟨hd, ha, hk⟩ := h
  refine ⟨?_, ?_, hk⟩
  · unfold Hd
    rw [xu_r (show 2 ≠ r by omega), xu_r (show 3 ≠ r by omega), xu_r (show 1 ≠ r by omega), xu_r (show 0 ≠ r by omega)]
    exact hd
  · intro r' j' g1 g2 g3
    rw [xu_at, if_neg]
    · exact ha r' j' g1 g2 g3
    · rintro ⟨rfl, rfl⟩
      omega
/-- a write on the reference's side alone, beyond what is there -/
theorem Rel.wn {s nn nt na : Nat} {N0 M N : xM} (h : Rel s nn nt na N0 M N) (r j : Nat) (x : Int32) (h1 : r ≤ 20) (h2 : 15 ≤ r) (h4 : lim nn nt na r ≤ j) : Rel s nn nt na N0 M (xu N (rho r) (ofs s r + j) x) := by
  obtain ⟨hd, ha, hk⟩ := h
  obtain ⟨z0, z5, z6⟩ := rho_0 r (by omega) (by omega)
  refine ⟨?_, ?_, ?_⟩
  · unfold Hd
    rw [xu_r (Ne.symm z0), xu_r (Ne.symm z5), xu_r (Ne.symm z6)]
    exact hd
  · intro r' j' g1 g2 g3
    rw [xu_at, if_neg]
    · exact ha r' j' g1 g2 g3
    · rintro ⟨q1, q2⟩
      have := rho_inj r' (by omega) r (by omega) g1 (by omega) q1
      subst this
      omega
  · refine ⟨by rw [xu_r (Ne.symm z0)]; exact hk.1, fun hs r' j' ho => ?_, fun hs => ?_⟩
    · subst hs
      rw [xu_at, if_neg]
      · exact hk.2.1 rfl r' j' ho
      · rintro ⟨rfl, rfl⟩
        exact ho (ofs_own h1 (by omega) (by omega))
    · obtain ⟨b1, b2⟩ := hk.2.2 hs
      have hr := own_c r (by omega) h2
      refine ⟨fun j' j1 j2 => ?_, fun t t1 t2 => ?_⟩
      · rw [xu_r (by omega), xu_r (by omega), xu_r (by omega)]
        exact b1 j' j1 j2
      · rw [xu_r (by omega)]
        exact b2 t t1 t2
/-- one attempt more -/
theorem Rel.grow {s nn nt na : Nat} {N0 M N : xM} (h : Rel s nn nt na N0 M N) (hr : ∀ r, 15 ≤ r → r ≤ 20 → N (rho r) (200 * s + na) = M r na) : Rel s nn nt (na + 1) N0 M (xu N 5 s (nI (na + 1))) := by
  obtain ⟨hd, ha, hk⟩ := h
  refine ⟨?_, ?_, ?_⟩
  · obtain ⟨a1, a2, a3, a4, a5, a6, a7, a8, a9⟩ := hd
    exact ⟨a1, a2, a3, a4, a5, a6, a7, xu_s, a9⟩
  · intro r j g1 g2 g3
    rw [xu_r (rho_0 r (by omega) g1).2.1]
    by_cases hc : r ≤ 14
    · refine ha r j g1 g2 ?_
      unfold lim at g3 ⊢
      by_cases q : r ≤ 10
      · rw [if_pos q] at g3 ⊢; exact g3
      · rw [if_neg q, if_pos hc] at g3 ⊢; exact g3
    · have e1 : ofs s r = 200 * s := by
        unfold ofs
        rw [if_neg (by omega), if_neg (by omega), if_neg (by omega), if_neg (by omega)]
      have e2 : ∀ n, lim nn nt n r = n := by
        intro n
        unfold lim
        rw [if_neg (by omega), if_neg (by omega)]
      rw [e2] at g3
      by_cases hj : j = na
      · subst hj
        rw [e1]
        exact hr r (by omega) g2
      · exact ha r j g1 g2 (by rw [e2]; omega)
  · refine ⟨by rw [xu_r (by omega)]; exact hk.1, fun hs r j ho => ?_, hk.2.2⟩
    subst hs
    rw [xu_at, if_neg]
    · exact hk.2.1 rfl r j ho
    · rintro ⟨rfl, rfl⟩
      exact ho (Or.inl ⟨rfl, rfl⟩)
