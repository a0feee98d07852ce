/-! Pure: base rows: memories, numbers, loops as folds. -/
theorem xu_at (M : xM) (k j : Nat) (x : Int32) (r c : Nat) : xu M k j x r c = if r = k ∧ c = j then x else M r c := by
  unfold xu
  by_cases h1 : r = k
  · subst h1
    by_cases h2 : c = j <;> simp [upd, h2]
  · simp [h1]
theorem xu_r {M : xM} {k j r : Nat} {x : Int32} (h : r ≠ k) : xu M k j x r = M r := by
  unfold xu
  rw [if_neg h]
theorem xu_s {M : xM} {k j : Nat} {x : Int32} : xu M k j x k j = x := by simp [xu, upd]
theorem xu_c {M : xM} {k j c : Nat} {x : Int32} (h : c ≠ j) : xu M k j x k c = M k c := by simp [xu, upd, h]
theorem cln {n : Nat} (h : n < 1000000) : (nI n).toNatClampNeg = n := nI_clamp (by omega)
theorem inn {n N : Nat} (h : n < N) (hN : N ≤ 1000000) : vp_in (nI n) N := vp_in_nI h (by omega)
theorem len {a b : Nat} (h : a ≤ b) (hb : b < 1000000) : nI a ≤ nI b := nI_le h (by omega)
theorem nlen {a b : Nat} (h : a < b) (hb : b < 1000000) : ¬ nI b ≤ nI a := nI_ge h (by omega)
theorem i24 (s t : Nat) : 24 * nI s + nI t = nI (24 * s + t) := by
  rw [show (24 : Int32) = nI 24 from rfl, pk_mul, nI_add]
theorem i8 (s t : Nat) : 8 * nI s + nI t = nI (8 * s + t) := by
  rw [show (8 : Int32) = nI 8 from rfl, pk_mul, nI_add]
theorem i200 (s t : Nat) : 200 * nI s + nI t = nI (200 * s + t) := by
  rw [show (200 : Int32) = nI 200 from rfl, pk_mul, nI_add]
theorem i200' (s : Nat) : 200 * nI s = nI (200 * s) := by
  rw [show (200 : Int32) = nI 200 from rfl, pk_mul]
/-- a loop over a list that lies in a row -/
theorem loopL {σ : Type} (W : Nat → σ → Int32 → Prop) (f : σ → Nat → σ) (X : σ → Prop) (L : List Nat) (J : Nat → σ → Prop) (hx : ∀ n s, J L.length s → X s → W (n + 1) s (nI L.length)) (hs : ∀ n i s (h : i < L.length), J i s → W n (f s L[i]) (nI (i + 1)) → W (n + 1) s (nI i)) (hJ : ∀ i s (h : i < L.length), J i s → J (i + 1) (f s L[i])) (s : σ) (h0 : J 0 s) (h : X (L.foldl f s)) : ∃ n, W n s 0 := by
  have key : ∀ k i s, i + k = L.length → J i s → X ((L.drop i).foldl f s) → W (k + 1) s (nI i) := by
    intro k
    induction k with
    | zero =>
      intro i s hi hj h
      have : i = L.length := by omega
      subst this
      rw [List.drop_length] at h
      exact hx _ _ hj h
    | succ k ih =>
      intro i s hi hj h
      have hl : i < L.length := by omega
      rw [List.drop_eq_getElem_cons hl] at h
      exact hs _ i s hl hj (ih (i + 1) _ (by omega) (hJ i s hl hj) h)
  exact ⟨_, key L.length 0 s (by omega) h0 h⟩
/-- a loop over places o, o + 1 .. -/
theorem loopO {σ : Type} (W : Nat → σ → Int32 → Prop) (f : σ → Nat → σ) (X : σ → Prop) (o m : Nat) (J : Nat → σ → Prop) (hx : ∀ n s, J m s → X s → W (n + 1) s (nI (o + m))) (hs : ∀ n i s, i < m → J i s → W n (f s i) (nI (o + i + 1)) → W (n + 1) s (nI (o + i))) (hJ : ∀ i s, i < m → J i s → J (i + 1) (f s i)) (s : σ) (h0 : J 0 s) (h : X ((List.range m).foldl f s)) : ∃ n, W n s (nI o) := by
  have key : ∀ k i s, i + k = m → J i s → X ((List.range' i k).foldl f s) → W (k + 1) s (nI (o + i)) := by
    intro k
    induction k with
    | zero =>
      intro i s hi hj hX
      obtain rfl : i = m := by omega
      exact hx _ _ hj hX
    | succ k ih =>
      intro i s hi hj h
      exact hs _ i s (by omega) hj (ih (i + 1) _ (by omega) (hJ i s (by omega) hj) h)
  rw [List.range_eq_range'] at h
  exact ⟨_, key m 0 s (by omega) h0 h⟩
/-- what does nothing outside q may be left out -/
theorem foldJ {σ : Type} (f : σ → Nat → σ) (q : Nat → Bool) (J : σ → Prop) (l : List Nat) (hJ : ∀ s a, a ∈ l → J s → J (f s a)) (hq : ∀ s a, a ∈ l → q a = false → J s → f s a = s) : ∀ s, J s → l.foldl f s = (l.filter q).foldl f s := by
  induction l with
  | nil => intro s _; rfl
  | cons a l ih =>
    intro s hs
    have ih' := ih (fun s b hb h => hJ s b (List.mem_cons_of_mem _ hb) h) (fun s b hb h1 h2 => hq s b (List.mem_cons_of_mem _ hb) h1 h2)
    rw [List.foldl_cons]
    by_cases ha : q a = true
    · rw [List.filter_cons_of_pos ha, List.foldl_cons]
      exact ih' _ (hJ s a List.mem_cons_self hs)
    · have ha' : q a = false := by simpa using ha
      rw [List.filter_cons_of_neg ha, hq s a List.mem_cons_self ha' hs]
      exact ih' s hs
/-- the same fold for two functions that agree -/
theorem foldE {σ : Type} (f g : σ → Nat → σ) (J : σ → Prop) (l : List Nat) (hJ : ∀ s a, a ∈ l → J s → J (f s a)) (he : ∀ s a, a ∈ l → J s → f s a = g s a) : ∀ s, J s → l.foldl f s = l.foldl g s := by
  induction l with
  | nil => intro s _; rfl
  | cons a l ih =>
    intro s hs
    rw [List.foldl_cons, List.foldl_cons, ← he s a List.mem_cons_self hs]
    exact ih (fun s b hb h => hJ s b (List.mem_cons_of_mem _ hb) h) (fun s b hb h => he s b (List.mem_cons_of_mem _ hb) h) _ (hJ s a List.mem_cons_self hs)
theorem foldInv {σ : Type} (f : σ → Nat → σ) (J : σ → Prop) (l : List Nat) (hJ : ∀ s a, a ∈ l → J s → J (f s a)) : ∀ s, J s → J (l.foldl f s) := by
  induction l with
  | nil => intro s h; exact h
  | cons a l ih =>
    intro s hs
    rw [List.foldl_cons]
    exact ih (fun s b hb h => hJ s b (List.mem_cons_of_mem _ hb) h) _ (hJ s a List.mem_cons_self hs)
