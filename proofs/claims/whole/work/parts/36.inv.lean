/-! Pure: what a start keeps; how many run at most. -/
def tot (M : xM) (L : List Nat) : Nat → Nat
  | 0 => 0
  | m + 1 => tot M L m + cntN M L m
theorem cntN_cons (M : xM) (a : Nat) (L : List Nat) (k : Nat) : cntN M (a :: L) k = (if M 16 a = nI k then 1 else 0) + cntN M L k := by
  unfold cntN
  by_cases h : M 16 a = nI k
  · rw [List.filter_cons_of_pos (by simpa using h), if_pos h, List.length_cons]; omega
  · rw [List.filter_cons_of_neg (by simpa using h), if_neg h]; omega
theorem tot_cons (M : xM) (a n : Nat) (L : List Nat) (hn : M 16 a = nI n) (h0 : n < 1000) : ∀ m, m < 1000 → tot M (a :: L) m = tot M L m + (if n < m then 1 else 0) := by
  intro m
  induction m with
  | zero => intro _; simp [tot]
  | succ m ih =>
    intro hm
    show tot M (a :: L) m + cntN M (a :: L) m = tot M L m + cntN M L m + _
    rw [ih (by omega), cntN_cons, hn]
    by_cases h : n = m
    · subst h; rw [if_neg (by omega), if_pos rfl, if_pos (by omega)]; omega
    · rw [if_neg (fun q => h ((nI_eq (by omega) (by omega)).mp q))]
      by_cases h2 : n < m
      · rw [if_pos h2, if_pos (by omega)]; omega
      · rw [if_neg h2, if_neg (by omega)]; omega
theorem tot_nil (M : xM) : ∀ m, tot M [] m = 0 := by
  intro m
  induction m with
  | zero => rfl
  | succ m ih => show tot M [] m + cntN M [] m = 0; rw [ih]; rfl
theorem len_tot (M : xM) {m : Nat} (hm : m < 1000) : ∀ L : List Nat, (∀ a ∈ L, ∃ n, n < m ∧ M 16 a = nI n) → L.length = tot M L m := by
  intro L
  induction L with
  | nil => intro _; rw [tot_nil]; rfl
  | cons a L ih =>
    intro h
    obtain ⟨n, hn, en⟩ := h a List.mem_cons_self
    rw [tot_cons M a n L en (by omega) m hm, if_pos hn, List.length_cons, ih (fun b hb => h b (List.mem_cons_of_mem _ hb))]
theorem tot_le (M : xM) (L : List Nat) : ∀ m, (∀ n, n < m → cntN M L n ≤ 4) → tot M L m ≤ 4 * m := by
  intro m
  induction m with
  | zero => intro _; exact Nat.le_refl _
  | succ m ih =>
    intro h
    have h1 := ih (fun n hn => h n (by omega))
    have h2 := h m (by omega)
    show tot M L m + cntN M L m ≤ _
    omega
theorem tot_lt (M : xM) (L : List Nat) {k : Nat} (hk : cntN M L k < 4) : ∀ m, (∀ n, n < m → cntN M L n ≤ 4) → k < m → tot M L m < 4 * m := by
  intro m
  induction m with
  | zero => intro _ h; omega
  | succ m ih =>
    intro h hkm
    have h2 := h m (by omega)
    show tot M L m + cntN M L m < _
    by_cases q : k = m
    · subst q
      have := tot_le M L k (fun n hn => h n (by omega))
      omega
    · have := ih (fun n hn => h n (by omega)) (by omega)
      omega
section
variable {e nn nt na now g : Nat} {L : List Nat} {M : xM}
theorem Iv.B (I : Iv e nn nt na now g L M) : Bd e nn nt na now g L M := I.1
theorem Iv.l (I : Iv e nn nt na now g L M) : lst L M := I.2.1
theorem Iv.r (I : Iv e nn nt na now g L M) : L = run na M := I.2.2
theorem Iv.mem (I : Iv e nn nt na now g L M) {a : Nat} (h : a ∈ L) : a < na ∧ M 17 a = 1 := by
  rw [I.r] at h
  exact run_mem.mp h
theorem Iv.tk (I : Iv e nn nt na now g L M) : ∀ a ∈ L, ∃ t, t < 24 ∧ M 15 a = nI t := by
  intro a h
  obtain ⟨⟨t, ht, et, -⟩, -⟩ := I.B.2.2.2.1 a (I.mem h).1
  exact ⟨t, by have := I.B.hT; omega, et⟩
theorem Iv.b200 (I : Iv e nn nt na now g L M) : ∀ a ∈ L, a < 200 := fun a h => by have := (I.mem h).1; have := I.B.hA; omega
theorem Bd.lenL (B : Bd e nn nt na now g L M) (h : ∀ a ∈ L, a < na) : L.length = tot M L nn := len_tot M (by have := B.hN; omega) L (fun a ha => by
  obtain ⟨-, ⟨n, hn, en⟩, -⟩ := B.2.2.2.1 a (h a ha)
  exact ⟨n, hn, en⟩)
theorem Bd.c4 (B : Bd e nn nt na now g L M) : ∀ n, n < nn → cntN M L n ≤ 4 := fun n hn => by
  obtain ⟨-, ⟨v, hv, -, hc⟩, -⟩ := B.2.1 n hn
  omega
theorem Iv.h32 (I : Iv e nn nt na now g L M) : L.length ≤ 32 := by
  rw [I.B.lenL (fun a h => (I.mem h).1)]
  have := tot_le M L nn I.B.c4
  have := I.B.hN
  omega
theorem Iv.l32 (I : Iv e nn nt na now g L M) {n : Nat} (hn : n < nn) (hc : cntN M L n < 4) : L.length < 32 := by
  rw [I.B.lenL (fun a h => (I.mem h).1)]
  have := tot_lt M L hc nn I.B.c4 hn
  have := I.B.hN
  omega
theorem zdiv {w : Nat} (h1 : 1 ≤ w) (h2 : w ≤ 10000) : x_min 1000 (0 * 1000 / nI w) = 0 := by
  rw [show (0 : Int32) * 1000 = nI 0 from rfl, pk_div (by omega) (by omega) (by omega), Nat.zero_div]
  rfl
theorem run_congr {M' : xM} (h : ∀ a, a < na → M' 17 a = M 17 a) : run na M' = run na M := by
  unfold run
  refine List.filter_congr (fun a ha => ?_)
  rw [h a (List.mem_range.mp ha)]
theorem cntN_congr {M' : xM} {n : Nat} (h : ∀ a, a ∈ L → M' 16 a = M 16 a) : cntN M' L n = cntN M L n := by
  unfold cntN
  congr 1
  refine List.filter_congr (fun a ha => ?_)
  rw [h a ha]
theorem iv_start {t n v : Nat} (I : Iv e nn nt na now g L M) (hA : na < 200) (ht : t < nt) (h13 : M 13 t = -6) (hn : n < nn) (ev : M 6 n = nI v) (hv : v ≤ 4) (hc : cntN M L n < v) : Iv e nn nt (na + 1) now g (L ++ [na]) (fStart M na L.length t n) := by
  have B := I.B
  obtain ⟨⟨⟨a1, a2⟩, ⟨a3, a4⟩, ⟨a5, a6⟩, a7, a8⟩, bn, bt, ba, bg⟩ := B
  have hne : ∀ a, a ∈ L → a ≠ na := fun a h => by have := (I.mem h).1; omega
  have f16 : ∀ a, fStart M na L.length t n 16 a = if a = na then nI n else M 16 a := fun a => rfl
  have f17 : ∀ a, fStart M na L.length t n 17 a = if a = na then 1 else M 17 a := fun a => rfl
  have f15 : ∀ a, fStart M na L.length t n 15 a = if a = na then nI t else M 15 a := fun a => rfl
  have f19 : ∀ a, fStart M na L.length t n 19 a = if a = na then 0 else M 19 a := fun a => rfl
  have f20 : ∀ a, fStart M na L.length t n 20 a = if a = na then 0 else M 20 a := fun a => rfl
  have f21 : ∀ a, fStart M na L.length t n 21 a = if a = na then 0 else M 21 a := fun a => rfl
  have f22 : ∀ a, fStart M na L.length t n 22 a = if a = na then 0 else M 22 a := fun a => rfl
  have f11 : fStart M na L.length t n 11 = M 11 := rfl
  have f13 : fStart M na L.length t n 13 = M 13 := rfl
  have f8 : ∀ k, fStart M na L.length t n 8 k = if k = n then M 8 n + 1 else M 8 k := fun k => rfl
  have cc : ∀ k, k < nn → cntN (fStart M na L.length t n) (L ++ [na]) k = cntN M L k + (if k = n then 1 else 0) := by
    intro k hk
    have e1 : cntN (fStart M na L.length t n) L k = cntN M L k := cntN_congr (fun a h => by rw [f16, if_neg (hne a h)])
    have e2 : cntN (fStart M na L.length t n) [na] k = if k = n then 1 else 0 := by
      rw [cntN_cons, f16, if_pos rfl]
      by_cases q : k = n
      · subst q; rw [if_pos rfl, if_pos rfl]; rfl
      · rw [if_neg (fun z => q ((nI_eq (by omega) (by omega)).mp z).symm), if_neg q]; rfl
    unfold cntN at e1 e2 ⊢
    rw [List.filter_append, List.length_append, e1, e2]
  refine ⟨⟨⟨⟨a1, a2⟩, ⟨a3, a4⟩, ⟨?_, by omega⟩, a7, a8⟩, ?_, bt, ?_, bg⟩, ⟨?_, ?_⟩, ?_⟩
  · show nI na + 1 = nI (na + 1)
    exact nI_1 na
  · intro k hk
    obtain ⟨b1, ⟨w, b2, b3, b4⟩, b5, b6, b7⟩ := bn k hk
    refine ⟨b1, ⟨w, b2, b3, ?_⟩, b5, ?_, b7⟩
    · rw [cc k hk]
      by_cases q : k = n
      · subst q
        have : v = w := (nI_eq (by omega) (by omega)).mp (by rw [← ev, b3])
        rw [if_pos rfl]; omega
      · rw [if_neg q]; omega
    · rw [cc k hk, f8]
      by_cases q : k = n
      · subst q
        rw [if_pos rfl, if_pos rfl, b6, nI_1]
      · rw [if_neg q, if_neg q, b6]; rfl
  · intro a ha
    by_cases q : a = na
    · subst q
      obtain ⟨⟨w, w1, w2, ew⟩, -⟩ := bt t ht
      refine ⟨⟨t, ht, by rw [f15, if_pos rfl], fun _ => h13⟩, ⟨n, hn, by rw [f16, if_pos rfl]⟩, ⟨0, by omega, by rw [f19, if_pos rfl]; rfl⟩, ⟨0, by omega, by rw [f20, if_pos rfl]; rfl, fun _ => by omega⟩, ?_, ?_⟩
      · unfold pg
        rw [f21, if_pos rfl, f20, if_pos rfl, f15, if_pos rfl, cln (by omega : t < 1000000), f11, ew, zdiv w1 w2]
      · unfold rt
        rw [f22, if_pos rfl, f19, if_pos rfl, if_pos le00]
    · obtain ⟨⟨t', b1, b2, b3⟩, b4, b5, b6, b7, b8⟩ := ba a (by omega)
      refine ⟨⟨t', b1, ?_, ?_⟩, ?_, ?_, ?_, ?_, ?_⟩
      · rw [f15, if_neg q]; exact b2
      · rw [f17, if_neg q]; exact b3
      · rw [f16, if_neg q]; exact b4
      · rw [f19, if_neg q]; exact b5
      · rw [f20, if_neg q, f17, if_neg q]; exact b6
      · unfold pg
        rw [f21, if_neg q, f20, if_neg q, f15, if_neg q, f11]; exact b7
      · unfold rt
        rw [f22, if_neg q, f19, if_neg q, f21, if_neg q]; exact b8
  · rw [List.length_append]
    show nI L.length + 1 = nI (L.length + 1)
    exact nI_1 _
  · intro i hi
    rw [List.length_append, List.length_singleton] at hi
    have f23 : fStart M na L.length t n 23 i = if i = L.length then nI na else M 23 i := rfl
    rw [f23]
    by_cases q : i = L.length
    · subst q; rw [if_pos rfl, List.getElem_concat_length rfl]
    · rw [if_neg q, List.getElem_append_left (by omega)]
      exact I.l.2 i (by omega)
  · have e1 : run (na + 1) (fStart M na L.length t n) = run na (fStart M na L.length t n) ++ [na] := by
      unfold run
      rw [List.range_succ, List.filter_append]
      congr 1
      rw [List.filter_cons_of_pos (by rw [f17, if_pos rfl]; rfl)]
      rfl
    rw [e1, run_congr (fun a ha => by rw [f17, if_neg (by omega)]), ← I.r]
end
