/-! Pure: the working step of a tick. -/
def fWk (M : xM) (a t n : Nat) : xM := xu (xu (xu (xu (xu (xu M 19 a (M 19 a + 1)) 20 a (M 20 a + M 5 n)) 21 a (x_min 1000 ((M 20 a + M 5 n) * 1000 / M 11 t))) 22 a (if M 19 a + 1 ≤ 0 then 0 else x_min 1000 ((M 20 a + M 5 n) * 1000 / M 11 t) / (M 19 a + 1))) 10 n (M 10 n + 1)) 9 n (M 9 n + M 5 n)
def stW (M : xM) (a : Nat) : xM := fWk M a (M 15 a).toNatClampNeg (M 16 a).toNatClampNeg
/-- the rows that the working step leaves -/
def sameW (M M' : xM) : Prop := ∀ r, r ≠ 9 → r ≠ 10 → r ≠ 19 → r ≠ 20 → r ≠ 21 → r ≠ 22 → M' r = M r
theorem sameW_st {M M' : xM} {a : Nat} (h : sameW M M') : sameW M (stW M' a) := by
  intro r h1 h2 h3 h4 h5 h6
  unfold stW fWk
  rw [xu_r h1, xu_r h2, xu_r h6, xu_r h5, xu_r h4, xu_r h3]
  exact h r h1 h2 h3 h4 h5 h6
theorem foldI {σ : Type} (f : σ → Nat → σ) (L : List Nat) (J : Nat → σ → Prop) (hJ : ∀ i s (h : i < L.length), J i s → J (i + 1) (f s L[i])) (s : σ) (h0 : J 0 s) : J L.length (L.foldl f s) := by
  have key : ∀ k i s, i + k = L.length → J i s → J L.length ((L.drop i).foldl f s) := by
    intro k
    induction k with
    | zero =>
      intro i s hi hj
      rw [show i = L.length by omega] at hj ⊢
      rw [List.drop_length]
      exact hj
    | succ k ih =>
      intro i s hi hj
      have hl : i < L.length := by omega
      rw [List.drop_eq_getElem_cons hl]
      exact ih (i + 1) _ (by omega) (hJ i s hl hj)
  exact key L.length 0 s (by omega) h0
section
variable {e s nn nt na now g : Nat} {L : List Nat} {N0 M N : xM}
theorem r_last2 {post : Int32 → xM → Prop} (h : Rel s nn nt na N0 M N) (hs : s ≤ 1) (k : post (nI (200 * s + na)) N) : V_X6_last N post := by
  unfold V_X6_last
  rw [h.sd, cln (by omega : s < 1000000), h.cn, i200]
  exact ⟨inn (by omega) (by omega), k⟩
theorem c_grow {a t n w : Nat} {post : xM → Prop} (ha : a < 200) (hn : n < 8) (ew : M 11 t = nI w) (h1 : 1 ≤ w) (h2 : w ≤ 10000) (k : post (xu (xu (xu (xu M 19 a (M 19 a + 1)) 20 a (M 20 a + M 5 n)) 21 a (x_min 1000 ((M 20 a + M 5 n) * 1000 / M 11 t))) 22 a (if M 19 a + 1 ≤ 0 then 0 else x_min 1000 ((M 20 a + M 5 n) * 1000 / M 11 t) / (M 19 a + 1)))) : V_X0_grow M (nI a) (M 5 n) (M 11 t) post := by
  have i1 : vp_in (nI a) 200 := inn ha (by omega)
  have hw0 : ¬ M 11 t ≤ 0 := by rw [ew]; exact nI_nle (by omega) (by omega)
  unfold V_X0_grow
  rw [cln (by omega : a < 1000000)]
  refine ⟨i1, i1, fun M3 e3 => ⟨i1, i1, fun M6 e6 => ⟨fun q => absurd q hw0, fun _ => ⟨i1, fun q => hw0 (by rw [q]; exact le00), fun y21 e21 => ⟨i1, fun M23 e23 => ?_⟩⟩⟩⟩⟩
  have x20 : M3 20 a = M 20 a := by rw [e3]; rfl
  rw [x20] at e6
  have y20 : M6 20 a = M 20 a + M 5 n := by rw [e6]; exact xu_s
  rw [y20] at e21
  have x19 : M23 19 a = M 19 a + 1 := by rw [e23, e6, e3]; simp [xu, upd]
  have x21 : M23 21 a = x_min 1000 y21 := by rw [e23]; exact xu_s
  rw [x19, x21]
  refine ⟨i1, fun q => ⟨i1, fun M27 e27 => ?_⟩, fun q => ⟨i1, i1, fun q0 => q (by rw [q0]; exact le00), i1, fun M27 e27 => ?_⟩⟩
  · rw [if_pos q] at k
    rw [e27, e23, e6, e3, e21]; exact k
  · rw [if_neg q] at k
    rw [e27, e23, e6, e3, e21]; exact k
theorem c_work {post : xM → Prop} (I : Iv e nn nt na now g L M) (k : post (L.foldl stW M)) : V_X1_doWork M post := by
  have h32 := I.h32
  refine loopL (fun n M' i => V_X1_doWork_L2 post n M' i) stW post L (fun _ M' => sameW M M') ?_ ?_ (fun i M' h hj => sameW_st hj) M (fun r _ _ _ _ _ _ => rfl) k
  · intro n M' hj hX
    show V_X1_doWork_L2 post (n + 1) M' (nI L.length)
    rw [V_X1_doWork_L2, hj 4 (by omega) (by omega) (by omega) (by omega) (by omega) (by omega), I.l.1]
    exact ⟨fun _ => hX, fun q => absurd (len (Nat.le_refl _) (by omega)) q⟩
  · intro n i M' h hj hW
    show V_X1_doWork_L2 post (n + 1) M' (nI i)
    have hm := I.mem (mem_at h)
    have hb := I.b200 _ (mem_at h)
    obtain ⟨⟨t, ht, et, -⟩, ⟨m, hm1, em⟩, -⟩ := I.B.2.2.2.1 _ hm.1
    obtain ⟨⟨w, w1, w2, ew⟩, -⟩ := I.B.2.2.1 t ht
    have hT := I.B.hT
    have hN := I.B.hN
    have e15 : M' 15 L[i] = nI t := by rw [hj 15 (by omega) (by omega) (by omega) (by omega) (by omega) (by omega)]; exact et
    have e16 : M' 16 L[i] = nI m := by rw [hj 16 (by omega) (by omega) (by omega) (by omega) (by omega) (by omega)]; exact em
    have e11 : M' 11 t = nI w := by rw [hj 11 (by omega) (by omega) (by omega) (by omega) (by omega) (by omega)]; exact ew
    have e23 : M' 23 i = nI L[i] := by rw [hj 23 (by omega) (by omega) (by omega) (by omega) (by omega) (by omega)]; exact I.l.2 i h
    have e4 : M' 4 10 = nI L.length := by rw [hj 4 (by omega) (by omega) (by omega) (by omega) (by omega) (by omega)]; exact I.l.1
    have i8 : vp_in (nI m) 8 := inn (by omega) (by omega)
    have hW : V_X1_doWork_L2 post n (stW M' L[i]) (nI (i + 1)) := hW
    unfold stW at hW
    rw [e15, e16, cln (by omega : t < 1000000), cln (by omega : m < 1000000)] at hW
    rw [V_X1_doWork_L2, e4, cln (by omega : i < 1000000), e23]
    refine ⟨fun q => absurd q (nlen h (by omega)), fun _ => ⟨inn (by omega) (by omega), fun y3 ey3 => ?_⟩⟩
    rw [ey3, cln (by omega : L[i] < 1000000), e16, e15]
    refine ⟨inn hb (by omega), fun y5 ey5 => ?_⟩
    rw [ey5, cln (by omega : m < 1000000), cln (by omega : t < 1000000)]
    refine ⟨i8, inn hb (by omega), inn (by omega) (by omega), c_grow hb (by omega) e11 w1 w2 ⟨i8, i8, fun M12 e12 => ⟨i8, i8, i8, fun M16 ex16 y17 e17 => ?_⟩⟩⟩
    rw [e17, nI_1, ex16, e12]
    exact hW
theorem r_works {post : xM → Prop} (h : Rel s nn nt na N0 M N) (hs : s ≤ 1) (I : Iv e nn nt na now g L M) (k : ∀ N', Rel s nn nt na N0 (L.foldl stW M) N' → post N') : V_X6_works N post := by
  have hA := I.B.hA
  unfold V_X6_works
  refine r_first h ?_
  have key : ∃ n, ∀ N, Rel s nn nt na N0 M N → V_X6_works_L5 post n N (nI (200 * s)) := by
    refine loopO (fun n M' i => ∀ N, Rel s nn nt na N0 M' N → V_X6_works_L5 post n N i) (fun M' a => if M 17 a = 1 then stW M' a else M') (fun M' => ∀ N', Rel s nn nt na N0 M' N' → post N') (200 * s) na (fun _ M' => sameW M M') ?_ ?_ ?_ M (fun r _ _ _ _ _ _ => rfl) (by rw [run_fold stW, ← I.r]; exact k)
    · intro n M' hj hX N h
      show V_X6_works_L5 post (n + 1) N _
      rw [V_X6_works_L5]
      exact r_last2 h hs ⟨fun _ => hX N h, fun q => absurd (len (Nat.le_refl _) (by omega)) q⟩
    · intro n i M' hi hj hW N h
      show V_X6_works_L5 post (n + 1) N _
      obtain ⟨⟨t, ht, et, -⟩, ⟨m, hm1, em⟩, -⟩ := I.B.2.2.2.1 i hi
      have hT := I.B.hT
      have hN := I.B.hN
      have e15 : M' 15 i = nI t := by rw [hj 15 (by omega) (by omega) (by omega) (by omega) (by omega) (by omega)]; exact et
      have e16 : M' 16 i = nI m := by rw [hj 16 (by omega) (by omega) (by omega) (by omega) (by omega) (by omega)]; exact em
      have e17 : M' 17 i = M 17 i := by rw [hj 17 (by omega) (by omega) (by omega) (by omega) (by omega) (by omega)]
      have i1 : vp_in (nI (200 * s + i)) 400 := inn (by omega) (by omega)
      have i3 : vp_in (nI (8 * s + m)) 16 := inn (by omega) (by omega)
      have i8' : vp_in (nI m) 8 := inn (by omega) (by omega)
      rw [V_X6_works_L5]
      refine r_last2 h hs ⟨fun q => absurd q (nlen (by omega) (by omega)), fun _ => ?_⟩
      rw [cln (by omega : 200 * s + i < 1000000), h.a17 hi, e17, h.a16 hi, e16]
      refine ⟨i1, fun q => ⟨i1, fun y10 e10 => ?_⟩, fun q y8 e8 => ?_⟩
      · rw [if_pos q] at hW
        rw [e10, cln (by omega : m < 1000000)]
        refine ⟨i1, i1, fun N13 e13 => ?_⟩
        rw [h.a19 hi] at e13
        have h13 : Rel s nn nt na N0 (xu M' 19 i (M' 19 i + 1)) N13 := by rw [e13]; exact h.w19
        refine ⟨i1, i8', i1, fun N17 ex17 => ?_⟩
        rw [h13.a20 hi, h13.a5 hm1] at ex17
        have h17 : Rel s nn nt na N0 (xu (xu M' 19 i (M' 19 i + 1)) 20 i (M' 20 i + M' 5 m)) N17 := by rw [ex17]; exact h13.w20
        have h17b : Rel s nn nt na N0 (xu (xu (xu (xu M' 19 i (M' 19 i + 1)) 20 i (M' 20 i + M' 5 m)) 21 i (x_min 1000 ((M' 20 i + M' 5 m) * 1000 / M' 11 t))) 22 i (if M' 19 i + 1 ≤ 0 then 0 else x_min 1000 ((M' 20 i + M' 5 m) * 1000 / M' 11 t) / (M' 19 i + 1))) N17 := (h17.wc 21 i _ (Or.inr (Or.inl (by omega)))).wc 22 i _ (Or.inr (Or.inl (by omega)))
        rw [h17b.sd, i8, cln (by omega : 8 * s + m < 1000000)]
        refine ⟨i3, i3, fun N20 e20 => ?_⟩
        rw [h17b.a10 hm1] at e20
        have h20 : Rel s nn nt na N0 (xu (xu (xu (xu (xu M' 19 i (M' 19 i + 1)) 20 i (M' 20 i + M' 5 m)) 21 i (x_min 1000 ((M' 20 i + M' 5 m) * 1000 / M' 11 t))) 22 i (if M' 19 i + 1 ≤ 0 then 0 else x_min 1000 ((M' 20 i + M' 5 m) * 1000 / M' 11 t) / (M' 19 i + 1))) 10 m (M' 10 m + 1)) N20 := by rw [e20]; exact h17b.w10 hm1
        rw [h20.sd, i8, cln (by omega : 8 * s + m < 1000000)]
        refine ⟨i3, i8', i3, fun N24 e24 y25 e25 => ?_⟩
        rw [h20.a9 hm1, h20.a5 hm1] at e24
        rw [e25, nI_1]
        refine hW N24 ?_
        unfold stW
        rw [e15, e16, cln (by omega : t < 1000000), cln (by omega : m < 1000000), e24]
        exact h20.w9 hm1
      · rw [if_neg q] at hW
        rw [e8, nI_1]
        exact hW N h
    · intro i M' hi hj
      by_cases q : M 17 i = 1
      · rw [if_pos q]; exact sameW_st hj
      · rw [if_neg q]; exact hj
  obtain ⟨n, hk⟩ := key
  exact ⟨n, hk N h⟩
theorem run_nd : (run na M).Nodup := by
  unfold run
  exact List.nodup_range.sublist (by apply List.filter_sublist)
theorem nd_drop (h : L.Nodup) {i : Nat} (hi : i < L.length) : L[i] ∉ L.drop (i + 1) := by
  have h1 : (L.drop i).Nodup := h.sublist (List.drop_sublist i L)
  rw [List.drop_eq_getElem_cons hi, List.nodup_cons] at h1
  exact h1.1
/-- what the working step keeps -/
theorem iv_work (I : Iv 0 nn nt na now g L M) (hg : g ≤ 256000) : Iv 100 nn nt na now (g + 1) L (L.foldl stW M) := by
  have nd : L.Nodup := by rw [I.r]; exact run_nd
  have key := foldI stW L (fun i M' => sameW M M' ∧ (∀ n, n < nn → ∃ v, v ≤ 32 * g + i ∧ M' 10 n = nI v) ∧ (∀ a, a ∈ L.drop i → M' 19 a = M 19 a ∧ M' 20 a = M 20 a) ∧ ∀ a, a < na → ((∃ v, v ≤ g + 1 ∧ M' 19 a = nI v) ∧ (∃ d, d ≤ 10100 ∧ M' 20 a = nI d ∧ (M 17 a = 1 → d ≤ 10099)) ∧ M' 21 a = pg M' a ∧ M' 22 a = rt M' a)) ?_ M ?_
  · obtain ⟨hj, h10, -, hat⟩ := key
    obtain ⟨⟨a0, bn, bt, ba, bg⟩, il, ir⟩ := I
    generalize L.foldl stW M = M' at hj h10 hat ⊢
    have e0 := hj 0 (by omega) (by omega) (by omega) (by omega) (by omega) (by omega)
    have e2 := hj 2 (by omega) (by omega) (by omega) (by omega) (by omega) (by omega)
    have e3 := hj 3 (by omega) (by omega) (by omega) (by omega) (by omega) (by omega)
    have e4 := hj 4 (by omega) (by omega) (by omega) (by omega) (by omega) (by omega)
    have e5 := hj 5 (by omega) (by omega) (by omega) (by omega) (by omega) (by omega)
    have e6 := hj 6 (by omega) (by omega) (by omega) (by omega) (by omega) (by omega)
    have e7 := hj 7 (by omega) (by omega) (by omega) (by omega) (by omega) (by omega)
    have e8 := hj 8 (by omega) (by omega) (by omega) (by omega) (by omega) (by omega)
    have e11 := hj 11 (by omega) (by omega) (by omega) (by omega) (by omega) (by omega)
    have e13 := hj 13 (by omega) (by omega) (by omega) (by omega) (by omega) (by omega)
    have e14 := hj 14 (by omega) (by omega) (by omega) (by omega) (by omega) (by omega)
    have e15 := hj 15 (by omega) (by omega) (by omega) (by omega) (by omega) (by omega)
    have e16 := hj 16 (by omega) (by omega) (by omega) (by omega) (by omega) (by omega)
    have e17 := hj 17 (by omega) (by omega) (by omega) (by omega) (by omega) (by omega)
    have e23 := hj 23 (by omega) (by omega) (by omega) (by omega) (by omega) (by omega)
    have h32 : L.length ≤ 32 := Iv.h32 ⟨⟨a0, bn, bt, ba, bg⟩, il, ir⟩
    have hc : ∀ n, cntN M' L n = cntN M L n := fun n => cntN_congr (fun a _ => by rw [e16])
    refine ⟨⟨?_, ?_, ?_, ?_, by omega⟩, ?_, ?_⟩
    · unfold cnts
      rw [e2, e3, e4, e0]; exact a0
    · intro n hn
      obtain ⟨b1, b2, b3, b4, -⟩ := bn n hn
      obtain ⟨v, hv, ev⟩ := h10 n hn
      unfold nodeOk
      rw [e5, e6, e7, e8, hc n]
      exact ⟨b1, b2, b3, b4, v, by omega, ev⟩
    · intro t ht
      unfold taskOk
      rw [e11, e13, e14]; exact bt t ht
    · intro a ha
      obtain ⟨b1, b2, -⟩ := ba a ha
      obtain ⟨c1, ⟨d, c2, c3, c4⟩, c5, c6⟩ := hat a ha
      unfold attOk
      rw [e15, e16, e17, e13]
      exact ⟨b1, b2, c1, ⟨d, c2, c3, fun q => by have := c4 q; omega⟩, c5, c6⟩
    · unfold lst
      rw [e4, e23]; exact il
    · rw [ir]
      exact (run_congr (fun a _ => by rw [e17])).symm
  · intro i M' hi hJ
    obtain ⟨hj, h10, hdr, hat⟩ := hJ
    have hm := I.mem (mem_at hi)
    obtain ⟨⟨t, ht, et, -⟩, ⟨m, hm1, em⟩, ⟨v0, hv0, ev0⟩, ⟨d0, hd0, ed0, hrun⟩, -⟩ := I.B.2.2.2.1 _ hm.1
    obtain ⟨⟨sp, hsp, esp⟩, -⟩ := I.B.2.1 m hm1
    have hT := I.B.hT
    have hN := I.B.hN
    have e15 : M' 15 L[i] = nI t := by rw [hj 15 (by omega) (by omega) (by omega) (by omega) (by omega) (by omega)]; exact et
    have e16 : M' 16 L[i] = nI m := by rw [hj 16 (by omega) (by omega) (by omega) (by omega) (by omega) (by omega)]; exact em
    have e5 : M' 5 m = nI sp := by rw [hj 5 (by omega) (by omega) (by omega) (by omega) (by omega) (by omega)]; exact esp
    have hin : L[i] ∈ L.drop i := by rw [List.drop_eq_getElem_cons hi]; exact List.mem_cons_self
    obtain ⟨u19, u20⟩ := hdr _ hin
    have hst : stW M' L[i] = fWk M' L[i] t m := by
      unfold stW
      rw [e15, e16, cln (by omega : t < 1000000), cln (by omega : m < 1000000)]
    have k19 : ∀ a, stW M' L[i] 19 a = if a = L[i] then M' 19 L[i] + 1 else M' 19 a := fun a => by rw [hst]; rfl
    have k20 : ∀ a, stW M' L[i] 20 a = if a = L[i] then M' 20 L[i] + M' 5 m else M' 20 a := fun a => by rw [hst]; rfl
    have k21 : ∀ a, stW M' L[i] 21 a = if a = L[i] then x_min 1000 ((M' 20 L[i] + M' 5 m) * 1000 / M' 11 t) else M' 21 a := fun a => by rw [hst]; rfl
    have k22 : ∀ a, stW M' L[i] 22 a = if a = L[i] then (if M' 19 L[i] + 1 ≤ 0 then 0 else x_min 1000 ((M' 20 L[i] + M' 5 m) * 1000 / M' 11 t) / (M' 19 L[i] + 1)) else M' 22 a := fun a => by rw [hst]; rfl
    have k10 : ∀ n, stW M' L[i] 10 n = if n = m then M' 10 m + 1 else M' 10 n := fun n => by rw [hst]; rfl
    have k15 : stW M' L[i] 15 = M' 15 := by rw [hst]; rfl
    have k11 : stW M' L[i] 11 = M' 11 := by rw [hst]; rfl
    refine ⟨sameW_st hj, ?_, ?_, ?_⟩
    · intro n hn
      obtain ⟨v, hv, ev⟩ := h10 n hn
      rw [k10]
      by_cases q : n = m
      · subst q
        rw [if_pos rfl, ev, nI_1]
        exact ⟨v + 1, by omega, rfl⟩
      · rw [if_neg q]
        exact ⟨v, by omega, ev⟩
    · intro a ha
      have hne : a ≠ L[i] := fun q => nd_drop nd hi (by rw [← q]; exact ha)
      rw [k19, k20, if_neg hne, if_neg hne]
      exact hdr a (by rw [List.drop_eq_getElem_cons hi]; exact List.mem_cons_of_mem _ ha)
    · intro a ha
      by_cases q : a = L[i]
      · subst q
        refine ⟨⟨v0 + 1, by omega, ?_⟩, ⟨d0 + sp, by have := hrun hm.2; omega, ?_, fun _ => by have := hrun hm.2; omega⟩, ?_, ?_⟩
        · rw [k19, if_pos rfl, u19, ev0, nI_1]
        · rw [k20, if_pos rfl, u20, ed0, e5, nI_add]
        · unfold pg
          rw [k21, if_pos rfl, k20, if_pos rfl, k15, e15, cln (by omega : t < 1000000), k11]
        · unfold rt
          rw [k22, if_pos rfl, k19, if_pos rfl, k21, if_pos rfl]
      · obtain ⟨c1, c2, c3, c4⟩ := hat a ha
        refine ⟨?_, ?_, ?_, ?_⟩
        · rw [k19, if_neg q]; exact c1
        · rw [k20, if_neg q]; exact c2
        · unfold pg
          rw [k21, if_neg q, k20, if_neg q, k15, k11]; exact c3
        · unfold rt
          rw [k22, if_neg q, k19, if_neg q, k21, if_neg q]; exact c4
  · refine ⟨fun r _ _ _ _ _ _ => rfl, fun n hn => ?_, fun a _ => ⟨rfl, rfl⟩, fun a ha => ?_⟩
    · obtain ⟨-, -, -, -, v, hv, ev⟩ := I.B.2.1 n hn
      exact ⟨v, by omega, ev⟩
    · obtain ⟨-, -, ⟨v, hv, ev⟩, ⟨d, hd, ed, hr⟩, c5, c6⟩ := I.B.2.2.2.1 a ha
      exact ⟨⟨v, by omega, ev⟩, ⟨d, hd, ed, fun q => by have := hr q; omega⟩, c5, c6⟩
end
