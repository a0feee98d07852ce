/-! Pure: what the committing step keeps, and what it counts. -/
def opn (nt : Nat) (M : xM) : Nat := ((List.range nt).filter (fun t => decide (M 13 t = -6))).length
theorem cnt_rm (M : xM) (a n : Nat) : ∀ L : List Nat, L.Nodup → a ∈ L → cntN M L n = cntN M (L.filter (fun o => decide (o ≠ a))) n + (if M 16 a = nI n then 1 else 0) := by
  intro L
  induction L with
  | nil => intro _ h; cases h
  | cons b L ih =>
    intro nd hm
    rw [List.nodup_cons] at nd
    by_cases q : b = a
    · subst q
      have h1 : L.filter (fun o => decide (o ≠ b)) = L := by
        rw [List.filter_eq_self]
        intro o ho
        simp
        rintro rfl
        exact nd.1 ho
      rw [List.filter_cons_of_neg (by simp), h1, cntN_cons]
      omega
    · have hm2 : a ∈ L := by
        rcases List.mem_cons.mp hm with z | z
        · exact absurd z.symm q
        · exact z
      rw [List.filter_cons_of_pos (by simpa using q), cntN_cons, cntN_cons, ih nd.2 hm2]
      omega
theorem flip_len {p p' : Nat → Bool} {t : Nat} (h1 : p t = true) (h2 : p' t = false) (h3 : ∀ x, x ≠ t → p x = p' x) : ∀ l : List Nat, l.Nodup → t ∈ l → (l.filter p).length = (l.filter p').length + 1 := by
  intro l
  induction l with
  | nil => intro _ h; cases h
  | cons b l ih =>
    intro nd hm
    rw [List.nodup_cons] at nd
    by_cases q : b = t
    · subst q
      have e1 : l.filter p = l.filter p' := List.filter_congr (fun x hx => h3 x (by rintro rfl; exact nd.1 hx))
      rw [List.filter_cons_of_pos h1, List.filter_cons_of_neg (by rw [h2]; decide), e1, List.length_cons]
    · have hm2 : t ∈ l := by
        rcases List.mem_cons.mp hm with z | z
        · exact absurd z.symm q
        · exact z
      have := ih nd.2 hm2
      by_cases z : p b = true
      · rw [List.filter_cons_of_pos z, List.filter_cons_of_pos (by rw [← h3 b q]; exact z), List.length_cons, List.length_cons, this]
      · rw [List.filter_cons_of_neg z, List.filter_cons_of_neg (by rw [← h3 b q]; exact z), this]
section
variable {e s nn nt na now g : Nat} {L : List Nat} {N0 M N : xM}
theorem run_end {a : Nat} {st : Int32} (hs : st ≠ 1) : run na (enD M a st) = (run na M).filter (fun o => decide (o ≠ a)) := by
  unfold run
  rw [List.filter_filter]
  refine List.filter_congr (fun o _ => ?_)
  rw [enD_17]
  by_cases q : o = a
  · rw [if_pos q]; simp [q, hs]
  · rw [if_neg q]; simp [q]
theorem bd_end {a : Nat} {st : Int32} (B : Bd e nn nt na now g (run na M) M) (ha : a < na) (h1 : M 17 a = 1) (hs : st ≠ 1) : Bd e nn nt na now g (run na (enD M a st)) (enD M a st) := by
  have hT := B.hT
  have hN := B.hN
  obtain ⟨⟨t, ht, et, -⟩, ⟨m, hm, em⟩, -⟩ := B.2.2.2.1 a ha
  have hmem : a ∈ run na M := run_mem.mpr ⟨ha, h1⟩
  have e16 : enD M a st 16 = M 16 := enD_r (by omega) (by omega) (by omega)
  have cc : ∀ n, cntN M (run na M) n = cntN (enD M a st) (run na (enD M a st)) n + (if M 16 a = nI n then 1 else 0) := by
    intro n
    rw [cnt_rm M a n _ run_nd hmem, run_end hs, cntN_congr (M := M) (M' := enD M a st) (fun o _ => by rw [e16])]
  have e8 : ∀ n, enD M a st 8 n = if n = m then M 8 m - 1 else M 8 n := by
    intro n
    unfold enD
    rw [et, em, cln (by omega : t < 1000000), cln (by omega : m < 1000000)]
    rfl
  obtain ⟨a0, bn, bt, ba, bg⟩ := B
  refine ⟨?_, ?_, ?_, ?_, bg⟩
  · unfold cnts
    rw [enD_r (by omega) (by omega) (by omega), enD_r (by omega) (by omega) (by omega), enD_r (by omega) (by omega) (by omega), enD_r (by omega) (by omega) (by omega)]
    exact a0
  · intro n hn
    obtain ⟨b1, ⟨v, b2, b3, b4⟩, b5, b6, b7⟩ := bn n hn
    have hc := cc n
    unfold nodeOk
    rw [enD_r (show 5 ≠ 8 by omega) (by omega) (by omega), enD_r (show 6 ≠ 8 by omega) (by omega) (by omega), enD_r (show 7 ≠ 8 by omega) (by omega) (by omega), enD_r (show 10 ≠ 8 by omega) (by omega) (by omega)]
    refine ⟨b1, ⟨v, b2, b3, by omega⟩, b5, ?_, b7⟩
    rw [e8]
    by_cases q : n = m
    · subst q
      rw [if_pos em] at hc
      rw [if_pos rfl, b6, hc, nI_pred]
    · rw [if_neg (by rw [em]; exact fun z => q ((nI_eq (by omega) (by omega)).mp z).symm)] at hc
      rw [if_neg q, b6, hc, Nat.add_zero]
  · intro t ht
    unfold taskOk
    rw [enD_r (by omega) (by omega) (by omega), enD_r (by omega) (by omega) (by omega), enD_r (by omega) (by omega) (by omega)]
    exact bt t ht
  · intro o ho
    obtain ⟨⟨t', c1, c2, c3⟩, c4, c5, ⟨d, c6, c7, c8⟩, c9, c10⟩ := ba o ho
    have hl : enD M a st 17 o = 1 → M 17 o = 1 := lessR_enD hs (lessR.rf M) o
    unfold attOk pg rt
    rw [enD_r (show 15 ≠ 8 by omega) (by omega) (by omega), e16, enD_r (show 13 ≠ 8 by omega) (by omega) (by omega), enD_r (show 19 ≠ 8 by omega) (by omega) (by omega), enD_r (show 20 ≠ 8 by omega) (by omega) (by omega), enD_r (show 21 ≠ 8 by omega) (by omega) (by omega), enD_r (show 22 ≠ 8 by omega) (by omega) (by omega), enD_r (show 11 ≠ 8 by omega) (by omega) (by omega)]
    exact ⟨⟨t', c1, c2, fun q => c3 (hl q)⟩, c4, c5, ⟨d, c6, c7, fun q => c8 (hl q)⟩, c9, c10⟩
theorem bd_kst {T : Int32} {o : Nat} (B : Bd e nn nt na now g (run na M) M) (ho : o < na) : Bd e nn nt na now g (run na (kst T M o)) (kst T M o) := by
  unfold kst
  by_cases q : M 17 o = 1 ∧ M 15 o = T
  · rw [if_pos q]; exact bd_end B ho q.1 (by decide)
  · rw [if_neg q]; exact B
theorem bd_kill {T : Int32} (B : Bd e nn nt na now g (run na M) M) : Bd e nn nt na now g (run na ((List.range na).foldl (kst T) M)) ((List.range na).foldl (kst T) M) := foldInv (kst T) (fun X => Bd e nn nt na now g (run na X) X) (List.range na) (fun X o ho hX => bd_kst hX (List.mem_range.mp ho)) M B
theorem kst_15 {T : Int32} {o : Nat} : kst T M o 15 = M 15 := by
  unfold kst
  by_cases q : M 17 o = 1 ∧ M 15 o = T
  · rw [if_pos q]; exact enD_r (by omega) (by omega) (by omega)
  · rw [if_neg q]
theorem kill_none {T : Int32} : ∀ o, o < na → ((List.range na).foldl (kst T) M) 17 o = 1 → ((List.range na).foldl (kst T) M) 15 o ≠ T := by
  have key := foldI (kst T) (List.range na) (fun i X => ∀ o, o < i → X 17 o = 1 → X 15 o ≠ T) (fun i X hi hX o ho h1 => ?_) M (fun o ho => absurd ho (Nat.not_lt_zero o))
  · intro o ho
    exact key o (by rw [List.length_range]; exact ho)
  · rw [List.getElem_range] at h1 ⊢
    rw [kst_15]
    by_cases q : o = i
    · subst q
      intro hT
      unfold kst at h1
      by_cases z : X 17 o = 1 ∧ X 15 o = T
      · rw [if_pos z, enD_17, if_pos rfl] at h1
        exact absurd h1 (by decide)
      · rw [if_neg z] at h1
        exact z ⟨h1, hT⟩
    · exact hX o (by omega) (lessR_kst (lessR.rf X) o h1)
theorem bd_cmt {a : Nat} (B : Bd e nn nt na now g (run na M) M) (ha : a < na) (h1 : M 17 a = 1) : Bd e nn nt na now g (run na (cmt na M a)) (cmt na M a) ∧ opn nt M = opn nt (cmt na M a) + 1 := by
  have hT := B.hT
  have hA := B.hA
  have hW := B.hW
  obtain ⟨⟨t, ht, et, e13⟩, -⟩ := B.2.2.2.1 a ha
  have ew := B.eW
  have B1 := bd_kill (T := nI t) (bd_end B ha h1 (show (2 : Int32) ≠ 1 by decide))
  have hno := kill_none (na := na) (M := enD M a 2) (T := nI t)
  have hsm : sameC M ((List.range na).foldl (kst (nI t)) (enD M a 2)) := sameC_kill _ (sameC_enD (sameC.rf M))
  have h13 : ((List.range na).foldl (kst (nI t)) (enD M a 2)) 13 = M 13 := by
    refine foldInv (kst (nI t)) (fun X => X 13 = M 13) (List.range na) (fun X o _ hX => ?_) (enD M a 2) (enD_r (by omega) (by omega) (by omega))
    unfold kst
    by_cases q : X 17 o = 1 ∧ X 15 o = nI t
    · rw [if_pos q, enD_r (by omega) (by omega) (by omega)]; exact hX
    · rw [if_neg q]; exact hX
  unfold cmt
  rw [et, cln (by omega : t < 1000000)]
  generalize (List.range na).foldl (kst (nI t)) (enD M a 2) = X at B1 hno hsm h13 ⊢
  obtain ⟨a0, bn, bt, ba, bg⟩ := B1
  have er : run na (xu (xu X 13 t (nI a)) 14 t (M 0 4 + 1)) = run na X := run_congr (fun o _ => rfl)
  have k13 : ∀ o, (xu (xu X 13 t (nI a)) 14 t (M 0 4 + 1)) 13 o = if o = t then nI a else X 13 o := fun o => rfl
  have k14 : ∀ o, (xu (xu X 13 t (nI a)) 14 t (M 0 4 + 1)) 14 o = if o = t then M 0 4 + 1 else X 14 o := fun o => rfl
  refine ⟨⟨a0, ?_, ?_, ?_, bg⟩, ?_⟩
  · rw [er]; exact bn
  · intro t' ht'
    obtain ⟨c1, c2⟩ := bt t' ht'
    refine ⟨c1, ?_⟩
    rw [k13, k14]
    by_cases q : t' = t
    · rw [if_pos q, if_pos q]
      exact Or.inr ⟨⟨a, by omega, rfl⟩, now + 1, by omega, by omega, by rw [ew, nI_1]⟩
    · rw [if_neg q, if_neg q]; exact c2
  · intro o ho
    obtain ⟨⟨t', c1, c2, c3⟩, c4⟩ := ba o ho
    refine ⟨⟨t', c1, c2, fun q => ?_⟩, c4⟩
    rw [k13]
    have hne : t' ≠ t := fun z => hno o ho q (by rw [c2, z])
    rw [if_neg hne]
    exact c3 q
  · unfold opn
    refine flip_len (t := t) (by simp [e13 h1]) (by simp only [k13, if_pos rfl]; simp [nI_n6 (show a < 1000000 by omega)]) (fun x hx => ?_) _ List.nodup_range (List.mem_range.mpr ht)
    rw [k13, if_neg hx, h13]
/-- the whole committing step -/
theorem bd_commits (B : Bd 100 nn nt na now g (run na M) M) : Bd 0 nn nt na now g (run na ((List.range na).foldl (cst na) (0, M)).2) ((List.range na).foldl (cst na) (0, M)).2 ∧ (∃ c, c ≤ 200 ∧ ((List.range na).foldl (cst na) (0, M)).1 = nI c ∧ opn nt ((List.range na).foldl (cst na) (0, M)).2 + c = opn nt M) ∧ sameC M ((List.range na).foldl (cst na) (0, M)).2 ∧ lessR M ((List.range na).foldl (cst na) (0, M)).2 := by
  have hA := B.hA
  have hT := B.hT
  have key := foldI (cst na) (List.range na) (fun i p => Bd 100 nn nt na now g (run na p.2) p.2 ∧ (∃ c, c ≤ i ∧ p.1 = nI c ∧ opn nt p.2 + c = opn nt M) ∧ (sameC M p.2 ∧ lessR M p.2) ∧ ∀ a, a < i → p.2 17 a = 1 → p.2 20 a < p.2 11 (p.2 15 a).toNatClampNeg) ?_ (0, M) ⟨B, ⟨0, Nat.le_refl _, rfl, rfl⟩, ⟨sameC.rf M, lessR.rf M⟩, fun a ha => absurd ha (Nat.not_lt_zero a)⟩
  · rw [List.length_range] at key
    obtain ⟨⟨a0, bn, bt, ba, bg⟩, ⟨c, hc, ec, hop⟩, ⟨h1, h2⟩, h3⟩ := key
    refine ⟨⟨a0, bn, bt, fun a ha => ?_, bg⟩, ⟨c, by omega, ec, hop⟩, h1, h2⟩
    obtain ⟨⟨t, c1, c2, c3⟩, c4, c5, ⟨d, c6, c7, c8⟩, c9⟩ := ba a ha
    refine ⟨⟨t, c1, c2, c3⟩, c4, c5, ⟨d, c6, c7, fun q => ?_⟩, c9⟩
    have hlt := h3 a ha q
    obtain ⟨⟨w, w1, w2, ew⟩, -⟩ := bt t c1
    rw [c7, c2, cln (by omega : t < 1000000), ew, nI_ltI (by omega) (by omega)] at hlt
    omega
  · intro i p hi hJ
    rw [List.length_range] at hi
    rw [List.getElem_range]
    obtain ⟨B1, ⟨c, hc, ec, hop⟩, ⟨h1, h2⟩, h3⟩ := hJ
    have hs := sameC_cst (na := na) (a := i) h1
    have hl := lessR_cst (na := na) (a := i) h2
    unfold cst at hs hl ⊢
    by_cases q : p.2 17 i = 1 ∧ ¬ p.2 20 i < p.2 11 (p.2 15 i).toNatClampNeg
    · rw [if_pos q] at hs hl ⊢
      obtain ⟨B2, ho⟩ := bd_cmt B1 hi q.1
      refine ⟨B2, ⟨c + 1, by omega, by show p.1 + 1 = _; rw [ec, nI_1], by show opn nt (cmt na p.2 i) + (c + 1) = _; omega⟩, ⟨hs, hl⟩, fun a ha h17 => ?_⟩
      have e20 : cmt na p.2 i 20 = p.2 20 := sameC_cmt (sameC.rf p.2) 20 (by omega) (by omega) (by omega) (by omega) (by omega)
      have e11 : cmt na p.2 i 11 = p.2 11 := sameC_cmt (sameC.rf p.2) 11 (by omega) (by omega) (by omega) (by omega) (by omega)
      have e15 : cmt na p.2 i 15 = p.2 15 := sameC_cmt (sameC.rf p.2) 15 (by omega) (by omega) (by omega) (by omega) (by omega)
      have h17' : cmt na p.2 i 17 a = 1 := h17
      show cmt na p.2 i 20 a < cmt na p.2 i 11 (cmt na p.2 i 15 a).toNatClampNeg
      rw [e20, e11, e15]
      by_cases z : a = i
      · subst z
        have : ((List.range na).foldl (kst (p.2 15 a)) (enD p.2 a 2)) 17 a = 1 := h17'
        have h4 := lessR_kill (List.range na) (lessR.rf (enD p.2 a 2)) a this
        rw [enD_17, if_pos rfl] at h4
        exact absurd h4 (by decide)
      · exact h3 a (by omega) (lessR_cmt (lessR.rf p.2) a h17')
    · rw [if_neg q]
      refine ⟨B1, ⟨c, by omega, ec, hop⟩, ⟨h1, h2⟩, fun a ha h17 => ?_⟩
      by_cases z : a = i
      · subst z
        exact Decidable.not_not.mp (fun w => q ⟨h17, w⟩)
      · exact h3 a (by omega) h17
theorem bd_rows {M' : xM} (hr : ∀ r, r ≠ 4 → r ≠ 23 → M' r = M r) (h4 : M' 4 0 = M 4 0) (B : Bd e nn nt na now g L M) : Bd e nn nt na now g L M' := by
  obtain ⟨a0, bn, bt, ba, bg⟩ := B
  have e16 := hr 16 (by omega) (by omega)
  refine ⟨?_, ?_, ?_, ?_, bg⟩
  · unfold cnts
    rw [hr 2 (by omega) (by omega), hr 3 (by omega) (by omega), hr 0 (by omega) (by omega), h4]
    exact a0
  · intro n hn
    unfold nodeOk
    rw [hr 5 (by omega) (by omega), hr 6 (by omega) (by omega), hr 7 (by omega) (by omega), hr 8 (by omega) (by omega), hr 10 (by omega) (by omega), cntN_congr (fun a _ => by rw [e16])]
    exact bn n hn
  · intro t ht
    unfold taskOk
    rw [hr 11 (by omega) (by omega), hr 13 (by omega) (by omega), hr 14 (by omega) (by omega)]
    exact bt t ht
  · intro a ha
    unfold attOk pg rt
    rw [hr 15 (by omega) (by omega), e16, hr 13 (by omega) (by omega), hr 17 (by omega) (by omega), hr 19 (by omega) (by omega), hr 20 (by omega) (by omega), hr 21 (by omega) (by omega), hr 22 (by omega) (by omega), hr 11 (by omega) (by omega)]
    exact ba a ha
theorem run_less {M' : xM} (h : lessR M M') : (run na M).filter (fun a => decide (M' 17 a = 1)) = run na M' := by
  unfold run
  rw [List.filter_filter]
  refine List.filter_congr (fun a _ => ?_)
  by_cases q : M' 17 a = 1
  · simp [q, h a q]
  · simp [q]
theorem Rel.rows {M' : xM} (h : Rel s nn nt na N0 M N) (hr : ∀ r, r ≠ 4 → r ≠ 23 → M' r = M r) : Rel s nn nt na N0 M' N := by
  obtain ⟨hd, ha, hk⟩ := h
  refine ⟨?_, fun r j g1 g2 g3 => ?_, hk⟩
  · unfold Hd
    rw [hr 2 (by omega) (by omega), hr 3 (by omega) (by omega), hr 1 (by omega) (by omega), hr 0 (by omega) (by omega)]
    exact hd
  · rw [hr r (by omega) (by omega)]
    exact ha r j g1 g2 g3
end
