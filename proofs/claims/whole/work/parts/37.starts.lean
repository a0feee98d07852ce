/-! Pure: the starting step of a tick. -/
def spT (M : xM) (L : List Nat) (n : Nat) : Option Nat := match strag M L with
  | none => none
  | some c => if M 16 c = nI n then none else some (M 15 c).toNatClampNeg
def spc (M : xM) (nn : Nat) (L : List Nat) (n : Nat) : Option Nat := if cntS M L < M 1 1 then (if M 1 0 = 2 ∧ ¬ slw M nn n = 0 then none else spT M L n) else none
def pick (M : xM) (nn nt : Nat) (L : List Nat) (n : Nat) : Option Nat := match fw M nt with
  | some t => some t
  | none => spc M nn L n
abbrev fsl (M : xM) (na n : Nat) : Prop := ¬ M 7 n = 0 ∧ ¬ M 6 n ≤ M 8 n ∧ na < 200
def one (nn nt n : Nat) (p : Nat × xM) : Option (Nat × xM) := if fsl p.2 p.1 n then (match pick p.2 nn nt (run p.1 p.2) n with
  | none => none
  | some t => some (p.1 + 1, fStart p.2 p.1 (run p.1 p.2).length t n)) else none
def its (nn nt n : Nat) : Nat → Nat × xM → Nat × xM
  | 0, p => p
  | k + 1, p => match one nn nt n p with
    | none => p
    | some q => its nn nt n k q
section
variable {e s nn nt na now g : Nat} {L : List Nat} {N0 M N : xM} {post : Int32 → xM → Prop}
theorem spT_ok {n t : Nat} (I : Iv e nn nt na now g L M) (h : spT M L n = some t) : t < nt ∧ M 13 t = -6 := by
  unfold spT at h
  cases hc : strag M L with
  | none => rw [hc] at h; cases h
  | some c =>
    rw [hc] at h
    have h : (if M 16 c = nI n then none else some (M 15 c).toNatClampNeg) = some t := h
    by_cases q : M 16 c = nI n
    · rw [if_pos q] at h; cases h
    · rw [if_neg q] at h
      obtain ⟨m1, m2⟩ := I.mem (strag_in c hc)
      obtain ⟨⟨t', ht, et, e13⟩, -⟩ := I.B.2.2.2.1 c m1
      have hT := I.B.hT
      rw [et, cln (by omega : t' < 1000000)] at h
      cases h
      exact ⟨ht, e13 m2⟩
theorem pick_ok {n t : Nat} (I : Iv e nn nt na now g L M) (h : pick M nn nt L n = some t) : t < nt ∧ M 13 t = -6 := by
  unfold pick at h
  cases hf : fw M nt with
  | some t' =>
    rw [hf] at h
    cases h
    unfold fw at hf
    have h1 := List.mem_of_find?_eq_some hf
    have h2 := List.find?_some hf
    unfold wtg at h2
    exact ⟨List.mem_range.mp h1, (of_decide_eq_true h2).1⟩
  | none =>
    rw [hf] at h
    have h : spc M nn L n = some t := h
    unfold spc at h
    by_cases q : cntS M L < M 1 1
    · rw [if_pos q] at h
      by_cases q2 : M 1 0 = 2 ∧ ¬ slw M nn n = 0
      · rw [if_pos q2] at h; cases h
      · rw [if_neg q2] at h
        exact spT_ok I h
    · rw [if_neg q] at h; cases h
theorem c_spT {n : Nat} (I : Iv e nn nt na now g L M) (k : post (encO 0 (spT M L n)) M) : V_X1_findStraggler M (fun r6 M5 => ((r6 = (-6) → post (-6) M5) ∧ (¬ r6 = (-6) → (vp_in r6 200 ∧ (((M5 16 (r6).toNatClampNeg) = nI n → post (-6) M5) ∧ (¬ (M5 16 (r6).toNatClampNeg) = nI n → (vp_in r6 200 ∧ post (M5 15 (r6).toNatClampNeg) M5))))))) := by
  refine c_strag I.l I.b200 I.h32 I.tk ?_
  unfold spT at k
  cases hc : strag M L with
  | none => rw [hc] at k; exact ⟨fun _ => k, fun q => absurd rfl q⟩
  | some c =>
    rw [hc] at k
    have k : post (encO 0 (if M 16 c = nI n then none else some (M 15 c).toNatClampNeg)) M := k
    have hm := strag_in c hc
    have hb := I.b200 c hm
    obtain ⟨t, ht, et⟩ := I.tk c hm
    rw [encO0]
    refine ⟨fun q => absurd q (nI_n6 (by omega)), fun _ => ?_⟩
    rw [cln (by omega : c < 1000000)]
    refine ⟨inn hb (by omega), fun q => ?_, fun q => ⟨inn hb (by omega), ?_⟩⟩
    · rw [if_pos q] at k; exact k
    · rw [if_neg q, encO0, et, cln (by omega : t < 1000000)] at k
      rw [et]; exact k
theorem c_spc {n : Nat} (I : Iv e nn nt na now g L M) (hn : n < nn) (k : post (encO 0 (spc M nn L n)) M) : V_X1_taskToSpeculate M (nI n) post := by
  unfold V_X1_taskToSpeculate
  unfold spc at k
  refine c_spec I.l I.b200 I.h32 ⟨fun q => ⟨fun q2 => c_slow I.B hn ⟨fun q3 => c_spT I ?_, fun q3 => ?_⟩, fun q2 => c_spT I ?_⟩, fun q => ?_⟩
  · rw [if_pos q, if_neg (fun z => z.2 q3)] at k; exact k
  · rw [if_pos q, if_pos ⟨q2, q3⟩] at k; exact k
  · rw [if_pos q, if_neg (fun z => q2 z.1)] at k; exact k
  · rw [if_neg q] at k; exact k
theorem r_startsOn {rc n : Nat} (h : Rel s nn nt na N0 M N) (hs : s ≤ 1) (I : Iv e nn nt na now g L M) (hA : na < 200) (hn : n < nn) (k0 : pick M nn nt L n = none → post 0 N) (k1 : ∀ t, pick M nn nt L n = some t → ∀ N', Rel s nn nt (na + 1) N0 (fStart M na rc t n) N' → post 1 N') : V_X6_startsOn N (nI n) (M 1 0) post := by
  have hT := I.B.hT
  unfold V_X6_startsOn
  refine r_fw h hs I.B ?_
  cases hf : fw M nt with
  | some t =>
    have hp : pick M nn nt L n = some t := by unfold pick; rw [hf]
    have htt := (pick_ok I hp).1
    rw [encO0]
    refine ⟨fun q => absurd q (nI_n6 (by omega)), fun _ => r_starts (rc := rc) h hs I.B hA htt hn (k1 t hp)⟩
  | none =>
    have hp : pick M nn nt L n = spc M nn L n := by unfold pick; rw [hf]
    rw [hp] at k0 k1
    refine ⟨fun _ => r_strag h hs I.B I.r I.h32 ?_, fun q => absurd rfl q⟩
    unfold spc spT at k0 k1
    cases hc : strag M L with
    | none =>
      rw [hc] at k0
      refine ⟨fun _ => k0 ?_, fun q => absurd rfl q⟩
      by_cases q : cntS M L < M 1 1
      · rw [if_pos q]
        by_cases q2 : M 1 0 = 2 ∧ ¬ slw M nn n = 0
        · rw [if_pos q2]
        · rw [if_neg q2]
      · rw [if_neg q]
    | some c =>
      rw [hc] at k0 k1
      have k0 : ((if cntS M L < M 1 1 then (if M 1 0 = 2 ∧ ¬ slw M nn n = 0 then none else (if M 16 c = nI n then none else some (M 15 c).toNatClampNeg)) else none) = none → post 0 N) := k0
      have k1 : ∀ t, (if cntS M L < M 1 1 then (if M 1 0 = 2 ∧ ¬ slw M nn n = 0 then none else (if M 16 c = nI n then none else some (M 15 c).toNatClampNeg)) else none) = some t → ∀ N', Rel s nn nt (na + 1) N0 (fStart M na rc t n) N' → post 1 N' := k1
      have m1 := (I.mem (strag_in c hc)).1
      obtain ⟨⟨t, ht, et, -⟩, -⟩ := I.B.2.2.2.1 c m1
      have i1 : vp_in (nI (200 * s + c)) 400 := inn (by omega) (by omega)
      rw [encOs]
      refine ⟨fun q => absurd q (nI_n6 (by omega)), fun _ => ?_⟩
      rw [cln (by omega : 200 * s + c < 1000000), h.a16 m1]
      refine ⟨i1, fun q => k0 ?_, fun q => r_spec h hs I.B I.r ?_⟩
      · by_cases q1 : cntS M L < M 1 1
        · rw [if_pos q1]
          by_cases q2 : M 1 0 = 2 ∧ ¬ slw M nn n = 0
          · rw [if_pos q2]
          · rw [if_neg q2, if_pos q]
        · rw [if_neg q1]
      · rw [h.1.2.2.1]
        have hx : (M 1 1 ≤ cntS M L) ↔ ¬ cntS M L < M 1 1 := Int32.not_lt.symm
        refine ⟨fun q2 => k0 (by rw [if_neg (hx.mp q2)]), fun q2 => ?_⟩
        have q2' : cntS M L < M 1 1 := Decidable.not_not.mp (fun z => q2 (hx.mpr z))
        have hst : ∀ {t2 : Nat}, t2 = t → ((M 1 0 = 2 ∧ ¬ slw M nn n = 0) → False) → ∀ N', Rel s nn nt (na + 1) N0 (fStart M na rc t2 n) N' → post 1 N' := by
          intro t2 e2 hno
          subst e2
          refine k1 t2 ?_
          rw [if_pos q2', if_neg hno, if_neg q, et, cln (by omega : t2 < 1000000)]
        refine ⟨fun q3 => r_slow h hs I.B hn ⟨fun q4 => ⟨i1, fun y21 e21 => ?_⟩, fun q4 => k0 ?_⟩, fun q3 => ⟨i1, fun y15 e15 => ?_⟩⟩
        · rw [h.a15 m1, et] at e21
          rw [e21]
          exact r_starts (rc := rc) h hs I.B hA ht hn (hst rfl (fun z => z.2 q4))
        · rw [if_pos q2', if_pos ⟨q3, q4⟩]
        · rw [h.a15 m1, et] at e15
          rw [e15]
          exact r_starts (rc := rc) h hs I.B hA ht hn (hst rfl (fun z => q3 z.1))
/-- what one start gives -/
theorem one_some {n : Nat} {p q : Nat × xM} (I : Iv e nn nt p.1 now g (run p.1 p.2) p.2) (hn : n < nn) (h : one nn nt n p = some q) : fsl p.2 p.1 n ∧ ∃ t, pick p.2 nn nt (run p.1 p.2) n = some t ∧ q = (p.1 + 1, fStart p.2 p.1 (run p.1 p.2).length t n) ∧ t < nt ∧ Iv e nn nt q.1 now g (run q.1 q.2) q.2 ∧ cntN q.2 (run q.1 q.2) n = cntN p.2 (run p.1 p.2) n + 1 ∧ run q.1 q.2 = run p.1 p.2 ++ [p.1] := by
  unfold one at h
  by_cases hf : fsl p.2 p.1 n
  · rw [if_pos hf] at h
    refine ⟨hf, ?_⟩
    cases hp : pick p.2 nn nt (run p.1 p.2) n with
    | none => rw [hp] at h; cases h
    | some t =>
      rw [hp] at h
      cases h
      obtain ⟨t1, t2⟩ := pick_ok I hp
      obtain ⟨-, ⟨v, hv, ev, hc⟩, -, e8, -⟩ := I.B.2.1 n hn
      have hcv : cntN p.2 (run p.1 p.2) n < v := by
        rcases Nat.lt_or_ge (cntN p.2 (run p.1 p.2) n) v with z | z
        · exact z
        · exact absurd (by rw [ev, e8]; exact len z (by omega)) hf.2.1
      have J := iv_start I hf.2.2 t1 t2 hn ev hv hcv
      have er : run (p.1 + 1) (fStart p.2 p.1 (run p.1 p.2).length t n) = run p.1 p.2 ++ [p.1] := J.r.symm
      refine ⟨t, rfl, rfl, t1, ?_, ?_, er⟩
      · show Iv e nn nt (p.1 + 1) now g (run (p.1 + 1) (fStart p.2 p.1 (run p.1 p.2).length t n)) _
        rw [er]; exact J
      · show cntN (fStart p.2 p.1 (run p.1 p.2).length t n) (run (p.1 + 1) (fStart p.2 p.1 (run p.1 p.2).length t n)) n = _
        obtain ⟨-, -, -, e8', -⟩ := J.B.2.1 n hn
        rw [er]
        have e9 : fStart p.2 p.1 (run p.1 p.2).length t n 8 n = p.2 8 n + 1 := by
          show (if n = n then _ else _) = _
          rw [if_pos rfl]
        rw [e9, e8, nI_1] at e8'
        have c1 := J.B.c4 n hn
        exact ((nI_eq (by omega) (by omega)).mp e8').symm
  · rw [if_neg hf] at h; cases h
theorem its_iv {n : Nat} (hn : n < nn) : ∀ (k : Nat) (p : Nat × xM), Iv e nn nt p.1 now g (run p.1 p.2) p.2 → Iv e nn nt (its nn nt n k p).1 now g (run (its nn nt n k p).1 (its nn nt n k p).2) (its nn nt n k p).2 ∧ (its nn nt n k p).2 1 0 = p.2 1 0 := by
  intro k
  induction k with
  | zero => intro p I; exact ⟨I, rfl⟩
  | succ k ih =>
    intro p I
    unfold its
    cases ho : one nn nt n p with
    | none => exact ⟨I, rfl⟩
    | some q =>
      obtain ⟨-, t, -, eq, -, J, -⟩ := one_some I hn ho
      obtain ⟨a1, a2⟩ := ih q J
      refine ⟨a1, a2.trans ?_⟩
      rw [eq]; rfl
theorem c_inner {n : Nat} {K : xM → Int32 → Prop} (hn : n < nn) : ∀ (k j : Nat) (p : Nat × xM), j + k = 4 → Iv e nn nt p.1 now g (run p.1 p.2) p.2 → K (its nn nt n k p).2 (nI n) → V_X1_startAttempts_L15 K (k + 1) p.2 (nI n) (nI j) := by
  intro k
  induction k with
  | zero =>
    intro j p hj I hK
    rw [V_X1_startAttempts_L15, show j = 4 by omega]
    exact ⟨fun _ => hK, fun q => absurd (show nI 4 ≤ nI 4 from len (Nat.le_refl _) (by omega)) q⟩
  | succ k ih =>
    intro j p hj I hK
    have hN := I.B.hN
    have hT := I.B.hT
    have i1 : vp_in (nI n) 8 := inn (by omega) (by omega)
    rw [V_X1_startAttempts_L15]
    refine ⟨fun q => absurd q (show ¬ nI 4 ≤ nI j from nlen (by omega) (by omega)), fun _ => ?_⟩
    unfold its at hK
    have hno : one nn nt n p = none → K p.2 (nI n) := fun z => by rw [z] at hK; exact hK
    unfold V_X2_hasFreeSlot
    rw [cln (by omega : n < 1000000)]
    refine ⟨i1, fun q => ⟨fun _ => hno (by unfold one; rw [if_neg (fun z => z.1 q)]), fun z => absurd rfl z⟩, fun q => ⟨i1, i1, fun q2 => ⟨fun _ => hno (by unfold one; rw [if_neg (fun z => z.2.1 q2)]), fun z => absurd rfl z⟩, fun q2 => ⟨fun z => absurd z (by decide), fun _ => ?_⟩⟩⟩
    obtain ⟨-, ⟨v, hv, ev, hc⟩, -, e8, -⟩ := I.B.2.1 n hn
    have hcv : cntN p.2 (run p.1 p.2) n < 4 := by
      rcases Nat.lt_or_ge (cntN p.2 (run p.1 p.2) n) v with z | z
      · omega
      · exact absurd (by rw [ev, e8]; exact len z (by omega)) q2
    have h32 := I.l32 hn hcv
    have eA := I.B.eA
    have hA := I.B.hA
    have eR := I.l.1
    unfold V_X0_isFull
    refine ⟨fun q3 => ⟨fun z => absurd z (by decide), fun _ => hno ?_⟩, fun q3 => ⟨fun _ => ⟨fun _ => ?_, fun z => absurd rfl z⟩, fun q4 => absurd (by rw [eR]; exact (show nI _ < nI 32 from nI_lt h32 (by omega))) q4⟩⟩
    · unfold one
      rw [if_neg (fun z => ?_)]
      rw [eA] at q3
      exact absurd q3 (show ¬ nI 200 ≤ nI p.1 from nlen z.2.2 (by omega))
    · have h200 : p.1 < 200 := by
        rcases Nat.lt_or_ge p.1 200 with z | z
        · exact z
        · exact absurd (by rw [eA]; exact (show nI 200 ≤ nI p.1 from len z (by omega))) q3
      have hf : fsl p.2 p.1 n := ⟨q, q2, h200⟩
      have go : ∀ t, pick p.2 nn nt (run p.1 p.2) n = some t → V_X1_start p.2 (nI t) (nI n) (fun M18 => (∀ y19 : Int32, y19 = (nI j + 1) → (V_X1_startAttempts_L15 K (k + 1) M18 (nI n) y19))) := by
        intro t hp
        have ho : one nn nt n p = some (p.1 + 1, fStart p.2 p.1 (run p.1 p.2).length t n) := by
          unfold one; rw [if_pos hf, hp]
        obtain ⟨-, t', -, -, -, J, -⟩ := one_some I hn ho
        have htt := (pick_ok I hp).1
        rw [ho] at hK
        refine c_start eA h200 eR h32 (by omega) (by omega) (fun y19 e19 => ?_)
        rw [e19, nI_1]
        exact ih (j + 1) _ (by omega) J hK
      refine c_fw I.B ?_
      cases hfw : fw p.2 nt with
      | some t =>
        have hp : pick p.2 nn nt (run p.1 p.2) n = some t := by unfold pick; rw [hfw]
        have htt := (pick_ok I hp).1
        rw [encO0]
        have h6 : ¬ nI t = -6 := nI_n6 (by omega)
        exact ⟨fun z => absurd z h6, fun _ => ⟨fun z => absurd z h6, fun _ => go t hp⟩⟩
      | none =>
        have hp : pick p.2 nn nt (run p.1 p.2) n = spc p.2 nn (run p.1 p.2) n := by unfold pick; rw [hfw]
        refine ⟨fun _ => c_spc I hn ?_, fun z => absurd rfl z⟩
        cases hs : spc p.2 nn (run p.1 p.2) n with
        | none =>
          refine ⟨fun _ => hno ?_, fun z => absurd rfl z⟩
          unfold one; rw [if_pos hf, hp, hs]
        | some t =>
          rw [hs] at hp
          have htt := (pick_ok I hp).1
          rw [encO0]
          exact ⟨fun z => absurd z (nI_n6 (by omega)), fun _ => go t hp⟩
theorem r_inner {n : Nat} {K : xM → Int32 → Int32 → Prop} {pol : Int32} (hs : s ≤ 1) (hn : n < nn) : ∀ (k : Nat) (p : Nat × xM) (N : xM), Iv e nn nt p.1 now g (run p.1 p.2) p.2 → p.2 1 0 = pol → Rel s nn nt p.1 N0 p.2 N → (∀ v, p.2 6 n = nI v → v ≤ 4 → v ≤ cntN p.2 (run p.1 p.2) n + k) → (∀ N', Rel s nn nt (its nn nt n k p).1 N0 (its nn nt n k p).2 N' → K N' pol (nI n)) → V_X6_passes_L12 K (k + 2) N pol (nI n) 1 := by
  intro k
  induction k with
  | zero =>
    intro p N I hpol h hfr hK
    have hN := I.B.hN
    rw [V_X6_passes_L12]
    refine ⟨fun z => absurd z (by decide), fun _ => ?_⟩
    obtain ⟨-, ⟨v, hv, ev, hc⟩, -, e8, -⟩ := I.B.2.1 n hn
    have hle : p.2 6 n ≤ p.2 8 n := by rw [ev, e8]; exact len (hfr v ev hv) (by omega)
    unfold V_X6_hasSlot
    rw [cln (by omega : n < 1000000), h.a7 hn, h.sd, i8, cln (by omega : 8 * s + n < 1000000), h.a6 hn, h.a8 hn]
    refine ⟨inn (by omega) (by omega), fun q => ⟨fun _ => hK N h, fun z => absurd rfl z⟩, fun q => ⟨inn (by omega) (by omega), inn (by omega) (by omega), fun q2 => ⟨fun _ => hK N h, fun z => absurd rfl z⟩, fun q2 => absurd hle q2⟩⟩
  | succ k ih =>
    intro p N I hpol h hfr hK
    have hN := I.B.hN
    rw [V_X6_passes_L12]
    refine ⟨fun z => absurd z (by decide), fun _ => ?_⟩
    unfold its at hK
    have hno : one nn nt n p = none → K N pol (nI n) := fun z => by rw [z] at hK; exact hK N h
    unfold V_X6_hasSlot
    rw [cln (by omega : n < 1000000), h.a7 hn, h.sd, i8, cln (by omega : 8 * s + n < 1000000), h.a6 hn, h.a8 hn, cln (by omega : s < 1000000), h.cn]
    refine ⟨inn (by omega) (by omega), fun q => ⟨fun _ => hno (by unfold one; rw [if_neg (fun z => z.1 q)]), fun z => absurd rfl z⟩, fun q => ⟨inn (by omega) (by omega), inn (by omega) (by omega), fun q2 => ⟨fun _ => hno (by unfold one; rw [if_neg (fun z => z.2.1 q2)]), fun z => absurd rfl z⟩, fun q2 => ⟨inn (by omega) (by omega), fun q3 => ⟨fun _ => hno ?_, fun z => absurd rfl z⟩, fun q3 => ⟨fun z => absurd z (by decide), fun _ => ?_⟩⟩⟩⟩
    · unfold one
      rw [if_neg (fun z => ?_)]
      exact absurd q3 (show ¬ nI 200 ≤ nI p.1 from nlen z.2.2 (by omega))
    · have h200 : p.1 < 200 := by
        rcases Nat.lt_or_ge p.1 200 with z | z
        · exact z
        · have := I.B.hA
          exact absurd (show nI 200 ≤ nI p.1 from len z (by omega)) q3
      have hf : fsl p.2 p.1 n := ⟨q, q2, h200⟩
      rw [← hpol]
      refine r_startsOn (rc := (run p.1 p.2).length) h hs I h200 hn (fun hp => ?_) (fun t hp N' h' => ?_)
      · show V_X6_passes_L12 K (k + 1 + 1) N (p.2 1 0) (nI n) 0
        rw [V_X6_passes_L12, hpol]
        exact ⟨fun _ => hno (by unfold one; rw [if_pos hf, hp]), fun z => absurd rfl z⟩
      · have ho : one nn nt n p = some (p.1 + 1, fStart p.2 p.1 (run p.1 p.2).length t n) := by
          unfold one; rw [if_pos hf, hp]
        obtain ⟨-, t', -, -, -, J, hcn, -⟩ := one_some I hn ho
        rw [ho] at hK
        rw [hpol]
        refine ih (p.1 + 1, fStart p.2 p.1 (run p.1 p.2).length t n) N' J (by rw [← hpol]; rfl) h' (fun v ev hv => ?_) hK
        have := hfr v ev hv
        rw [hcn]; omega
/-- all nodes -/
def startAll (nn nt : Nat) (p : Nat × xM) : Nat × xM := (List.range nn).foldl (fun p i => its nn nt i 4 p) p
theorem c_starts {post : xM → Prop} (I : Iv e nn nt na now g (run na M) M) (k : post (startAll nn nt (na, M)).2) : V_X1_startAttempts M post := by
  refine loopO (fun n (p : Nat × xM) i => V_X1_startAttempts_L2 post n p.2 i) (fun p i => its nn nt i 4 p) (fun p => post p.2) 0 nn (fun _ p => Iv e nn nt p.1 now g (run p.1 p.2) p.2) ?_ ?_ (fun i p hi J => (its_iv hi 4 p J).1) (na, M) I k
  · intro n p J hX
    have hN := J.B.hN
    show V_X1_startAttempts_L2 post (n + 1) p.2 _
    rw [V_X1_startAttempts_L2, J.B.eN, Nat.zero_add]
    exact ⟨fun _ => hX, fun q => absurd (len (Nat.le_refl _) (by omega)) q⟩
  · intro n i p hi J hW
    have hN := J.B.hN
    rw [Nat.zero_add] at hW ⊢
    show V_X1_startAttempts_L2 post (n + 1) p.2 (nI i)
    rw [V_X1_startAttempts_L2, J.B.eN]
    refine ⟨fun q => absurd q (nlen hi (by omega)), fun _ => ⟨5, ?_⟩⟩
    refine c_inner hi 4 0 p rfl J (fun y22 e22 => ?_)
    rw [e22, nI_1]
    exact hW
theorem r_passes0 {post : Int32 → xM → Prop} (h : Rel s nn nt na N0 M N) (hs : s ≤ 1) (I : Iv e nn nt na now g (run na M) M) (k : ∀ N', Rel s nn nt (startAll nn nt (na, M)).1 N0 (startAll nn nt (na, M)).2 N' → V_X6_works N' (fun N2 => (V_X6_commits N2 (fun r4 N3 => (vp_in (N3 0 11) 2 ∧ (vp_in (N3 0 11) 2 ∧ ∀ N7 : xM, N7 = xu N3 6 ((N3 0 11)).toNatClampNeg ((N3 6 ((N3 0 11)).toNatClampNeg) + 1) → post r4 N7)))))) : V_X6_passes N (M 1 0) post := by
  have key : ∃ n, ∀ N, Rel s nn nt na N0 M N → V_X6_passes_L2 post n N (M 1 0) (nI 0) := by
    refine loopO (fun n (p : Nat × xM) i => ∀ N, Rel s nn nt p.1 N0 p.2 N → V_X6_passes_L2 post n N (M 1 0) i) (fun p i => its nn nt i 4 p) (fun p => ∀ N', Rel s nn nt p.1 N0 p.2 N' → V_X6_works N' (fun N2 => (V_X6_commits N2 (fun r4 N3 => (vp_in (N3 0 11) 2 ∧ (vp_in (N3 0 11) 2 ∧ ∀ N7 : xM, N7 = xu N3 6 ((N3 0 11)).toNatClampNeg ((N3 6 ((N3 0 11)).toNatClampNeg) + 1) → post r4 N7)))))) 0 nn (fun _ p => Iv e nn nt p.1 now g (run p.1 p.2) p.2 ∧ p.2 1 0 = M 1 0) ?_ ?_ (fun i p hi J => ⟨(its_iv hi 4 p J.1).1, (its_iv hi 4 p J.1).2.trans J.2⟩) (na, M) ⟨I, rfl⟩ k
    · intro n p J hX N h
      have hN := J.1.B.hN
      show V_X6_passes_L2 post (n + 1) N (M 1 0) _
      rw [V_X6_passes_L2, h.1.1, J.1.B.eN, Nat.zero_add]
      exact ⟨fun _ => hX N h, fun q => absurd (len (Nat.le_refl _) (by omega)) q⟩
    · intro n i p hi J hW N h
      have hN := J.1.B.hN
      rw [Nat.zero_add] at hW ⊢
      show V_X6_passes_L2 post (n + 1) N (M 1 0) (nI i)
      rw [V_X6_passes_L2, h.1.1, J.1.B.eN]
      refine ⟨fun q => absurd q (nlen hi (by omega)), fun _ => ⟨6, ?_⟩⟩
      refine r_inner hs hi 4 p N J.1 J.2 h (fun v _ hv => by omega) (fun N' h' y17 e17 => ?_)
      rw [e17, nI_1]
      exact hW N' h'
  obtain ⟨n, hk⟩ := key
  exact ⟨n, hk N h⟩
theorem startAll_iv {p : Nat × xM} (I : Iv e nn nt p.1 now g (run p.1 p.2) p.2) : Iv e nn nt (startAll nn nt p).1 now g (run (startAll nn nt p).1 (startAll nn nt p).2) (startAll nn nt p).2 ∧ (startAll nn nt p).2 1 0 = p.2 1 0 := by
  refine foldInv (fun p i => its nn nt i 4 p) (fun q => Iv e nn nt q.1 now g (run q.1 q.2) q.2 ∧ q.2 1 0 = p.2 1 0) (List.range nn) (fun q i hi J => ?_) p ⟨I, rfl⟩
  have := its_iv (List.mem_range.mp hi) 4 q J.1
  exact ⟨this.1, this.2.trans J.2⟩
end
