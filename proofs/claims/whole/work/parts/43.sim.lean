/-! Pure: the simulation. -/
theorem vnar {x : Int32} (h : x = 0 ∨ x = 1) : vp_nar .boolean x = x := by
  rcases h with rfl | rfl <;> rfl
def fN (M T : xM) (i : Nat) : xM := xu (xu (xu (xu (xu (xu (xu (xu T 2 0 (nI i + 1)) 5 i (M 5 i)) 6 i (M 6 i)) 7 i (vp_nar .boolean 1)) 8 i 0) 9 i 0) 10 i 0) 7 i (vp_nar .boolean (M 7 i))
def fT (M T : xM) (i : Nat) : xM := xu (xu (xu (xu (xu T 3 0 (nI i + 1)) 11 i (M 11 i)) 12 i 0) 13 i (-6)) 14 i (-6)
def fS (M T : xM) (p : Int32) : xM := xu (xu (xu (xu (xu T 1 0 p) 1 1 (M 1 1)) 1 2 (M 1 2)) 1 3 (M 1 3)) 1 4 (M 1 4)
def fresh (nn nt : Nat) (M T : xM) (p : Int32) : xM := xu (xu (xu ((List.range nt).foldl (fT M) (xu ((List.range nn).foldl (fN M) (xu (fS M T p) 2 0 0)) 3 0 0)) 4 0 0) 4 10 0) 0 4 0
section
variable {e s nn nt na now g : Nat} {L : List Nat} {N0 M T N : xM}
theorem c_fresh {p : Int32} {post : xM × xM → Prop} (B : Bd e nn nt na now g L M) (k : post (M, fresh nn nt M T p)) : V_X1_startAfresh M T p post := by
  have hN := B.hN
  have hT := B.hT
  unfold V_X1_startAfresh V_X3_copyWithPolicy
  intro T1 e1 T2 e2 T3 e3 T4 e4 T5 e5
  have h5 : T5 = fS M T p := by rw [e5, e4, e3, e2, e1]; rfl
  unfold V_X2_copyUnused
  intro T6 e6
  rw [h5] at e6
  unfold fresh at k
  rw [← e6] at k
  refine loopO (fun n X i => V_X2_copyUnused_L7 _ n M X i) (fN M) (fun X => V_X4_copyUnused M X (fun (u2 : xM × xM) => (V_X0_clear u2.2 (fun T7 => (∀ T8 : xM, T8 = xu T7 0 4 0 → post (u2.1, T8)))))) 0 nn (fun i X => X 2 0 = nI i) ?_ ?_ (fun i X hi hX => by show nI i + 1 = _; exact nI_1 i) T6 (by rw [e6]; exact xu_s) ?_
  · intro n X hX hp
    show V_X2_copyUnused_L7 _ (n + 1) M X _
    rw [V_X2_copyUnused_L7, B.eN, Nat.zero_add]
    exact ⟨fun _ => hp, fun q => absurd (len (Nat.le_refl _) (by omega)) q⟩
  · intro n i X hi hX hW
    rw [Nat.zero_add] at hW ⊢
    have i1 : vp_in (nI i) 8 := inn (by omega) (by omega)
    show V_X2_copyUnused_L7 _ (n + 1) M X (nI i)
    rw [V_X2_copyUnused_L7, B.eN, cln (by omega : i < 1000000)]
    refine ⟨fun q => absurd q (nlen hi (by omega)), fun _ => ⟨i1, i1, ?_⟩⟩
    unfold V_X2_add
    rw [hX]
    refine ⟨fun _ => ?_, fun q => absurd (show nI i < nI 8 from nI_lt (by omega) (by omega)) q⟩
    intro y2 ey2 M3 e3
    rw [ey2, cln (by omega : i < 1000000)]
    refine ⟨i1, fun M5 e5 => ⟨i1, fun M7 e7 => ⟨i1, fun M9 e9 => ⟨i1, fun M11 e11 => ⟨i1, fun M13 e13 => ⟨i1, fun M15 e15 => ⟨i1, i1, fun T9 eT9 y10 e10 => ?_⟩⟩⟩⟩⟩⟩⟩
    rw [e10, nI_1, eT9, e15, e13, e11, e9, e7, e5, e3]
    exact hW
  · unfold V_X4_copyUnused
    intro T7 e7
    rw [← e7] at k
    refine loopO (fun n X i => V_X4_copyUnused_L7 _ n M X i) (fT M) (fun X => V_X0_clear X (fun T7 => (∀ T8 : xM, T8 = xu T7 0 4 0 → post (M, T8)))) 0 nt (fun i X => X 3 0 = nI i) ?_ ?_ (fun i X hi hX => by show nI i + 1 = _; exact nI_1 i) T7 (by rw [e7]; exact xu_s) ?_
    · intro n X hX hp
      show V_X4_copyUnused_L7 _ (n + 1) M X _
      rw [V_X4_copyUnused_L7, B.eT, Nat.zero_add]
      exact ⟨fun _ => hp, fun q => absurd (len (Nat.le_refl _) (by omega)) q⟩
    · intro n i X hi hX hW
      rw [Nat.zero_add] at hW ⊢
      have i1 : vp_in (nI i) 24 := inn (by omega) (by omega)
      show V_X4_copyUnused_L7 _ (n + 1) M X (nI i)
      rw [V_X4_copyUnused_L7, B.eT, cln (by omega : i < 1000000)]
      refine ⟨fun q => absurd q (nlen hi (by omega)), fun _ => ⟨i1, ?_⟩⟩
      unfold V_X4_add
      rw [hX]
      refine ⟨fun _ => ?_, fun q => absurd (show nI i < nI 24 from nI_lt (by omega) (by omega)) q⟩
      intro y2 ey2 M3 e3
      rw [ey2, cln (by omega : i < 1000000)]
      refine ⟨i1, fun M5 e5 => ⟨i1, fun M7 e7 => ⟨i1, fun M9 e9 => ⟨i1, fun M11 e11 y6 e6 => ?_⟩⟩⟩⟩
      rw [e6, nI_1, e11, e9, e7, e5, e3]
      exact hW
    · unfold V_X0_clear
      intro M1 e1 M2 e2 T8 e8
      rw [e8, e2, e1]
      exact k
/-- what stands in it -/
theorem fresh_ok {p : Int32} (B : Bd e nn nt na now g L M) : (fresh nn nt M T p 1 0 = p ∧ fresh nn nt M T p 1 1 = M 1 1 ∧ fresh nn nt M T p 1 2 = M 1 2 ∧ fresh nn nt M T p 1 3 = M 1 3 ∧ fresh nn nt M T p 1 4 = M 1 4) ∧ (fresh nn nt M T p 2 0 = nI nn ∧ fresh nn nt M T p 3 0 = nI nt ∧ fresh nn nt M T p 4 0 = nI 0 ∧ fresh nn nt M T p 4 10 = nI 0 ∧ fresh nn nt M T p 0 4 = nI 0) ∧ (∀ n, n < nn → fresh nn nt M T p 5 n = M 5 n ∧ fresh nn nt M T p 6 n = M 6 n ∧ fresh nn nt M T p 7 n = M 7 n ∧ fresh nn nt M T p 8 n = 0 ∧ fresh nn nt M T p 9 n = 0 ∧ fresh nn nt M T p 10 n = 0) ∧ (∀ t, t < nt → fresh nn nt M T p 11 t = M 11 t ∧ fresh nn nt M T p 12 t = 0 ∧ fresh nn nt M T p 13 t = -6 ∧ fresh nn nt M T p 14 t = -6) := by
  have hN := B.hN
  have hT := B.hT
  have k1 := foldI (fN M) (List.range nn) (fun i X => X 2 0 = nI i ∧ X 1 = fS M T p 1 ∧ ∀ n, n < i → X 5 n = M 5 n ∧ X 6 n = M 6 n ∧ X 7 n = M 7 n ∧ X 8 n = 0 ∧ X 9 n = 0 ∧ X 10 n = 0) (fun i X hi hX => ?_) (xu (fS M T p) 2 0 0) ⟨xu_s, xu_r (by omega), fun n hn => absurd hn (Nat.not_lt_zero n)⟩
  · rw [List.length_range] at k1
    unfold fresh
    generalize (List.range nn).foldl (fN M) (xu (fS M T p) 2 0 0) = Y at k1 ⊢
    obtain ⟨y2, y1, yn⟩ := k1
    have k2 := foldI (fT M) (List.range nt) (fun i X => X 3 0 = nI i ∧ (∀ r, r ≠ 3 → r ≠ 11 → r ≠ 12 → r ≠ 13 → r ≠ 14 → X r = Y r) ∧ ∀ t, t < i → X 11 t = M 11 t ∧ X 12 t = 0 ∧ X 13 t = -6 ∧ X 14 t = -6) (fun i X hi hX => ?_) (xu Y 3 0 0) ⟨xu_s, fun r h1 _ _ _ _ => xu_r h1, fun n hn => absurd hn (Nat.not_lt_zero n)⟩
    · rw [List.length_range] at k2
      generalize (List.range nt).foldl (fT M) (xu Y 3 0 0) = X at k2 ⊢
      obtain ⟨x3, xr, xt⟩ := k2
      have e1 : ∀ j, (xu (xu (xu X 4 0 0) 4 10 0) 0 4 0) 1 j = fS M T p 1 j := fun j => by
        show X 1 j = _
        rw [xr 1 (by omega) (by omega) (by omega) (by omega) (by omega), y1]
      refine ⟨⟨?_, ?_, ?_, ?_, ?_⟩, ⟨?_, x3, ?_, ?_, ?_⟩, ?_, xt⟩
      · rw [e1]; simp [fS, xu, upd]
      · rw [e1]; simp [fS, xu, upd]
      · rw [e1]; simp [fS, xu, upd]
      · rw [e1]; simp [fS, xu, upd]
      · rw [e1]; simp [fS, xu, upd]
      · show X 2 0 = _
        rw [xr 2 (by omega) (by omega) (by omega) (by omega) (by omega), y2]
      · simp [xu, upd]; rfl
      · simp [xu, upd]; rfl
      · simp [xu, upd]; rfl
      · intro n hn
        have z := yn n hn
        show X 5 n = _ ∧ X 6 n = _ ∧ X 7 n = _ ∧ X 8 n = _ ∧ X 9 n = _ ∧ X 10 n = _
        rw [xr 5 (by omega) (by omega) (by omega) (by omega) (by omega), xr 6 (by omega) (by omega) (by omega) (by omega) (by omega), xr 7 (by omega) (by omega) (by omega) (by omega) (by omega), xr 8 (by omega) (by omega) (by omega) (by omega) (by omega), xr 9 (by omega) (by omega) (by omega) (by omega) (by omega), xr 10 (by omega) (by omega) (by omega) (by omega) (by omega)]
        exact z
    · rw [List.getElem_range]
      obtain ⟨x3, xr, xt⟩ := hX
      refine ⟨by show nI i + 1 = _; exact nI_1 i, fun r h1 h2 h3 h4 h5 => ?_, fun t ht => ?_⟩
      · unfold fT
        rw [xu_r h5, xu_r h4, xu_r h3, xu_r h2, xu_r h1]
        exact xr r h1 h2 h3 h4 h5
      · show (if t = i then _ else X 11 t) = _ ∧ (if t = i then _ else X 12 t) = _ ∧ (if t = i then _ else X 13 t) = _ ∧ (if t = i then _ else X 14 t) = _
        by_cases q : t = i
        · subst q
          simp only [if_pos rfl]
          exact ⟨rfl, rfl, rfl, rfl⟩
        · rw [if_neg q, if_neg q, if_neg q, if_neg q]
          exact xt t (by omega)
  · rw [List.length_range] at hi
    rw [List.getElem_range]
    obtain ⟨x2, x1, xn⟩ := hX
    refine ⟨by show nI i + 1 = _; exact nI_1 i, x1, fun n hn => ?_⟩
    obtain ⟨-, -, h7, -⟩ := B.2.1 i hi
    by_cases q : n = i
    · subst q
      refine ⟨?_, ?_, ?_, ?_, ?_, ?_⟩ <;> simp [fN, xu, upd, vnar h7]
    · have z := xn n (by omega)
      refine ⟨?_, ?_, ?_, ?_, ?_, ?_⟩ <;> simp [fN, xu, upd, q, z]
theorem fresh_iv {p : Int32} (B : Bd e nn nt na now g L M) : Iv 0 nn nt 0 0 0 (run 0 (fresh nn nt M T p)) (fresh nn nt M T p) ∧ opn nt (fresh nn nt M T p) = nt := by
  obtain ⟨-, ⟨f2, f3, f4, f10, f0⟩, fn, ft⟩ := fresh_ok (T := T) (p := p) B
  refine ⟨⟨⟨⟨⟨f2, B.hN⟩, ⟨f3, B.hT⟩, ⟨f4, by omega⟩, f0, by omega⟩, fun n hn => ?_, fun t ht => ?_, fun a ha => absurd ha (Nat.not_lt_zero a), by omega⟩, ⟨f10, fun i hi => absurd hi (Nat.not_lt_zero i)⟩, rfl⟩, ?_⟩
  · obtain ⟨a5, a6, a7, a8, -, a10⟩ := fn n hn
    obtain ⟨b1, ⟨v, b2, b3, b4⟩, b5, -, -⟩ := B.2.1 n hn
    unfold nodeOk
    rw [a5, a6, a7, a8, a10]
    exact ⟨b1, ⟨v, b2, b3, Nat.zero_le _⟩, b5, rfl, 0, Nat.zero_le _, rfl⟩
  · obtain ⟨a11, -, a13, a14⟩ := ft t ht
    unfold taskOk
    rw [a11, a13, a14]
    exact ⟨(B.2.2.1 t ht).1, Or.inl ⟨rfl, rfl⟩⟩
  · unfold opn
    rw [List.filter_eq_self.mpr (fun t ht => by simp [(ft t (List.mem_range.mp ht)).2.2.1]), List.length_range]
/-- the reference clears its second half -/
def rcl (X : xM) (i : Nat) : xM := xu (xu (xu X 13 (24 + i) (-6)) 14 (24 + i) (-6)) 15 (24 + i) 0
def rcn (X : xM) (i : Nat) : xM := xu (xu (xu X 16 (8 + i) 0) 17 (8 + i) 0) 18 (8 + i) 0
theorem z1 : (1 : Int32).toNatClampNeg = 1 := rfl
theorem r_clears {post : xM → Prop} (k : post ((List.range 8).foldl rcn ((List.range 24).foldl rcl (xu (xu N 5 1 0) 6 1 0)))) : V_X6_clears N post := by
  unfold V_X6_clears
  rw [z1]
  refine ⟨in12, fun N2 e2 => ⟨in12, fun N4 e4 => ?_⟩⟩
  have k2 : post ((List.range 8).foldl rcn ((List.range 24).foldl rcl N4)) := by rw [e4, e2]; exact k
  refine loopO (fun n X i => V_X6_clears_L17 post n X i) rcl (fun X => post ((List.range 8).foldl rcn X)) 24 24 (fun _ _ => True) ?_ ?_ (fun _ _ _ _ => trivial) N4 trivial k2
  · intro n X _ hX
    show V_X6_clears_L17 post (n + 1) X (nI 48)
    rw [V_X6_clears_L17]
    refine ⟨fun _ => ?_, fun q => absurd (show nI 48 ≤ nI 48 from len (Nat.le_refl _) (by omega)) q⟩
    refine loopO (fun n X i => V_X6_clears_L55 post n X i) rcn post 8 8 (fun _ _ => True) ?_ ?_ (fun _ _ _ _ => trivial) X trivial hX
    · intro n X _ hX
      show V_X6_clears_L55 post (n + 1) X (nI 16)
      rw [V_X6_clears_L55]
      exact ⟨fun _ => hX, fun q => absurd (show nI 16 ≤ nI 16 from len (Nat.le_refl _) (by omega)) q⟩
    · intro n i X hi _ hW
      have i1 : vp_in (nI (8 + i)) 16 := inn (by omega) (by omega)
      show V_X6_clears_L55 post (n + 1) X (nI (8 + i))
      rw [V_X6_clears_L55, cln (by omega : 8 + i < 1000000)]
      refine ⟨fun q => absurd q (show ¬ nI 16 ≤ nI (8 + i) from nlen (by omega) (by omega)), fun _ => ⟨i1, fun N8 e8 => ⟨i1, fun N10 e10 => ⟨i1, fun N12 e12 y13 e13 => ?_⟩⟩⟩⟩
      rw [e13, nI_1, e12, e10, e8]
      exact hW
  · intro n i X hi _ hW
    have i1 : vp_in (nI (24 + i)) 48 := inn (by omega) (by omega)
    show V_X6_clears_L17 post (n + 1) X (nI (24 + i))
    rw [V_X6_clears_L17, cln (by omega : 24 + i < 1000000)]
    refine ⟨fun q => absurd q (show ¬ nI 48 ≤ nI (24 + i) from nlen (by omega) (by omega)), fun _ => ⟨i1, fun N8 e8 => ⟨i1, fun N10 e10 => ⟨i1, fun N12 e12 y13 e13 => ?_⟩⟩⟩⟩
    rw [e13, nI_1, e12, e10, e8]
    exact hW
theorem cleared : (∀ r j, ¬ own1 r j → ((List.range 8).foldl rcn ((List.range 24).foldl rcl (xu (xu N 5 1 0) 6 1 0))) r j = N r j) ∧ ((List.range 8).foldl rcn ((List.range 24).foldl rcl (xu (xu N 5 1 0) 6 1 0))) 5 1 = 0 ∧ ((List.range 8).foldl rcn ((List.range 24).foldl rcl (xu (xu N 5 1 0) 6 1 0))) 6 1 = 0 ∧ (∀ t, t < 24 → ((List.range 8).foldl rcn ((List.range 24).foldl rcl (xu (xu N 5 1 0) 6 1 0))) 13 (24 + t) = -6 ∧ ((List.range 8).foldl rcn ((List.range 24).foldl rcl (xu (xu N 5 1 0) 6 1 0))) 14 (24 + t) = -6 ∧ ((List.range 8).foldl rcn ((List.range 24).foldl rcl (xu (xu N 5 1 0) 6 1 0))) 15 (24 + t) = 0) ∧ (∀ n, n < 8 → ((List.range 8).foldl rcn ((List.range 24).foldl rcl (xu (xu N 5 1 0) 6 1 0))) 16 (8 + n) = 0 ∧ ((List.range 8).foldl rcn ((List.range 24).foldl rcl (xu (xu N 5 1 0) 6 1 0))) 17 (8 + n) = 0 ∧ ((List.range 8).foldl rcn ((List.range 24).foldl rcl (xu (xu N 5 1 0) 6 1 0))) 18 (8 + n) = 0) := by
  have k1 := foldI rcl (List.range 24) (fun i X => (∀ r j, ¬ own1 r j → X r j = N r j) ∧ X 5 1 = 0 ∧ X 6 1 = 0 ∧ ∀ t, t < i → X 13 (24 + t) = -6 ∧ X 14 (24 + t) = -6 ∧ X 15 (24 + t) = 0) (fun i X hi hX => ?_) (xu (xu N 5 1 0) 6 1 0) ?_
  · generalize (List.range 24).foldl rcl (xu (xu N 5 1 0) 6 1 0) = Y at k1 ⊢
    rw [List.length_range] at k1
    obtain ⟨a1, a2, a3, a4⟩ := k1
    have k2 := foldI rcn (List.range 8) (fun i X => (∀ r j, ¬ own1 r j → X r j = N r j) ∧ (∀ r, r ≠ 16 → r ≠ 17 → r ≠ 18 → X r = Y r) ∧ ∀ t, t < i → X 16 (8 + t) = 0 ∧ X 17 (8 + t) = 0 ∧ X 18 (8 + t) = 0) (fun i X hi hX => ?_) Y ⟨a1, fun _ _ _ _ => rfl, fun t ht => absurd ht (Nat.not_lt_zero t)⟩
    · generalize (List.range 8).foldl rcn Y = X at k2 ⊢
      rw [List.length_range] at k2
      obtain ⟨b1, b2, b3⟩ := k2
      refine ⟨b1, ?_, ?_, ?_, b3⟩
      · rw [b2 5 (by omega) (by omega) (by omega)]; exact a2
      · rw [b2 6 (by omega) (by omega) (by omega)]; exact a3
      · rw [b2 13 (by omega) (by omega) (by omega), b2 14 (by omega) (by omega) (by omega), b2 15 (by omega) (by omega) (by omega)]; exact a4
    · rw [List.getElem_range]
      obtain ⟨b1, b2, b3⟩ := hX
      refine ⟨fun r j ho => ?_, fun r h1 h2 h3 => ?_, fun t ht => ?_⟩
      · unfold rcn
        rw [xu_at, xu_at, xu_at, if_neg (fun z => ho (by rw [z.1, z.2]; exact Or.inr (Or.inr (Or.inr (Or.inr ⟨by omega, by omega, by omega⟩))))), if_neg (fun z => ho (by rw [z.1, z.2]; exact Or.inr (Or.inr (Or.inr (Or.inr ⟨by omega, by omega, by omega⟩))))), if_neg (fun z => ho (by rw [z.1, z.2]; exact Or.inr (Or.inr (Or.inr (Or.inr ⟨by omega, by omega, by omega⟩)))))]
        exact b1 r j ho
      · unfold rcn
        rw [xu_r h3, xu_r h2, xu_r h1]
        exact b2 r h1 h2 h3
      · by_cases q : t = i
        · subst q
          refine ⟨?_, ?_, ?_⟩ <;> simp [rcn, xu, upd]
        · have z := b3 t (by omega)
          have q2 : ¬ 8 + t = 8 + i := by omega
          refine ⟨?_, ?_, ?_⟩ <;> simp [rcn, xu, upd, q, z]
  · rw [List.getElem_range]
    obtain ⟨a1, a2, a3, a4⟩ := hX
    refine ⟨fun r j ho => ?_, a2, a3, fun t ht => ?_⟩
    · unfold rcl
      rw [xu_at, xu_at, xu_at, if_neg (fun z => ho (by rw [z.1, z.2]; exact Or.inr (Or.inr (Or.inr (Or.inl ⟨by omega, by omega, by omega⟩))))), if_neg (fun z => ho (by rw [z.1, z.2]; exact Or.inr (Or.inr (Or.inr (Or.inl ⟨by omega, by omega, by omega⟩))))), if_neg (fun z => ho (by rw [z.1, z.2]; exact Or.inr (Or.inr (Or.inr (Or.inl ⟨by omega, by omega, by omega⟩)))))]
      exact a1 r j ho
    · by_cases q : t = i
      · subst q
        refine ⟨?_, ?_, ?_⟩ <;> simp [rcl, xu, upd]
      · have z := a4 t (by omega)
        refine ⟨?_, ?_, ?_⟩ <;> simp [rcl, xu, upd, q, z]
  · refine ⟨fun r j ho => ?_, by simp [xu, upd], by simp [xu, upd], fun t ht => absurd ht (Nat.not_lt_zero t)⟩
    rw [xu_at, xu_at, if_neg (fun z => ho (Or.inr (Or.inl z))), if_neg (fun z => ho (Or.inl z))]
theorem rel_fresh {p : Int32} (h : Rel 0 nn nt na N0 M N) (B : Bd e nn nt na now g L M) : Rel 1 nn nt 0 (xu N 0 11 1) (fresh nn nt M T p) ((List.range 8).foldl rcn ((List.range 24).foldl rcl (xu (xu (xu N 0 11 1) 5 1 0) 6 1 0))) := by
  have hN := B.hN
  have hT := B.hT
  obtain ⟨⟨-, g1, g2, g3, g4⟩, ⟨f2, f3, f4, f10, f0⟩, fn, ft⟩ := fresh_ok (T := T) (p := p) B
  obtain ⟨c1, c2, c3, c4, c5⟩ := cleared (N := xu N 0 11 1)
  generalize (List.range 8).foldl rcn ((List.range 24).foldl rcl (xu (xu (xu N 0 11 1) 5 1 0) 6 1 0)) = Y at c1 c2 c3 c4 c5 ⊢
  have y0 : ∀ j, Y 0 j = xu N 0 11 1 0 j := fun j => c1 0 j (by unfold own1; omega)
  have yr : ∀ r j, 1 ≤ r → r ≤ 4 → Y r j = N r j := fun r j h1 h2 => by
    rw [c1 r j (by unfold own1; omega), xu_r (by omega)]
  refine ⟨⟨?_, ?_, ?_, ?_, ?_, ?_, ?_, c2, ?_⟩, fun r j q1 q2 q3 => ?_, ?_, fun _ => c1, fun z => absurd z (by omega)⟩
  · rw [y0, xu_c (by omega), f2, h.1.1, B.eN]
  · rw [y0, xu_c (by omega), f3, h.1.2.1, B.eT]
  · rw [y0, xu_c (by omega), g1, h.1.2.2.1]
  · rw [y0, xu_c (by omega), g2, h.1.2.2.2.1]
  · rw [y0, xu_c (by omega), g3, h.1.2.2.2.2.1]
  · rw [y0, xu_c (by omega), g4, h.1.2.2.2.2.2.1]
  · rw [y0, xu_s]; rfl
  · rw [c3, f0]; rfl
  · rcases (show r = 5 ∨ r = 6 ∨ r = 7 ∨ r = 8 ∨ r = 9 ∨ r = 10 ∨ r = 11 ∨ r = 12 ∨ r = 13 ∨ r = 14 ∨ 15 ≤ r by omega) with rfl | rfl | rfl | rfl | rfl | rfl | rfl | rfl | rfl | rfl | q
    · have q3 : j < nn := q3
      show Y 1 (0 + j) = _
      rw [Nat.zero_add, yr 1 j (by omega) (by omega), h.a5 q3, (fn j q3).1]
    · have q3 : j < nn := q3
      show Y 2 (0 + j) = _
      rw [Nat.zero_add, yr 2 j (by omega) (by omega), h.a6 q3, (fn j q3).2.1]
    · have q3 : j < nn := q3
      show Y 3 (0 + j) = _
      rw [Nat.zero_add, yr 3 j (by omega) (by omega), h.a7 q3, (fn j q3).2.2.1]
    · have q3 : j < nn := q3
      show Y 16 (8 + j) = _
      rw [(c5 j (by omega)).1, (fn j q3).2.2.2.1]
    · have q3 : j < nn := q3
      show Y 18 (8 + j) = _
      rw [(c5 j (by omega)).2.2, (fn j q3).2.2.2.2.1]
    · have q3 : j < nn := q3
      show Y 17 (8 + j) = _
      rw [(c5 j (by omega)).2.1, (fn j q3).2.2.2.2.2]
    · have q3 : j < nt := q3
      show Y 4 (0 + j) = _
      rw [Nat.zero_add, yr 4 j (by omega) (by omega), h.a11 q3, (ft j q3).1]
    · have q3 : j < nt := q3
      show Y 15 (24 + j) = _
      rw [(c4 j (by omega)).2.2, (ft j q3).2.1]
    · have q3 : j < nt := q3
      show Y 13 (24 + j) = _
      rw [(c4 j (by omega)).1, (ft j q3).2.2.1]
    · have q3 : j < nt := q3
      show Y 14 (24 + j) = _
      rw [(c4 j (by omega)).2.1, (ft j q3).2.2.2]
    · unfold lim at q3
      rw [if_neg (by omega), if_neg (by omega)] at q3
      exact absurd q3 (Nat.not_lt_zero j)
  · rw [y0]
/-- the simulation's run -/
def stp (nt now : Nat) (T : xM) : Prop := 2000 ≤ now ∨ opn nt T = 0
def simR (nn nt : Nat) : Nat → Nat → Nat → xM → Nat → xM → Prop
  | 0, _, na, T, na', T' => na' = na ∧ T' = T
  | k + 1, now, na, T, na', T' => (stp nt now T ∧ na' = na ∧ T' = T) ∨ (¬ stp nt now T ∧ ∃ c na1 T1, tkR nn nt na T c na1 T1 ∧ simR nn nt k (now + 1) na1 T1 na' T')
theorem opn_le (nt : Nat) (T : xM) : opn nt T ≤ nt := by
  unfold opn
  refine Nat.le_trans (List.length_filter_le _ _) ?_
  rw [List.length_range]
  exact Nat.le_refl _
theorem c_sim {post : Int32 → xM × xM → Prop} : ∀ (k now na : Nat) (T : xM), now + k = 2000 → Iv 0 nn nt na now now (run na T) T → (∀ na' T' now', Iv 0 nn nt na' now' now' (run na' T') T' → simR nn nt k now na T na' T' → post (lfR T' (List.range nt) (-6)) (M, T')) → V_X5_simulatedMakespan_L35 post (k + 1) M T (nI (opn nt T)) (nI now) := by
  intro k
  induction k with
  | zero =>
    intro now na T hn I hk
    rw [V_X5_simulatedMakespan_L35, show now = 2000 by omega]
    refine ⟨fun _ => c_lf I.B (hk na T now I ⟨rfl, rfl⟩), fun q => absurd (show nI 2000 ≤ nI 2000 from len (Nat.le_refl _) (by omega)) q⟩
  | succ k ih =>
    intro now na T hn I hk
    have hT := I.B.hT
    have ho := opn_le nt T
    rw [V_X5_simulatedMakespan_L35]
    refine ⟨fun q => absurd q (show ¬ nI 2000 ≤ nI now from nlen (by omega) (by omega)), fun _ => ⟨fun q => ?_, fun q => ?_⟩⟩
    · have h0 : opn nt T = 0 := by
        have z := (nI_z (by omega)).mp q
        exact (nI_eq (b := 0) (by omega) (by omega)).mp z
      exact c_lf I.B (hk na T now I (Or.inl ⟨Or.inr h0, rfl, rfl⟩))
    · have h0 : ¬ opn nt T = 0 := fun z => q (by rw [z]; exact le00)
      refine c_tick I (by omega) (fun c na1 T1 ht y14 e14 y15 e15 => ?_)
      obtain ⟨I1, -, d, hd, ed, hop⟩ := iv_tick I (by omega) ht
      rw [e14, e15, nI_1, ed, pk_sub (by omega), show opn nt T - d = opn nt T1 by omega]
      refine ih (now + 1) na1 T1 (by omega) I1 (fun na' T' now' J hs => hk na' T' now' J (Or.inr ⟨?_, c, na1, T1, ht, hs⟩))
      rintro (z | z)
      · omega
      · exact h0 z
theorem r_sim {post : Int32 → xM → Prop} {pol : Int32} : ∀ (k now na : Nat) (T N : xM) (na' : Nat) (T' : xM), now + k = 2000 → Iv 0 nn nt na now now (run na T) T → T 1 0 = pol → Rel 1 nn nt na N0 T N → simR nn nt k now na T na' T' → (∀ N', Rel 1 nn nt na' N0 T' N' → ∀ N8, N8 = xu N' 0 11 0 → post (lfR T' (List.range nt) (-6)) N8) → V_X6_simulatedMakespan_L21 post (k + 1) N pol := by
  intro k
  induction k with
  | zero =>
    intro now na T N na' T' hn I hp h hs hk
    obtain ⟨rfl, rfl⟩ := hs
    have hT := I.B.hT
    have nw := h.nw
    rw [I.B.eW, show now = 2000 by omega] at nw
    rw [V_X6_simulatedMakespan_L21, h.1.2.1, I.B.eT, z1]
    have fin : V_X6_greatestFinish N (fun r7 N6 => (∀ N8 : xM, N8 = xu N6 0 11 0 → post r7 N8)) := r_lf h (by omega) I.B (hk N h)
    refine ⟨fun _ => fin, fun _ => r_lf h (by omega) I.B ⟨fun _ => ⟨in12, ?_⟩, fun _ => fin⟩⟩
    rw [nw]
    exact ⟨fun _ => fin, fun q => absurd (show nI 2000 ≤ nI 2000 from len (Nat.le_refl _) (by omega)) q⟩
  | succ k ih =>
    intro now na T N na' T' hn I hp h hs hk
    have hT := I.B.hT
    have nw := h.nw
    rw [I.B.eW] at nw
    rw [V_X6_simulatedMakespan_L21, h.1.2.1, I.B.eT, z1]
    have hnw : ¬ nI 2000 ≤ nI now := nlen (by omega) (by omega)
    rcases hs with ⟨hst, rfl, rfl⟩ | ⟨hst, c, na1, T1, ht, hs⟩
    · have h0 : opn nt T' = 0 := by
        rcases hst with z | z
        · omega
        · exact z
      have fin : V_X6_greatestFinish N (fun r7 N6 => (∀ N8 : xM, N8 = xu N6 0 11 0 → post r7 N8)) := r_lf h (by omega) I.B (hk N h)
      refine ⟨fun _ => fin, fun q => r_lf h (by omega) I.B ⟨fun q2 => ?_, fun _ => fin⟩⟩
      have hpos : 0 < nt := by
        rcases Nat.eq_zero_or_pos nt with z | z
        · exact absurd (by rw [z]; exact le00) q
        · exact z
      exact absurd h0 ((lf_iff I.B hpos).mp q2)
    · have h0 : ¬ opn nt T = 0 := fun z => hst (Or.inr z)
      have hpos : 0 < nt := by have := opn_le nt T; omega
      refine ⟨fun q => absurd q (nI_nle hpos (by omega)), fun _ => r_lf h (by omega) I.B ⟨fun _ => ⟨in12, ?_⟩, fun q => absurd ((lf_iff I.B hpos).mpr h0) q⟩⟩
      rw [nw]
      refine ⟨fun q => absurd q hnw, fun _ => ?_⟩
      rw [← hp]
      obtain ⟨I1, es, -⟩ := iv_tick I (by omega) ht
      refine r_tick h (by omega) I (by omega) ht (fun N1 h1 => ?_)
      rw [hp]
      exact ih (now + 1) na1 T1 N1 na' T' (by omega) I1 (by rw [es, hp]) h1 hs hk
/-- behind a simulation the job's own half stands -/
theorem not_own (hN : nn ≤ 8) (hT : nt ≤ 24) (hA : na ≤ 200) {r j : Nat} (h1 : 5 ≤ r) (h2 : r ≤ 20) (h3 : j < lim nn nt na r) : ¬ own1 (rho r) (ofs 0 r + j) := by
  have h0 : ofs 0 r = 0 := by
    unfold ofs
    split
    · rfl
    · split
      · rfl
      · split
        · rfl
        · split <;> rfl
  rw [h0, Nat.zero_add]
  unfold lim at h3
  rcases (show r = 5 ∨ r = 6 ∨ r = 7 ∨ r = 8 ∨ r = 9 ∨ r = 10 ∨ r = 11 ∨ r = 12 ∨ r = 13 ∨ r = 14 ∨ r = 15 ∨ r = 16 ∨ r = 17 ∨ r = 18 ∨ r = 19 ∨ r = 20 by omega) with rfl | rfl | rfl | rfl | rfl | rfl | rfl | rfl | rfl | rfl | rfl | rfl | rfl | rfl | rfl | rfl <;> simp [rho, own1] at h3 ⊢ <;> omega
theorem rel_back {N' T' : xM} {na' : Nat} (h : Rel 0 nn nt na N M N) (B : Bd e nn nt na now g L M) (h' : Rel 1 nn nt na' (xu N 0 11 1) T' N') : Rel 0 nn nt na (xu N' 0 11 0) M (xu N' 0 11 0) ∧ (xu N' 0 11 0) 0 6 = N 0 6 := by
  have hk := h'.2.2.2.1 rfl
  have e0 : ∀ j, j ≠ 11 → (xu N' 0 11 0) 0 j = N 0 j := fun j hj => by
    rw [xu_c hj, hk 0 j (by unfold own1; omega), xu_c hj]
  have er : ∀ r j, r ≠ 0 → ¬ own1 r j → (xu N' 0 11 0) r j = N r j := fun r j hr ho => by
    rw [xu_r hr, hk r j ho, xu_r hr]
  obtain ⟨⟨a1, a2, a3, a4, a5, a6, a7, a8, a9⟩, ha, -, -, hz⟩ := h
  refine ⟨⟨⟨?_, ?_, ?_, ?_, ?_, ?_, ?_, ?_, ?_⟩, fun r j q1 q2 q3 => ?_, rfl, fun z => absurd z (by omega), fun _ => ⟨fun j j1 j2 => ?_, fun t t1 t2 => ?_⟩⟩, e0 6 (by omega)⟩
  · rw [e0 0 (by omega)]; exact a1
  · rw [e0 4 (by omega)]; exact a2
  · rw [e0 7 (by omega)]; exact a3
  · rw [e0 8 (by omega)]; exact a4
  · rw [e0 9 (by omega)]; exact a5
  · rw [e0 10 (by omega)]; exact a6
  · rw [xu_s]; rfl
  · rw [er 5 0 (by omega) (by unfold own1; omega)]; exact a8
  · rw [er 6 0 (by omega) (by unfold own1; omega)]; exact a9
  · rw [er (rho r) _ (rho_0 r (by omega) q1).1 (not_own B.hN B.hT B.hA q1 q2 q3)]
    exact ha r j q1 q2 q3
  · rw [er 16 j (by omega) (by unfold own1; omega), er 17 j (by omega) (by unfold own1; omega), er 18 j (by omega) (by unfold own1; omega)]
    exact (hz rfl).1 j j1 j2
  · rw [er 15 t (by omega) (by unfold own1; omega)]
    exact (hz rfl).2 t t1 t2
end
