/-! Pure: the calls that write. -/
section
variable {b nn nt na now : Nat} {N0 M T N : xM} {Q : Int32 → xM × xM → Prop}
theorem ofs0 (r : Nat) : ofs 0 r = 0 := by
  unfold ofs
  split
  · rfl
  · split
    · rfl
    · split
      · rfl
      · split <;> rfl
theorem Rel.wr0 (h : Rel 0 nn nt na N0 M N) (r j : Nat) (x : Int32) (hr : r = 5 ∨ r = 6 ∨ r = 7 ∨ r = 11) : Rel 0 nn nt na N0 (xu M r j x) (xu N (rho r) j x) := by
  have ar : ∀ r' j', 5 ≤ r' → r' ≤ 20 → j' < lim nn nt na r' → xu N (rho r) j x (rho r') (ofs 0 r' + j') = xu M r j x r' j' := by
    intro r' j' g1 g2 g3
    rw [xu_at, xu_at, ofs0, Nat.zero_add]
    by_cases q : r' = r ∧ j' = j
    · rw [if_pos q, if_pos ⟨by rw [q.1], q.2⟩]
    · rw [if_neg q, if_neg (fun z => q ⟨rho_inj r' (by omega) r (by omega) g1 (by omega) z.1, z.2⟩)]
      have := h.2.1 r' j' g1 g2 g3
      rw [ofs0, Nat.zero_add] at this
      exact this
  rcases hr with rfl | rfl | rfl | rfl
  · exact ⟨h.1, ar, h.2.2.1, fun z => absurd z (by omega), h.2.2.2.2⟩
  · exact ⟨h.1, ar, h.2.2.1, fun z => absurd z (by omega), h.2.2.2.2⟩
  · exact ⟨h.1, ar, h.2.2.1, fun z => absurd z (by omega), h.2.2.2.2⟩
  · exact ⟨h.1, ar, h.2.2.1, fun z => absurd z (by omega), h.2.2.2.2⟩
theorem nIr {x lo hi : Int32} {k : Nat} (hl : 0 ≤ lo.toInt) (hh : hi.toInt = k) (h1 : ¬ x < lo) (h2 : ¬ hi < x) : ∃ v : Nat, v ≤ k ∧ lo.toInt ≤ v ∧ x = nI v := by
  obtain ⟨v, hv, ev⟩ := nI_of2 (x := x) (M := hi) (n := k) hh (fun z => h1 (by
    rw [Int32.lt_iff_toInt_lt] at z ⊢
    rw [show ((0 : Int32)).toInt = 0 from by decide] at z
    omega)) (Int32.not_lt.mp h2)
  refine ⟨v, hv, ?_, ev⟩
  rw [ev, Int32.lt_iff_toInt_lt] at h1
  have hb : hi.toInt < 2 ^ 31 := Int32.toInt_lt hi
  rw [nI_toInt (by omega)] at h1
  omega
theorem iv5 {j v : Nat} {x : Int32} (I : Iv 0 nn nt na now now (run na M) M) (hv : v ≤ 100) (ex : x = nI v) : Iv 0 nn nt na now now (run na (xu M 5 j x)) (xu M 5 j x) := by
  refine ⟨⟨I.B.1, fun n hn => ?_, I.B.2.2.1, I.B.2.2.2.1, I.B.2.2.2.2⟩, I.l, rfl⟩
  obtain ⟨b1, b2, b3, b4, b5⟩ := I.B.2.1 n hn
  refine ⟨?_, b2, b3, b4, b5⟩
  rw [xu_at]
  by_cases q : 5 = 5 ∧ n = j
  · rw [if_pos q]; exact ⟨v, hv, ex⟩
  · rw [if_neg q]; exact b1
theorem iv7 {j : Nat} {x : Int32} (I : Iv 0 nn nt na now now (run na M) M) (hx : x = 0 ∨ x = 1) : Iv 0 nn nt na now now (run na (xu M 7 j x)) (xu M 7 j x) := by
  refine ⟨⟨I.B.1, fun n hn => ?_, I.B.2.2.1, I.B.2.2.2.1, I.B.2.2.2.2⟩, I.l, rfl⟩
  obtain ⟨b1, b2, b3, b4, b5⟩ := I.B.2.1 n hn
  refine ⟨b1, b2, ?_, b4, b5⟩
  rw [xu_at]
  by_cases q : 7 = 7 ∧ n = j
  · rw [if_pos q]; exact hx
  · rw [if_neg q]; exact b3
theorem iv1 {j : Nat} {x : Int32} (I : Iv 0 nn nt na now now (run na M) M) : Iv 0 nn nt na now now (run na (xu M 1 j x)) (xu M 1 j x) := ⟨⟨I.B.1, I.B.2.1, I.B.2.2.1, I.B.2.2.2.1, I.B.2.2.2.2⟩, I.l, rfl⟩
theorem b_setSpeed {x y : Int32} (h : LI b M N) (hq : ∀ r M' T', (∀ post : Int32 → xM → Prop, (∀ N', LI (b + 500) M' N' → post r N') → V_X6_setSpeed N x y post) → Q r (M', T')) : V_X5_setSpeed M T x y Q := by
  obtain ⟨nn, nt, na, now, I, R, hp, hb⟩ := id h
  have hN := I.B.hN
  have eN : N 0 0 = nI nn := by rw [R.1.1]; exact I.B.eN
  unfold V_X5_setSpeed
  unfold V_X6_setSpeed at hq
  rcases ix3 x (n := nn) (by omega) with ho | ⟨j, hj, rfl⟩
  · exact h2_o I.B.eN ho ⟨fun _ => hq _ M T (fun post hk => n_o eN (by omega) ho ⟨fun _ => hk N h.up, fun z => absurd rfl z⟩), fun z => absurd rfl z⟩
  refine h2_i I.B.eN (by omega) hj ⟨fun z => absurd z (by decide), fun _ => ?_⟩
  by_cases ho : y < 0 ∨ 100 < y
  · exact rng_o ho ⟨fun _ => hq _ M T (fun post hk => n_i eN (by omega) hj ⟨fun z => absurd z (by decide), fun _ => win_o ho ⟨fun _ => hk N h.up, fun z => absurd rfl z⟩⟩), fun z => absurd rfl z⟩
  have h1 : ¬ y < 0 := fun z => ho (Or.inl z)
  have h2 : ¬ 100 < y := fun z => ho (Or.inr z)
  obtain ⟨v, hv, -, ev⟩ := nIr (k := 100) (by decide) (by decide) h1 h2
  have i1 : vp_in (nI j) 8 := inn (by omega) (by omega)
  rw [cln (by omega : j < 1000000)] at hq ⊢
  refine rng_i h1 h2 ⟨fun z => absurd z (by decide), fun _ => ⟨i1, fun y7 e7 => ⟨i1, fun M9 e9 => ?_⟩⟩⟩
  rw [e7, e9]
  refine hq _ _ T (fun post hk => n_i eN (by omega) hj ⟨fun z => absurd z (by decide), fun _ => win_i h1 h2 ⟨fun z => absurd z (by decide), fun _ => ⟨i1, fun z7 f7 => ⟨i1, fun N9 f9 => ?_⟩⟩⟩⟩)
  rw [f7, f9, R.a5 hj]
  exact hk _ ⟨nn, nt, na, now, iv5 I hv ev, relS (R.wr0 5 j y (Or.inl rfl)), hp, by omega⟩
theorem b_repairNode {x : Int32} (h : LI b M N) (hq : ∀ r M' T', (∀ post : Int32 → xM → Prop, (∀ N', LI (b + 500) M' N' → post r N') → V_X6_repairNode N x post) → Q r (M', T')) : V_X5_repairNode M T x Q := by
  obtain ⟨nn, nt, na, now, I, R, hp, hb⟩ := id h
  have hN := I.B.hN
  have eN : N 0 0 = nI nn := by rw [R.1.1]; exact I.B.eN
  unfold V_X5_repairNode
  unfold V_X6_repairNode at hq
  rcases ix3 x (n := nn) (by omega) with ho | ⟨j, hj, rfl⟩
  · exact h2_o I.B.eN ho ⟨fun _ => hq _ M T (fun post hk => n_o eN (by omega) ho ⟨fun _ => hk N h.up, fun z => absurd rfl z⟩), fun z => absurd rfl z⟩
  have i1 : vp_in (nI j) 8 := inn (by omega) (by omega)
  rw [cln (by omega : j < 1000000)] at hq ⊢
  refine h2_i I.B.eN (by omega) hj ⟨fun z => absurd z (by decide), fun _ => ⟨i1, fun q => ⟨i1, fun M7 e7 => ?_⟩, fun q => ⟨i1, fun M7 e7 => ?_⟩⟩⟩
  · rw [e7]
    refine hq _ _ T (fun post hk => n_i eN (by omega) hj ⟨fun z => absurd z (by decide), fun _ => ⟨i1, ?_⟩⟩)
    rw [R.a7 hj]
    refine ⟨fun _ => ⟨i1, fun N7 f7 => ?_⟩, fun z => absurd q z⟩
    rw [f7]
    exact hk _ ⟨nn, nt, na, now, iv7 I (Or.inr rfl), relS (R.wr0 7 j _ (Or.inr (Or.inr (Or.inl rfl)))), hp, by omega⟩
  · rw [e7]
    refine hq _ _ T (fun post hk => n_i eN (by omega) hj ⟨fun z => absurd z (by decide), fun _ => ⟨i1, ?_⟩⟩)
    rw [R.a7 hj]
    refine ⟨fun z => absurd z q, fun _ => ⟨i1, fun N7 f7 => ?_⟩⟩
    rw [f7]
    exact hk _ ⟨nn, nt, na, now, iv7 I (Or.inr rfl), relS (R.wr0 7 j _ (Or.inr (Or.inr (Or.inl rfl)))), hp, by omega⟩
theorem b_failNode {x : Int32} (h : LI b M N) (hq : ∀ r M' T', (∀ post : Int32 → xM → Prop, (∀ N', LI (b + 500) M' N' → post r N') → V_X6_failNode N x post) → Q r (M', T')) : V_X5_failNode M T x Q := by
  obtain ⟨nn, nt, na, now, I, R, hp, hb⟩ := id h
  have hN := I.B.hN
  have eN : N 0 0 = nI nn := by rw [R.1.1]; exact I.B.eN
  unfold V_X5_failNode
  unfold V_X6_failNode at hq
  rcases ix3 x (n := nn) (by omega) with ho | ⟨j, hj, rfl⟩
  · exact h2_o I.B.eN ho ⟨fun _ => hq _ M T (fun post hk => n_o eN (by omega) ho ⟨fun _ => hk N h.up, fun z => absurd rfl z⟩), fun z => absurd rfl z⟩
  have i1 : vp_in (nI j) 8 := inn (by omega) (by omega)
  rw [cln (by omega : j < 1000000)] at hq ⊢
  refine h2_i I.B.eN (by omega) hj ⟨fun z => absurd z (by decide), fun _ => ⟨i1, fun q => ?_, fun q => ⟨i1, fun M7 e7 => ?_⟩⟩⟩
  · refine hq _ M T (fun post hk => n_i eN (by omega) hj ⟨fun z => absurd z (by decide), fun _ => ⟨i1, ?_⟩⟩)
    rw [R.a7 hj]
    exact ⟨fun _ => hk N h.up, fun z => absurd q z⟩
  · have J : Iv 0 nn nt na now now (run na M7) M7 := by rw [e7]; exact iv7 I (Or.inl rfl)
    have R7 : Rel 0 nn nt na N M7 (xu N 3 j (vp_nar .boolean 0)) := by rw [e7]; exact R.wr0 7 j _ (Or.inr (Or.inr (Or.inl rfl)))
    have e1 : M7 1 0 = M 1 0 := by rw [e7]; rfl
    obtain ⟨B2, hsc, hlr⟩ := bd_lose (n := j) J.B
    refine c_lose J (fun M' x1 x2 x3 => hq _ M' T (fun post hk => n_i eN (by omega) hj ⟨fun z => absurd z (by decide), fun _ => ⟨i1, ?_⟩⟩))
    rw [R.a7 hj]
    refine ⟨fun z => absurd z q, fun _ => ⟨i1, fun N7 f7 => ?_⟩⟩
    rw [f7]
    refine r_lose R7 J.B (fun N' R' => hk N' ?_)
    rw [run_less hlr] at x3
    have er : run na M' = run na ((List.range na).foldl (lsT (nI j)) (0, M7)).2 := run_congr (fun a _ => by rw [x1 17 (by omega) (by omega)])
    refine ⟨nn, nt, na, now, ⟨?_, ?_, rfl⟩, relS (Rel.rows R' x1), ?_, by omega⟩
    · rw [er]; exact bd_rows x1 x2 B2
    · rw [er]; exact x3
    · rw [R'.2.2.1, hp, ← e1, x1 1 (by omega) (by omega), hsc 1 (by omega) (by omega) (by omega) (by omega) (by omega)]
theorem b_setPolicy {x : Int32} (h : LI b M N) (hq : ∀ r M' T', (∀ post : Int32 → xM → Prop, (∀ N', LI (b + 500) M' N' → post r N') → V_X6_setPolicy N x post) → Q r (M', T')) : V_X5_setPolicy M T x Q := by
  obtain ⟨nn, nt, na, now, I, R, hp, hb⟩ := id h
  unfold V_X5_setPolicy V_X5_isPolicy
  unfold V_X6_setPolicy at hq
  have main : (¬ x < 0 ∧ ¬ 2 < x) → (∀ y3 : Int32, y3 = (M 1 0) → (∀ M4 : xM, M4 = xu M 1 0 x → Q y3 (M4, T))) := by
    intro hx y3 e3 M4 e4
    rw [e3, e4]
    refine hq _ _ T (fun post hk => win_i hx.1 hx.2 ⟨fun z => absurd z (by decide), fun _ z3 f3 N4 f4 => ?_⟩)
    rw [f3, f4, hp]
    exact hk _ ⟨nn, nt, na, now, iv1 I, ⟨R.1, fun r j g1 g2 g3 => by rw [xu_r (rho_0 r (by omega) g1).1, xu_r (by omega)]; exact R.2.1 r j g1 g2 g3, rfl, fun z => absurd z (by omega), R.2.2.2.2⟩, rfl, by omega⟩
  refine ⟨fun q => ⟨fun z => absurd z (by decide), fun _ => main (by rw [q]; decide)⟩, fun q => ⟨fun q2 => ⟨fun z => absurd z (by decide), fun _ => main (by rw [q2]; decide)⟩, fun q2 => ⟨fun q3 => ⟨fun z => absurd z (by decide), fun _ => main (by rw [q3]; decide)⟩, fun q3 => ⟨fun _ => hq _ M T (fun post hk => win_o ?_ ⟨fun _ => hk N h.up, fun z => absurd rfl z⟩), fun z => absurd rfl z⟩⟩⟩⟩
  by_cases z : x < 0
  · exact Or.inl z
  · refine Or.inr ?_
    rw [Int32.lt_iff_toInt_lt] at z ⊢
    rw [← Int32.toInt_inj] at q q2 q3
    rw [show ((0 : Int32)).toInt = 0 from by decide] at z q
    rw [show ((1 : Int32)).toInt = 1 from by decide] at q2
    rw [show ((2 : Int32)).toInt = 2 from by decide] at q3 ⊢
    omega
theorem b_setLimits {x y : Int32} (h : LI b M N) (hq : ∀ r M' T', (∀ post : Int32 → xM → Prop, (∀ N', LI (b + 500) M' N' → post r N') → V_X6_setLimits N x y post) → Q r (M', T')) : V_X5_setLimits M T x y Q := by
  obtain ⟨nn, nt, na, now, I, R, hp, hb⟩ := id h
  unfold V_X5_setLimits
  unfold V_X6_setLimits at hq
  by_cases ho : x < 0 ∨ 32 < x
  · exact rng_o ho ⟨fun _ => hq _ M T (fun post hk => win_o ho ⟨fun _ => hk N h.up, fun z => absurd rfl z⟩), fun z => absurd rfl z⟩
  have h1 : ¬ x < 0 := fun z => ho (Or.inl z)
  have h2 : ¬ 32 < x := fun z => ho (Or.inr z)
  refine rng_i h1 h2 ⟨fun z => absurd z (by decide), fun _ => ?_⟩
  by_cases ho2 : y < 0 ∨ 100 < y
  · exact rng_o ho2 ⟨fun _ => hq _ M T (fun post hk => win_i h1 h2 ⟨fun z => absurd z (by decide), fun _ => win_o ho2 ⟨fun _ => hk N h.up, fun z => absurd rfl z⟩⟩), fun z => absurd rfl z⟩
  have h3 : ¬ y < 0 := fun z => ho2 (Or.inl z)
  have h4 : ¬ 100 < y := fun z => ho2 (Or.inr z)
  have fin : LI (b + 500) (xu (xu M 1 1 x) 1 2 y) (xu (xu N 0 7 x) 0 8 y) := by
    obtain ⟨⟨a1, a2, a3, a4, a5, a6, a7, a8, a9⟩, ha, -, -, hz⟩ := R
    exact ⟨nn, nt, na, now, iv1 (iv1 I), ⟨⟨a1, a2, rfl, rfl, a5, a6, a7, a8, a9⟩, fun r j g1 g2 g3 => by rw [xu_r (rho_0 r (by omega) g1).1, xu_r (rho_0 r (by omega) g1).1, xu_r (by omega), xu_r (by omega)]; exact ha r j g1 g2 g3, rfl, fun z => absurd z (by omega), hz⟩, hp, by omega⟩
  refine rng_i h3 h4 ⟨fun z => absurd z (by decide), fun _ => ⟨fun q => ⟨fun q2 M9 e9 M10 e10 => ?_, fun q2 M9 e9 M10 e10 => ?_⟩, fun q M9 e9 M10 e10 => ?_⟩⟩
  · rw [e10, e9]
    refine hq _ _ T (fun post hk => win_i h1 h2 ⟨fun z => absurd z (by decide), fun _ => win_i h3 h4 ⟨fun z => absurd z (by decide), fun _ => ?_⟩⟩)
    rw [R.1.2.2.1, R.1.2.2.2.1]
    exact ⟨fun _ => ⟨fun _ N9 f9 N10 f10 => by rw [f10, f9]; exact hk _ fin, fun z => absurd q2 z⟩, fun z => absurd q z⟩
  · rw [e10, e9]
    refine hq _ _ T (fun post hk => win_i h1 h2 ⟨fun z => absurd z (by decide), fun _ => win_i h3 h4 ⟨fun z => absurd z (by decide), fun _ => ?_⟩⟩)
    rw [R.1.2.2.1, R.1.2.2.2.1]
    exact ⟨fun _ => ⟨fun z => absurd z q2, fun _ N9 f9 N10 f10 => by rw [f10, f9]; exact hk _ fin⟩, fun z => absurd q z⟩
  · rw [e10, e9]
    refine hq _ _ T (fun post hk => win_i h1 h2 ⟨fun z => absurd z (by decide), fun _ => win_i h3 h4 ⟨fun z => absurd z (by decide), fun _ => ?_⟩⟩)
    rw [R.1.2.2.1, R.1.2.2.2.1]
    exact ⟨fun z => absurd z q, fun _ N9 f9 N10 f10 => by rw [f10, f9]; exact hk _ fin⟩
theorem b_setThresholds {x y : Int32} (h : LI b M N) (hq : ∀ r M' T', (∀ post : Int32 → xM → Prop, (∀ N', LI (b + 500) M' N' → post r N') → V_X6_setThresholds N x y post) → Q r (M', T')) : V_X5_setThresholds M T x y Q := by
  obtain ⟨nn, nt, na, now, I, R, hp, hb⟩ := id h
  unfold V_X5_setThresholds
  unfold V_X6_setThresholds at hq
  by_cases ho : x < 1 ∨ 200 < x
  · exact rng_o ho ⟨fun _ => hq _ M T (fun post hk => win_o ho ⟨fun _ => hk N h.up, fun z => absurd rfl z⟩), fun z => absurd rfl z⟩
  have h1 : ¬ x < 1 := fun z => ho (Or.inl z)
  have h2 : ¬ 200 < x := fun z => ho (Or.inr z)
  refine rng_i h1 h2 ⟨fun z => absurd z (by decide), fun _ => ?_⟩
  by_cases ho2 : y < 1 ∨ 200 < y
  · exact rng_o ho2 ⟨fun _ => hq _ M T (fun post hk => win_i h1 h2 ⟨fun z => absurd z (by decide), fun _ => win_o ho2 ⟨fun _ => hk N h.up, fun z => absurd rfl z⟩⟩), fun z => absurd rfl z⟩
  have h3 : ¬ y < 1 := fun z => ho2 (Or.inl z)
  have h4 : ¬ 200 < y := fun z => ho2 (Or.inr z)
  have fin : LI (b + 500) (xu (xu M 1 3 x) 1 4 y) (xu (xu N 0 9 x) 0 10 y) := by
    obtain ⟨⟨a1, a2, a3, a4, a5, a6, a7, a8, a9⟩, ha, -, -, hz⟩ := R
    exact ⟨nn, nt, na, now, iv1 (iv1 I), ⟨⟨a1, a2, a3, a4, rfl, rfl, a7, a8, a9⟩, fun r j g1 g2 g3 => by rw [xu_r (rho_0 r (by omega) g1).1, xu_r (rho_0 r (by omega) g1).1, xu_r (by omega), xu_r (by omega)]; exact ha r j g1 g2 g3, rfl, fun z => absurd z (by omega), hz⟩, hp, by omega⟩
  refine rng_i h3 h4 ⟨fun z => absurd z (by decide), fun _ => ⟨fun q => ⟨fun q2 M9 e9 M10 e10 => ?_, fun q2 M9 e9 M10 e10 => ?_⟩, fun q M9 e9 M10 e10 => ?_⟩⟩
  · rw [e10, e9]
    refine hq _ _ T (fun post hk => win_i h1 h2 ⟨fun z => absurd z (by decide), fun _ => win_i h3 h4 ⟨fun z => absurd z (by decide), fun _ => ?_⟩⟩)
    rw [R.1.2.2.2.2.1, R.1.2.2.2.2.2.1]
    exact ⟨fun _ => ⟨fun _ N9 f9 N10 f10 => by rw [f10, f9]; exact hk _ fin, fun z => absurd q2 z⟩, fun z => absurd q z⟩
  · rw [e10, e9]
    refine hq _ _ T (fun post hk => win_i h1 h2 ⟨fun z => absurd z (by decide), fun _ => win_i h3 h4 ⟨fun z => absurd z (by decide), fun _ => ?_⟩⟩)
    rw [R.1.2.2.2.2.1, R.1.2.2.2.2.2.1]
    exact ⟨fun _ => ⟨fun z => absurd z q2, fun _ N9 f9 N10 f10 => by rw [f10, f9]; exact hk _ fin⟩, fun z => absurd q z⟩
  · rw [e10, e9]
    refine hq _ _ T (fun post hk => win_i h1 h2 ⟨fun z => absurd z (by decide), fun _ => win_i h3 h4 ⟨fun z => absurd z (by decide), fun _ => ?_⟩⟩)
    rw [R.1.2.2.2.2.1, R.1.2.2.2.2.2.1]
    exact ⟨fun z => absurd z q, fun _ N9 f9 N10 f10 => by rw [f10, f9]; exact hk _ fin⟩
/-- a node more -/
def mNode (M : xM) (nn : Nat) (x y : Int32) : xM := xu (xu (xu (xu (xu (xu (xu M 2 0 (nI nn + 1)) 5 nn x) 6 nn y) 7 nn (vp_nar .boolean 1)) 8 nn 0) 9 nn 0) 10 nn 0
def rNode (N : xM) (nn : Nat) (x y : Int32) : xM := xu (xu (xu (xu N 1 nn x) 2 nn y) 3 nn (vp_nar .boolean 1)) 0 0 (nI nn + 1)
theorem li_node {x y : Int32} {v w : Nat} (I : Iv 0 nn nt na now now (run na M) M) (R : Rel 0 nn nt na N M N) (hp : N 0 6 = M 1 0) (hb : now ≤ b) (hn : nn < 8) (hv : v ≤ 100) (ev : x = nI v) (hw : w ≤ 4) (ew : y = nI w) : LI b (mNode M nn x y) (rNode N nn x y) := by
  obtain ⟨⟨⟨a1, a2⟩, a3, a4, a5, a6⟩, bn, bt, ba, bg⟩ := I.B
  have m5 : ∀ k, mNode M nn x y 5 k = if k = nn then x else M 5 k := fun k => rfl
  have m6 : ∀ k, mNode M nn x y 6 k = if k = nn then y else M 6 k := fun k => rfl
  have m7 : ∀ k, mNode M nn x y 7 k = if k = nn then vp_nar .boolean 1 else M 7 k := fun k => rfl
  have m8 : ∀ k, mNode M nn x y 8 k = if k = nn then 0 else M 8 k := fun k => rfl
  have m9 : ∀ k, mNode M nn x y 9 k = if k = nn then 0 else M 9 k := fun k => rfl
  have m10 : ∀ k, mNode M nn x y 10 k = if k = nn then 0 else M 10 k := fun k => rfl
  have n1 : ∀ k, rNode N nn x y 1 k = if k = nn then x else N 1 k := fun k => rfl
  have n2 : ∀ k, rNode N nn x y 2 k = if k = nn then y else N 2 k := fun k => rfl
  have n3 : ∀ k, rNode N nn x y 3 k = if k = nn then vp_nar .boolean 1 else N 3 k := fun k => rfl
  have er : run na (mNode M nn x y) = run na M := rfl
  have ec : ∀ k, cntN (mNode M nn x y) (run na M) k = cntN M (run na M) k := fun k => rfl
  have hz := R.2.2.2.2 rfl
  refine ⟨nn + 1, nt, na, now, ⟨⟨⟨⟨?_, by omega⟩, a3, a4, a5, a6⟩, fun k hk => ?_, bt, fun a ha => ?_, bg⟩, I.l, rfl⟩, ⟨?_, fun r j g1 g2 g3 => ?_, rfl, fun z => absurd z (by omega), fun _ => ⟨fun j j1 j2 => hz.1 j (by omega) j2, hz.2⟩⟩, hp, hb⟩
  · show nI nn + 1 = _
    exact nI_1 nn
  · unfold nodeOk
    rw [m5, m6, m7, m8, m10, er, ec]
    by_cases q : k = nn
    · have c0 : cntN M (run na M) k = 0 := by
        unfold cntN
        rw [List.length_eq_zero_iff, List.filter_eq_nil_iff]
        intro a ha
        obtain ⟨-, ⟨n', hn', en'⟩, -⟩ := ba a (run_mem.mp ha).1
        rw [en', q]
        simp
        intro z
        have := (nI_eq (by omega) (by omega)).mp z
        omega
      rw [if_pos q, if_pos q, if_pos q, if_pos q, if_pos q, c0]
      exact ⟨⟨v, hv, ev⟩, ⟨w, hw, ew, Nat.zero_le _⟩, Or.inr rfl, rfl, 0, Nat.zero_le _, rfl⟩
    · rw [if_neg q, if_neg q, if_neg q, if_neg q, if_neg q]
      exact bn k (by omega)
  · obtain ⟨c1, ⟨n', c2, c3⟩, c4⟩ := ba a ha
    exact ⟨c1, ⟨n', by omega, c3⟩, c4⟩
  · obtain ⟨d1, d2⟩ := R.1
    exact ⟨rfl, d2⟩
  · rcases (show r = 5 ∨ r = 6 ∨ r = 7 ∨ r = 8 ∨ r = 9 ∨ r = 10 ∨ 11 ≤ r by omega) with rfl | rfl | rfl | rfl | rfl | rfl | q
    · have g3 : j < nn + 1 := g3
      show rNode N nn x y 1 (0 + j) = _
      rw [Nat.zero_add, n1, m5]
      by_cases z : j = nn
      · rw [if_pos z, if_pos z]
      · rw [if_neg z, if_neg z]; exact R.a5 (by omega)
    · have g3 : j < nn + 1 := g3
      show rNode N nn x y 2 (0 + j) = _
      rw [Nat.zero_add, n2, m6]
      by_cases z : j = nn
      · rw [if_pos z, if_pos z]
      · rw [if_neg z, if_neg z]; exact R.a6 (by omega)
    · have g3 : j < nn + 1 := g3
      show rNode N nn x y 3 (0 + j) = _
      rw [Nat.zero_add, n3, m7]
      by_cases z : j = nn
      · rw [if_pos z, if_pos z]
      · rw [if_neg z, if_neg z]; exact R.a7 (by omega)
    · have g3 : j < nn + 1 := g3
      show N 16 (8 * 0 + j) = _
      rw [m8]
      by_cases z : j = nn
      · rw [if_pos z, nat8, z]; exact (hz.1 nn (by omega) hn).1
      · rw [if_neg z]; exact R.a8 (by omega)
    · have g3 : j < nn + 1 := g3
      show N 18 (8 * 0 + j) = _
      rw [m9]
      by_cases z : j = nn
      · rw [if_pos z, nat8, z]; exact (hz.1 nn (by omega) hn).2.2
      · rw [if_neg z]; exact R.a9 (by omega)
    · have g3 : j < nn + 1 := g3
      show N 17 (8 * 0 + j) = _
      rw [m10]
      by_cases z : j = nn
      · rw [if_pos z, nat8, z]; exact (hz.1 nn (by omega) hn).2.1
      · rw [if_neg z]; exact R.a10 (by omega)
    · have hl : lim (nn + 1) nt na r = lim nn nt na r := by
        unfold lim
        rw [if_neg (show ¬ r ≤ 10 by omega), if_neg (show ¬ r ≤ 10 by omega)]
      rw [hl] at g3
      have hrho : rho r ≠ 0 ∧ rho r ≠ 1 ∧ rho r ≠ 2 ∧ rho r ≠ 3 := ⟨(rho_0 r (by omega) g1).1, fun z => by have := rho_inj r (by omega) 5 (by omega) g1 (by omega) z; omega, fun z => by have := rho_inj r (by omega) 6 (by omega) g1 (by omega) z; omega, fun z => by have := rho_inj r (by omega) 7 (by omega) g1 (by omega) z; omega⟩
      unfold rNode mNode
      rw [xu_r hrho.1, xu_r hrho.2.2.2, xu_r hrho.2.2.1, xu_r hrho.2.1, xu_r (by omega), xu_r (by omega), xu_r (by omega), xu_r (by omega), xu_r (by omega), xu_r (by omega), xu_r (by omega)]
      exact R.2.1 r j g1 g2 g3
theorem b_addNode {x y : Int32} (h : LI b M N) (hq : ∀ r M' T', (∀ post : Int32 → xM → Prop, (∀ N', LI (b + 500) M' N' → post r N') → V_X6_addNode N x y post) → Q r (M', T')) : V_X5_addNode M T x y Q := by
  obtain ⟨nn, nt, na, now, I, R, hp, hb⟩ := id h
  have hN := I.B.hN
  have eN : N 0 0 = nI nn := by rw [R.1.1]; exact I.B.eN
  unfold V_X5_addNode
  unfold V_X6_addNode at hq
  by_cases ho : x < 0 ∨ 100 < x
  · exact rng_o ho ⟨fun _ => hq _ M T (fun post hk => win_o ho ⟨fun _ => hk N h.up, fun z => absurd rfl z⟩), fun z => absurd rfl z⟩
  have h1 : ¬ x < 0 := fun z => ho (Or.inl z)
  have h2 : ¬ 100 < x := fun z => ho (Or.inr z)
  refine rng_i h1 h2 ⟨fun z => absurd z (by decide), fun _ => ?_⟩
  by_cases ho2 : y < 1 ∨ 4 < y
  · exact rng_o ho2 ⟨fun _ => hq _ M T (fun post hk => win_i h1 h2 ⟨fun z => absurd z (by decide), fun _ => win_o ho2 ⟨fun _ => hk N h.up, fun z => absurd rfl z⟩⟩), fun z => absurd rfl z⟩
  have h3 : ¬ y < 1 := fun z => ho2 (Or.inl z)
  have h4 : ¬ 4 < y := fun z => ho2 (Or.inr z)
  obtain ⟨v, hv, -, ev⟩ := nIr (k := 100) (by decide) (by decide) h1 h2
  obtain ⟨w, hw, -, ew⟩ := nIr (k := 4) (by decide) (by decide) h3 h4
  refine rng_i h3 h4 ⟨fun z => absurd z (by decide), fun _ => ?_⟩
  unfold V_X2_add
  rw [I.B.eN]
  rw [eN] at hq
  rcases Nat.lt_or_ge nn 8 with hn | hn
  · have i1 : vp_in (nI nn) 8 := inn (by omega) (by omega)
    refine ⟨fun _ y2 e2 M3 e3 => ?_, fun q => absurd (show nI nn < nI 8 from nI_lt hn (by omega)) q⟩
    rw [e2, cln (by omega : nn < 1000000)]
    rw [cln (by omega : nn < 1000000)] at hq
    refine ⟨i1, fun M5 e5 => ⟨i1, fun M7 e7 => ⟨i1, fun M9 e9 => ⟨i1, fun M11 e11 => ⟨i1, fun M13 e13 => ⟨i1, fun M15 e15 => ?_⟩⟩⟩⟩⟩⟩
    have hM : M15 = mNode M nn x y := by rw [e15, e13, e11, e9, e7, e5, e3]; rfl
    rw [hM]
    refine hq _ _ T (fun post hk => win_i h1 h2 ⟨fun z => absurd z (by decide), fun _ => win_i h3 h4 ⟨fun z => absurd z (by decide), fun _ => ⟨fun z => ?_, fun _ => ⟨i1, fun N7 f7 => ?_⟩⟩⟩⟩)
    · have := (nI_eq (b := 8) (by omega) (by omega)).mp z
      omega
    · have g7 : N7 0 0 = nI nn := by rw [f7]; exact eN
      rw [g7, cln (by omega : nn < 1000000)]
      refine ⟨i1, fun N9 f9 => ?_⟩
      have g9 : N9 0 0 = nI nn := by rw [f9]; exact g7
      rw [g9, cln (by omega : nn < 1000000)]
      refine ⟨i1, fun N11 f11 N12 f12 => ?_⟩
      have g11 : N11 0 0 = nI nn := by rw [f11]; exact g9
      rw [g11] at f12
      have g12 : N12 0 0 - 1 = nI nn := by
        rw [f12, xu_s, nI_1, nI_pred]
      rw [g12]
      have hNN : N12 = rNode N nn x y := by rw [f12, f11, f9, f7]; rfl
      rw [hNN]
      exact hk _ (li_node I R hp (by omega) hn hv ev hw ew)
  · have e8 : nn = 8 := by omega
    refine ⟨fun q => absurd q (show ¬ nI nn < nI 8 from nI_nlt hn (by omega)), fun _ => hq _ M T (fun post hk => win_i h1 h2 ⟨fun z => absurd z (by decide), fun _ => win_i h3 h4 ⟨fun z => absurd z (by decide), fun _ => ⟨fun _ => hk N h.up, fun z => absurd (by rw [e8]; rfl) z⟩⟩⟩)⟩
/-- a task more -/
def mTask (M : xM) (nt : Nat) (x : Int32) : xM := xu (xu (xu (xu (xu M 3 0 (nI nt + 1)) 11 nt x) 12 nt 0) 13 nt (-6)) 14 nt (-6)
def rTask (N : xM) (nt : Nat) (x : Int32) : xM := xu (xu (xu (xu N 4 nt x) 13 nt (-6)) 14 nt (-6)) 0 4 (nI nt + 1)
theorem li_task {x : Int32} {v : Nat} (I : Iv 0 nn nt na now now (run na M) M) (R : Rel 0 nn nt na N M N) (hp : N 0 6 = M 1 0) (hb : now ≤ b) (hn : nt < 24) (hv1 : 1 ≤ v) (hv : v ≤ 10000) (ev : x = nI v) : LI b (mTask M nt x) (rTask N nt x) := by
  obtain ⟨⟨a1, ⟨a2, a3⟩, a4, a5, a6⟩, bn, bt, ba, bg⟩ := I.B
  have m11 : ∀ k, mTask M nt x 11 k = if k = nt then x else M 11 k := fun k => rfl
  have m12 : ∀ k, mTask M nt x 12 k = if k = nt then 0 else M 12 k := fun k => rfl
  have m13 : ∀ k, mTask M nt x 13 k = if k = nt then -6 else M 13 k := fun k => rfl
  have m14 : ∀ k, mTask M nt x 14 k = if k = nt then -6 else M 14 k := fun k => rfl
  have n4 : ∀ k, rTask N nt x 4 k = if k = nt then x else N 4 k := fun k => rfl
  have n13 : ∀ k, rTask N nt x 13 k = if k = nt then -6 else N 13 k := fun k => rfl
  have n14 : ∀ k, rTask N nt x 14 k = if k = nt then -6 else N 14 k := fun k => rfl
  have hz := R.2.2.2.2 rfl
  refine ⟨nn, nt + 1, na, now, ⟨⟨⟨a1, ⟨?_, by omega⟩, a4, a5, a6⟩, bn, fun k hk => ?_, fun a ha => ?_, bg⟩, I.l, rfl⟩, ⟨?_, fun r j g1 g2 g3 => ?_, rfl, fun z => absurd z (by omega), fun _ => ⟨hz.1, fun t t1 t2 => hz.2 t (by omega) t2⟩⟩, hp, hb⟩
  · show nI nt + 1 = _
    exact nI_1 nt
  · unfold taskOk
    rw [m11, m13, m14]
    by_cases q : k = nt
    · rw [if_pos q, if_pos q, if_pos q]
      exact ⟨⟨v, hv1, hv, ev⟩, Or.inl ⟨rfl, rfl⟩⟩
    · rw [if_neg q, if_neg q, if_neg q]
      exact bt k (by omega)
  · obtain ⟨⟨t', c1, c2, c3⟩, c4, c5, c6, c7, c8⟩ := ba a ha
    refine ⟨⟨t', by omega, c2, fun q => ?_⟩, c4, c5, c6, ?_, c8⟩
    · rw [m13, if_neg (by omega)]; exact c3 q
    · show M 21 a = x_min 1000 (M 20 a * 1000 / mTask M nt x 11 (M 15 a).toNatClampNeg)
      rw [m11, c2, cln (by omega : t' < 1000000), if_neg (by omega), c7]
      unfold pg
      rw [c2, cln (by omega : t' < 1000000)]
  · obtain ⟨d1, d2, d3⟩ := R.1
    exact ⟨d1, rfl, d3⟩
  · rcases (show r = 11 ∨ r = 12 ∨ r = 13 ∨ r = 14 ∨ r ≤ 10 ∨ 15 ≤ r by omega) with rfl | rfl | rfl | rfl | q
    · have g3 : j < nt + 1 := g3
      show rTask N nt x 4 (0 + j) = _
      rw [Nat.zero_add, n4, m11]
      by_cases z : j = nt
      · rw [if_pos z, if_pos z]
      · rw [if_neg z, if_neg z]; exact R.a11 (by omega)
    · have g3 : j < nt + 1 := g3
      show N 15 (24 * 0 + j) = _
      rw [m12]
      by_cases z : j = nt
      · rw [if_pos z, nat24, z]; exact hz.2 nt (by omega) hn
      · rw [if_neg z]; exact R.a12 (by omega)
    · have g3 : j < nt + 1 := g3
      show rTask N nt x 13 (24 * 0 + j) = _
      rw [nat24, n13, m13]
      by_cases z : j = nt
      · rw [if_pos z, if_pos z]
      · rw [if_neg z, if_neg z]
        have := R.a13 (j := j) (by omega)
        rw [nat24] at this
        exact this
    · have g3 : j < nt + 1 := g3
      show rTask N nt x 14 (24 * 0 + j) = _
      rw [nat24, n14, m14]
      by_cases z : j = nt
      · rw [if_pos z, if_pos z]
      · rw [if_neg z, if_neg z]
        have := R.a14 (j := j) (by omega)
        rw [nat24] at this
        exact this
    · have hl : lim nn (nt + 1) na r = lim nn nt na r := by
        unfold lim
        rcases q with q | q
        · rw [if_pos q, if_pos q]
        · rw [if_neg (show ¬ r ≤ 10 by omega), if_neg (show ¬ r ≤ 14 by omega), if_neg (show ¬ r ≤ 10 by omega), if_neg (show ¬ r ≤ 14 by omega)]
      rw [hl] at g3
      have hrho : rho r ≠ 0 ∧ rho r ≠ 4 ∧ rho r ≠ 13 ∧ rho r ≠ 14 := ⟨(rho_0 r (by omega) g1).1, fun z => by have := rho_inj r (by omega) 11 (by omega) g1 (by omega) z; omega, fun z => by have := rho_inj r (by omega) 13 (by omega) g1 (by omega) z; omega, fun z => by have := rho_inj r (by omega) 14 (by omega) g1 (by omega) z; omega⟩
      unfold rTask mTask
      rw [xu_r hrho.1, xu_r hrho.2.2.2, xu_r hrho.2.2.1, xu_r hrho.2.1, xu_r (by omega), xu_r (by omega), xu_r (by omega), xu_r (by omega), xu_r (by omega)]
      exact R.2.1 r j g1 g2 g3
theorem b_addTask {x : Int32} (h : LI b M N) (hq : ∀ r M' T', (∀ post : Int32 → xM → Prop, (∀ N', LI (b + 500) M' N' → post r N') → V_X6_addTask N x post) → Q r (M', T')) : V_X5_addTask M T x Q := by
  obtain ⟨nn, nt, na, now, I, R, hp, hb⟩ := id h
  have hT := I.B.hT
  have eT : N 0 4 = nI nt := by rw [R.1.2.1]; exact I.B.eT
  unfold V_X5_addTask
  unfold V_X6_addTask at hq
  by_cases ho : x < 1 ∨ 10000 < x
  · exact rng_o ho ⟨fun _ => hq _ M T (fun post hk => win_o ho ⟨fun _ => hk N h.up, fun z => absurd rfl z⟩), fun z => absurd rfl z⟩
  have h1 : ¬ x < 1 := fun z => ho (Or.inl z)
  have h2 : ¬ 10000 < x := fun z => ho (Or.inr z)
  obtain ⟨v, hv, hv1, ev⟩ := nIr (k := 10000) (by decide) (by decide) h1 h2
  rw [show ((1 : Int32)).toInt = 1 from by decide] at hv1
  refine rng_i h1 h2 ⟨fun z => absurd z (by decide), fun _ => ?_⟩
  unfold V_X4_add
  rw [I.B.eT]
  rw [eT] at hq
  rcases Nat.lt_or_ge nt 24 with hn | hn
  · have i1 : vp_in (nI nt) 24 := inn (by omega) (by omega)
    have i2 : vp_in (nI nt) 48 := inn (by omega) (by omega)
    refine ⟨fun _ y2 e2 M3 e3 => ?_, fun q => absurd (show nI nt < nI 24 from nI_lt hn (by omega)) q⟩
    rw [e2, cln (by omega : nt < 1000000)]
    rw [cln (by omega : nt < 1000000)] at hq
    refine ⟨i1, fun M5 e5 => ⟨i1, fun M7 e7 => ⟨i1, fun M9 e9 => ⟨i1, fun M11 e11 => ?_⟩⟩⟩⟩
    have hM : M11 = mTask M nt x := by rw [e11, e9, e7, e5, e3]; rfl
    rw [hM]
    refine hq _ _ T (fun post hk => win_i h1 h2 ⟨fun z => absurd z (by decide), fun _ => ⟨fun z => ?_, fun _ => ⟨i1, fun N5 f5 => ?_⟩⟩⟩)
    · have := (nI_eq (b := 24) (by omega) (by omega)).mp z
      omega
    · have g5 : N5 0 4 = nI nt := by rw [f5]; exact eT
      rw [g5, cln (by omega : nt < 1000000)]
      refine ⟨i2, fun N7 f7 => ?_⟩
      have g7 : N7 0 4 = nI nt := by rw [f7]; exact g5
      rw [g7, cln (by omega : nt < 1000000)]
      refine ⟨i2, fun N9 f9 N10 f10 => ?_⟩
      have g9 : N9 0 4 = nI nt := by rw [f9]; exact g7
      rw [g9] at f10
      have g10 : N10 0 4 - 1 = nI nt := by
        rw [f10, xu_s, nI_1, nI_pred]
      rw [g10]
      have hNN : N10 = rTask N nt x := by rw [f10, f9, f7, f5]; rfl
      rw [hNN]
      exact hk _ (li_task I R hp (by omega) hn (by omega) hv ev)
  · have e8 : nt = 24 := by omega
    refine ⟨fun q => absurd q (show ¬ nI nt < nI 24 from nI_nlt hn (by omega)), fun _ => hq _ M T (fun post hk => win_i h1 h2 ⟨fun z => absurd z (by decide), fun _ => ⟨fun _ => hk N h.up, fun z => absurd (by rw [e8]; rfl) z⟩⟩)⟩
end
