/-! Pure: one tick, and many. -/
def tk1 (nn nt na : Nat) (M : xM) : Nat × xM := startAll nn nt (na, M)
def tk2 (nn nt na : Nat) (M : xM) : xM := (run (tk1 nn nt na M).1 (tk1 nn nt na M).2).foldl stW (tk1 nn nt na M).2
def tk3 (nn nt na : Nat) (M : xM) : Int32 × xM := (List.range (tk1 nn nt na M).1).foldl (cst (tk1 nn nt na M).1) (0, tk2 nn nt na M)
/-- a tick: what it answers, and the memory behind it (but for stale places of the list) -/
def tkR (nn nt na : Nat) (M : xM) (c : Int32) (na' : Nat) (M' : xM) : Prop :=
  na' = (tk1 nn nt na M).1 ∧ c = (tk3 nn nt na M).1 ∧ ∃ X, (∀ r, r ≠ 4 → r ≠ 23 → X r = (tk3 nn nt na M).2 r) ∧ X 4 0 = (tk3 nn nt na M).2 4 0 ∧ lst ((run na' (tk2 nn nt na M)).filter (fun a => decide ((tk3 nn nt na M).2 17 a = 1))) X ∧ M' = xu X 0 4 (X 0 4 + 1)
section
variable {s nn nt na now : Nat} {N0 M N : xM}
theorem its_rows {n : Nat} : ∀ (k : Nat) (p : Nat × xM), (its nn nt n k p).2 1 = p.2 1 ∧ (its nn nt n k p).2 13 = p.2 13 := by
  intro k
  induction k with
  | zero => intro p; exact ⟨rfl, rfl⟩
  | succ k ih =>
    intro p
    unfold its
    cases ho : one nn nt n p with
    | none => exact ⟨rfl, rfl⟩
    | some q =>
      obtain ⟨a1, a2⟩ := ih q
      unfold one at ho
      by_cases hf : fsl p.2 p.1 n
      · rw [if_pos hf] at ho
        cases hp : pick p.2 nn nt (run p.1 p.2) n with
        | none => rw [hp] at ho; cases ho
        | some t =>
          rw [hp] at ho
          cases ho
          exact ⟨a1.trans rfl, a2.trans rfl⟩
      · rw [if_neg hf] at ho; cases ho
theorem startAll_rows (p : Nat × xM) : (startAll nn nt p).2 1 = p.2 1 ∧ (startAll nn nt p).2 13 = p.2 13 := by
  refine foldInv (fun p i => its nn nt i 4 p) (fun q => q.2 1 = p.2 1 ∧ q.2 13 = p.2 13) (List.range nn) (fun q i _ J => ?_) p ⟨rfl, rfl⟩
  have := its_rows (nn := nn) (nt := nt) (n := i) 4 q
  exact ⟨this.1.trans J.1, this.2.trans J.2⟩
theorem c_tick {post : Int32 → xM → Prop} (I : Iv 0 nn nt na now now (run na M) M) (hn : now < 256000) (k : ∀ c na' M', tkR nn nt na M c na' M' → post c M') : V_X1_runOneTick M post := by
  unfold V_X1_runOneTick
  refine c_starts I ?_
  obtain ⟨J1, -⟩ := startAll_iv (p := (na, M)) I
  refine c_work J1 ?_
  have J2 := iv_work J1 (by omega)
  refine c_commits J2 (fun X h1 h2 h3 M5 e5 => ?_)
  refine k _ (tk1 nn nt na M).1 M5 ⟨rfl, rfl, X, h1, h2, ?_, e5⟩
  rw [show run (tk1 nn nt na M).1 (tk2 nn nt na M) = run (startAll nn nt (na, M)).1 (startAll nn nt (na, M)).2 from J2.r.symm]
  exact h3
theorem r_tick {post : Int32 → xM → Prop} {c : Int32} {na' : Nat} {M' : xM} (h : Rel s nn nt na N0 M N) (hs : s ≤ 1) (I : Iv 0 nn nt na now now (run na M) M) (hn : now < 256000) (ht : tkR nn nt na M c na' M') (k : ∀ N', Rel s nn nt na' N0 M' N' → post c N') : V_X6_passes N (M 1 0) post := by
  obtain ⟨rfl, rfl, X, x1, x2, x3, rfl⟩ := ht
  obtain ⟨J1, -⟩ := startAll_iv (p := (na, M)) I
  have J2 := iv_work J1 (by omega)
  refine r_passes0 h hs I (fun N1 h1 => r_works h1 hs J1 (fun N2 h2 => r_commits h2 hs J2.B (fun N3 h3 => ?_)))
  have h4 : Rel s nn nt (tk1 nn nt na M).1 N0 X N3 := Rel.rows h3 x1
  rw [h4.sd, cln (by omega : s < 1000000)]
  refine ⟨inn (by omega) (by omega), inn (by omega) (by omega), fun N7 e7 => k N7 ?_⟩
  rw [h4.nw] at e7
  obtain ⟨⟨a1, a2, a3, a4, a5, a6, a7, a8, a9⟩, ha, hk⟩ := h4
  rw [e7]
  refine ⟨⟨a1, a2, a3, a4, a5, a6, a7, a8, by rw [xu_s, xu_s]⟩, fun r j g1 g2 g3 => ?_, by rw [xu_r (by omega)]; exact hk.1, fun z r j ho => ?_, hk.2.2⟩
  · rw [xu_r (rho_0 r (by omega) g1).2.2, xu_r (by omega)]
    exact ha r j g1 g2 g3
  · subst z
    rw [xu_at, if_neg]
    · exact hk.2.1 rfl r j ho
    · rintro ⟨rfl, rfl⟩
      exact ho (Or.inr (Or.inl ⟨rfl, rfl⟩))
theorem iv_tick {c : Int32} {na' : Nat} {M' : xM} (I : Iv 0 nn nt na now now (run na M) M) (hn : now < 256000) (ht : tkR nn nt na M c na' M') : Iv 0 nn nt na' (now + 1) (now + 1) (run na' M') M' ∧ M' 1 = M 1 ∧ ∃ d, d ≤ 200 ∧ c = nI d ∧ opn nt M' + d = opn nt M := by
  obtain ⟨rfl, rfl, X, x1, x2, x3, rfl⟩ := ht
  obtain ⟨J1, -⟩ := startAll_iv (p := (na, M)) I
  obtain ⟨s1, s13⟩ := startAll_rows (nn := nn) (nt := nt) (na, M)
  have J2 := iv_work J1 (by omega)
  have hsw : sameW (tk1 nn nt na M).2 (tk2 nn nt na M) := foldInv stW (fun X => sameW (tk1 nn nt na M).2 X) _ (fun X a _ hX => sameW_st hX) _ (fun r _ _ _ _ _ _ => rfl)
  have B2 : Bd 100 nn nt (tk1 nn nt na M).1 now (now + 1) (run (tk1 nn nt na M).1 (tk2 nn nt na M)) (tk2 nn nt na M) := by
    rw [show run (tk1 nn nt na M).1 (tk2 nn nt na M) = run (startAll nn nt (na, M)).1 (startAll nn nt (na, M)).2 from J2.r.symm]
    exact J2.B
  obtain ⟨B3, ⟨d, hd, ed, hop⟩, hsc, hlr⟩ := bd_commits B2
  have B4 : Bd 0 nn nt (tk1 nn nt na M).1 now (now + 1) (run (tk1 nn nt na M).1 (tk3 nn nt na M).2) X := bd_rows x1 x2 B3
  have er : run (tk1 nn nt na M).1 (xu X 0 4 (X 0 4 + 1)) = run (tk1 nn nt na M).1 (tk3 nn nt na M).2 := run_congr (fun a _ => by rw [xu_r (by omega), x1 17 (by omega) (by omega)])
  have e17 : X 0 4 = nI now := B4.eW
  have hlr : lessR (tk2 nn nt na M) (tk3 nn nt na M).2 := hlr
  rw [run_less hlr] at x3
  refine ⟨⟨?_, ?_, rfl⟩, ?_, d, hd, ed, ?_⟩
  · rw [er]
    obtain ⟨⟨a1, a2, a3, a4, a5⟩, bn, bt, ba, bg⟩ := B4
    exact ⟨⟨a1, a2, a3, by rw [xu_s, e17, nI_1], by omega⟩, bn, bt, ba, bg⟩
  · rw [er]
    exact x3
  · rw [xu_r (by omega), x1 1 (by omega) (by omega)]
    refine (hsc 1 (by omega) (by omega) (by omega) (by omega) (by omega)).trans ((hsw 1 (by omega) (by omega) (by omega) (by omega) (by omega) (by omega)).trans s1)
  · have e13 : tk2 nn nt na M 13 = M 13 := (hsw 13 (by omega) (by omega) (by omega) (by omega) (by omega) (by omega)).trans s13
    have o1 : opn nt (xu X 0 4 (X 0 4 + 1)) = opn nt (tk3 nn nt na M).2 := by
      unfold opn
      rw [xu_r (by omega), x1 13 (by omega) (by omega)]
    have o2 : opn nt (tk2 nn nt na M) = opn nt M := by
      unfold opn
      rw [e13]
    rw [o1, ← o2]
    exact hop
/-- k ticks -/
def tks (nn nt : Nat) : Nat → Nat → xM → Int32 → Nat → xM → Prop
  | 0, na, M, c, na', M' => c = 0 ∧ na' = na ∧ M' = M
  | k + 1, na, M, c, na', M' => ∃ c1 na1 M1 c2, tkR nn nt na M c1 na1 M1 ∧ tks nn nt k na1 M1 c2 na' M' ∧ c = c1 + c2
theorem c_ticks {T : xM} {post : Int32 → xM × xM → Prop} {m : Nat} (hm : m ≤ 500) : ∀ (k i na now : Nat) (M : xM) (acc : Int32), i + k = m → Iv 0 nn nt na now now (run na M) M → now + k ≤ 256000 → (∀ c na' M', tks nn nt k na M c na' M' → post (acc + c) (M', T)) → V_X5_tick_L18 post (k + 1) M T (nI m) acc (nI i) := by
  intro k
  induction k with
  | zero =>
    intro i na now M acc hi I hn hk
    rw [V_X5_tick_L18, show i = m by omega]
    refine ⟨fun _ => ?_, fun q => absurd (len (Nat.le_refl _) (by omega)) q⟩
    have := hk 0 na M ⟨rfl, rfl, rfl⟩
    rw [Int32.add_zero] at this
    exact this
  | succ k ih =>
    intro i na now M acc hi I hn hk
    rw [V_X5_tick_L18]
    refine ⟨fun q => absurd q (nlen (by omega) (by omega)), fun _ => c_tick I (by omega) (fun c na1 M1 ht y6 e6 y7 e7 => ?_)⟩
    rw [e6, e7, nI_1]
    refine ih (i + 1) na1 (now + 1) M1 (acc + c) (by omega) (iv_tick I (by omega) ht).1 (by omega) (fun c2 na' M' h2 => ?_)
    rw [Int32.add_assoc]
    exact hk (c + c2) na' M' ⟨c, na1, M1, c2, ht, h2, rfl⟩
theorem r_ticks {post : Int32 → xM → Prop} {m : Nat} (hm : m ≤ 500) : ∀ (k i na now : Nat) (M N : xM) (acc c : Int32) (na' : Nat) (M' : xM), i + k = m → Iv 0 nn nt na now now (run na M) M → now + k ≤ 256000 → N0 0 6 = M 1 0 → Rel 0 nn nt na N0 M N → tks nn nt k na M c na' M' → (∀ N', Rel 0 nn nt na' N0 M' N' → post (acc + c) N') → V_X6_tick_L18 post (k + 1) N (nI m) acc (nI i) := by
  intro k
  induction k with
  | zero =>
    intro i na now M N acc c na' M' hi I hn hp h hc hk
    obtain ⟨rfl, rfl, rfl⟩ := hc
    rw [V_X6_tick_L18, show i = m by omega]
    refine ⟨fun _ => ?_, fun q => absurd (len (Nat.le_refl _) (by omega)) q⟩
    have := hk N h
    rw [Int32.add_zero] at this
    exact this
  | succ k ih =>
    intro i na now M N acc c na' M' hi I hn hp h hc hk
    obtain ⟨c1, na1, M1, c2, ht, h2, rfl⟩ := hc
    obtain ⟨I1, es, -⟩ := iv_tick I (by omega) ht
    rw [V_X6_tick_L18, h.2.2.1, hp]
    refine ⟨fun q => absurd q (nlen (by omega) (by omega)), fun _ => r_tick h (by omega) I (by omega) ht (fun N1 h1 y6 e6 y7 e7 => ?_)⟩
    rw [e6, e7, nI_1]
    refine ih (i + 1) na1 (now + 1) M1 N1 (acc + c1) c2 na' M' (by omega) I1 (by omega) (by rw [hp, es]) h1 h2 (fun N' h' => ?_)
    rw [Int32.add_assoc]
    exact hk N' h'
theorem iv_ticks : ∀ (k na now : Nat) (M : xM) (c : Int32) (na' : Nat) (M' : xM), Iv 0 nn nt na now now (run na M) M → now + k ≤ 256000 → tks nn nt k na M c na' M' → Iv 0 nn nt na' (now + k) (now + k) (run na' M') M' ∧ M' 1 = M 1 := by
  intro k
  induction k with
  | zero =>
    intro na now M c na' M' I hn hc
    obtain ⟨rfl, rfl, rfl⟩ := hc
    exact ⟨I, rfl⟩
  | succ k ih =>
    intro na now M c na' M' I hn hc
    obtain ⟨c1, na1, M1, c2, ht, h2, rfl⟩ := hc
    obtain ⟨I1, es, -⟩ := iv_tick I (by omega) ht
    obtain ⟨I2, es2⟩ := ih na1 (now + 1) M1 c2 na' M' I1 (by omega) h2
    rw [show now + (k + 1) = now + 1 + k by omega]
    exact ⟨I2, es2.trans es⟩
end
