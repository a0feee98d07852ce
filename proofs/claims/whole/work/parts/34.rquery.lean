/-! Pure: the reference reads the same. -/
theorem xmin_le {y : Int32} (h : y ≤ 1000) : x_min 1000 y = y := by
  unfold x_min
  by_cases h1 : y < 1000
  · rw [if_pos h1]
  · rw [if_neg h1]
    rw [Int32.le_iff_toInt_le] at h
    rw [Int32.lt_iff_toInt_lt] at h1
    exact Int32.toInt_inj.mp (by omega)
theorem xmin_gt {y : Int32} (h : ¬ y ≤ 1000) : x_min 1000 y = 1000 := by
  unfold x_min
  rw [if_neg]
  intro h1
  rw [Int32.le_iff_toInt_le] at h
  rw [Int32.lt_iff_toInt_lt] at h1
  omega
theorem xmin_nI {q : Nat} (h : q < 100000000) : ∃ p, p ≤ 1000 ∧ x_min 1000 (nI q) = nI p := by
  by_cases hq : q ≤ 1000
  · refine ⟨q, hq, xmin_le ?_⟩
    rw [show (1000 : Int32) = nI 1000 from rfl]
    exact len hq (by omega)
  · refine ⟨1000, Nat.le_refl _, xmin_gt ?_⟩
    rw [show (1000 : Int32) = nI 1000 from rfl]
    exact nI_ge (by omega) (by omega)
section
variable {e s nn nt na now g : Nat} {L : List Nat} {N0 M N : xM} {post : Int32 → xM → Prop}
theorem Bd.eN (B : Bd e nn nt na now g L M) : M 2 0 = nI nn := B.1.1.1
theorem Bd.hN (B : Bd e nn nt na now g L M) : nn ≤ 8 := B.1.1.2
theorem Bd.eT (B : Bd e nn nt na now g L M) : M 3 0 = nI nt := B.1.2.1.1
theorem Bd.hT (B : Bd e nn nt na now g L M) : nt ≤ 24 := B.1.2.1.2
theorem Bd.eA (B : Bd e nn nt na now g L M) : M 4 0 = nI na := B.1.2.2.1.1
theorem Bd.hA (B : Bd e nn nt na now g L M) : na ≤ 200 := B.1.2.2.1.2
theorem Bd.eW (B : Bd e nn nt na now g L M) : M 0 4 = nI now := B.1.2.2.2.1
theorem Bd.hW (B : Bd e nn nt na now g L M) : now ≤ 256000 := B.1.2.2.2.2
theorem Bd.hG (B : Bd e nn nt na now g L M) : g ≤ 256001 := B.2.2.2.2
theorem Bd.pgN (B : Bd e nn nt na now g L M) {a : Nat} (ha : a < na) : ∃ p, p ≤ 1000 ∧ M 21 a = nI p := by
  obtain ⟨⟨t, ht, et, -⟩, -, -, ⟨d, hd, ed, -⟩, ep, -⟩ := B.2.2.2.1 a ha
  obtain ⟨⟨w, hw1, hw2, ew⟩, -⟩ := B.2.2.1 t ht
  have hT := B.hT
  rw [ep]
  unfold pg
  rw [et, cln (by omega : t < 1000000), ed, ew, show (1000 : Int32) = nI 1000 from rfl, pk_mul, pk_div (by omega) (by omega) (by omega)]
  exact xmin_nI (Nat.lt_of_le_of_lt (Nat.div_le_self _ _) (by omega))
theorem r_last (h : Rel s nn nt na N0 M N) (hs : s ≤ 1) (B : Bd e nn nt na now g L M) (k : post (nI (200 * s + na)) N) : V_X6_last N post := by
  unfold V_X6_last
  rw [h.sd, cln (by omega : s < 1000000), h.cn, i200]
  exact ⟨inn (by omega) (by omega), k⟩
theorem r_first (h : Rel s nn nt na N0 M N) (k : post (nI (200 * s)) N) : V_X6_first N post := by
  unfold V_X6_first
  rw [h.sd, i200']
  exact k
theorem r_prog (h : Rel s nn nt na N0 M N) (hs : s ≤ 1) (B : Bd e nn nt na now g L M) {a : Nat} (ha : a < na) (k : post (M 21 a) N) : V_X6_progressOf N (nI (200 * s + a)) post := by
  obtain ⟨⟨t, ht, et, -⟩, -, -, -, ep, -⟩ := B.2.2.2.1 a ha
  obtain ⟨⟨w, hw1, hw2, ew⟩, -⟩ := B.2.2.1 t ht
  have hT := B.hT
  have hA := B.hA
  have i1 : vp_in (nI (200 * s + a)) 400 := inn (by omega) (by omega)
  rw [ep] at k
  unfold pg at k
  rw [et, cln (by omega : t < 1000000)] at k
  unfold V_X6_progressOf
  rw [cln (by omega : 200 * s + a < 1000000), h.a15 ha, et, cln (by omega : t < 1000000), h.a20 ha, h.a11 ht]
  refine ⟨i1, i1, inn (by omega) (by omega), ?_, fun y5 e5 => ⟨fun q => ?_, fun q => ?_⟩⟩
  · rw [ew]; exact nI_ne0 (by omega) (by omega)
  · rw [← e5, xmin_le q] at k; exact k
  · rw [← e5, xmin_gt q] at k; exact k
theorem r_rate (h : Rel s nn nt na N0 M N) (hs : s ≤ 1) (B : Bd e nn nt na now g L M) {a : Nat} (ha : a < na) (k : post (M 22 a) N) : V_X6_rateOf N (nI (200 * s + a)) post := by
  obtain ⟨-, -, ⟨v, hv, ev⟩, -, -, er⟩ := B.2.2.2.1 a ha
  have hA := B.hA
  have hG := B.hG
  have i1 : vp_in (nI (200 * s + a)) 400 := inn (by omega) (by omega)
  rw [er] at k
  unfold rt at k
  unfold V_X6_rateOf
  rw [cln (by omega : 200 * s + a < 1000000), h.a19 ha]
  refine ⟨i1, fun q => ?_, fun q => r_prog h hs B ha ?_⟩
  · rw [if_pos (by rw [q]; exact le00)] at k; exact k
  · rw [h.a19 ha]
    rw [if_neg (by rw [ev, nI_z (by omega), ← ev]; exact q)] at k
    exact ⟨i1, q, k⟩
theorem r_rem (h : Rel s nn nt na N0 M N) (hs : s ≤ 1) (B : Bd e nn nt na now g L M) {a : Nat} (ha : a < na) (k : post (rem M a) N) : V_X6_remainingOf N (nI (200 * s + a)) post := by
  obtain ⟨-, -, ⟨v, hv, ev⟩, -, -, -⟩ := B.2.2.2.1 a ha
  obtain ⟨p, hp, ep⟩ := B.pgN ha
  have hA := B.hA
  have hG := B.hG
  have i1 : vp_in (nI (200 * s + a)) 400 := inn (by omega) (by omega)
  unfold V_X6_remainingOf
  refine r_prog h hs B ha ⟨fun q => ?_, fun q => ⟨i1, ?_, ?_⟩⟩
  · unfold rem at k
    rw [if_pos q] at k; exact k
  · rw [ep] at q ⊢
    rw [nI_l (by omega)]
    intro q2
    refine q ?_
    have h0 : p = 0 := (lN_eq (by omega) (by omega)).mp q2
    rw [h0]; rfl
  · unfold rem at k
    rw [if_neg q] at k
    rw [cln (by omega : 200 * s + a < 1000000), h.a19 ha]
    rw [ep] at q
    have hp0 : 0 < p := by
      rcases Nat.eq_zero_or_pos p with h0 | h0
      · exact absurd (by rw [h0]; rfl) q
      · exact h0
    have hb : (1000 - p) * v ≤ 1000 * 256001 := Nat.mul_le_mul (by omega) (by omega)
    rw [ep, ev, show (1000 : Int32) = nI 1000 from rfl, pk_sub hp, pk_mul, pk_div (by omega) hp0 (by omega)] at k
    rw [ep, ev, nI_l (by omega), nI_l (by omega), show (1000 : Int64) = lN 1000 from rfl, lN_sub hp, lN_mul, pk_lDiv (by omega) hp0 (by omega), lN_i]
    exact k
/-- a sum over the running ones, by the reference's way -/
theorem pair_fold (f : Nat → Int32) (L : List Nat) : ∀ (x : Int32) (k : Nat), L.foldl (fun (p : Int32 × Int32) a => (p.1 + f a, p.2 + 1)) (x, nI k) = (L.foldl (fun s a => s + f a) x, nI (k + L.length)) := by
  induction L with
  | nil => intro x k; rfl
  | cons a L ih =>
    intro x k
    rw [List.foldl_cons, List.foldl_cons]
    show List.foldl _ (x + f a, nI k + 1) L = _
    rw [nI_1, ih, List.length_cons, Nat.add_assoc, Nat.add_comm 1]
theorem run_fold {σ : Type} (f : σ → Nat → σ) (x : σ) : (List.range na).foldl (fun x a => if M 17 a = 1 then f x a else x) x = (run na M).foldl f x := by
  unfold run
  rw [List.foldl_filter]
  simp
theorem run_pair (r : Nat) : (List.range na).foldl (fun (p : Int32 × Int32) a => if M 17 a = 1 then (p.1 + M r a, p.2 + 1) else p) (0, 0) = (sumR M r (run na M), nI (run na M).length) := by
  rw [run_fold (fun (p : Int32 × Int32) a => (p.1 + M r a, p.2 + 1))]
  have := pair_fold (M r) (run na M) 0 0
  rw [Nat.zero_add] at this
  exact this
theorem mean_end {x y : Int32} {M' : xM} {r : Nat} (hx : (x, y) = (sumR M r L, nI L.length)) (hl : L.length < 100000) (k : post (meanR M r L) M') : (y = 0 → post 0 M') ∧ (¬ y = 0 → (¬ y = 0 ∧ post (x / y) M')) := by
  cases hx
  unfold meanR at k
  refine ⟨fun q => ?_, fun q => ⟨q, ?_⟩⟩
  · rw [if_pos (by rw [q]; exact le00)] at k; exact k
  · rw [if_neg (by rw [nI_z (by omega)]; exact q)] at k; exact k
theorem r_meanP (h : Rel s nn nt na N0 M N) (hs : s ≤ 1) (B : Bd e nn nt na now g L M) (hL : L = run na M) (h32 : L.length ≤ 32) (k : post (meanR M 21 L) N) : V_X6_meanProgress N post := by
  have hA := B.hA
  unfold V_X6_meanProgress
  refine r_first h ?_
  refine loopO (fun n (p : Int32 × Int32) i => V_X6_meanProgress_L9 post n N p.1 p.2 i) (fun p a => if M 17 a = 1 then (p.1 + M 21 a, p.2 + 1) else p) (fun p => p = (sumR M 21 L, nI L.length)) (200 * s) na (fun _ _ => True) ?_ ?_ (fun _ _ _ _ => trivial) (0, 0) trivial (by rw [hL]; exact run_pair 21)
  · intro n p _ hX
    show V_X6_meanProgress_L9 post (n + 1) N p.1 p.2 _
    rw [V_X6_meanProgress_L9]
    exact r_last h hs B ⟨fun _ => mean_end hX (by omega) k, fun q => absurd (len (Nat.le_refl _) (by omega)) q⟩
  · intro n i p hi _ hW
    show V_X6_meanProgress_L9 post (n + 1) N p.1 p.2 _
    rw [V_X6_meanProgress_L9]
    refine r_last h hs B ⟨fun q => absurd q (nlen (by omega) (by omega)), fun _ => ⟨inn (by omega) (by omega), ?_⟩⟩
    rw [cln (by omega : 200 * s + i < 1000000), h.a17 hi]
    refine ⟨fun q => r_prog h hs B hi (fun y13 e13 y14 e14 y15 e15 => ?_), fun q y10 e10 => ?_⟩
    · rw [if_pos q] at hW
      rw [e13, e14, e15, nI_1]; exact hW
    · rw [if_neg q] at hW
      rw [e10, nI_1]; exact hW
theorem r_meanR (h : Rel s nn nt na N0 M N) (hs : s ≤ 1) (B : Bd e nn nt na now g L M) (hL : L = run na M) (h32 : L.length ≤ 32) (k : post (meanR M 22 L) N) : V_X6_meanRate N post := by
  have hA := B.hA
  unfold V_X6_meanRate
  refine r_first h ?_
  refine loopO (fun n (p : Int32 × Int32) i => V_X6_meanRate_L9 post n N p.1 p.2 i) (fun p a => if M 17 a = 1 then (p.1 + M 22 a, p.2 + 1) else p) (fun p => p = (sumR M 22 L, nI L.length)) (200 * s) na (fun _ _ => True) ?_ ?_ (fun _ _ _ _ => trivial) (0, 0) trivial (by rw [hL]; exact run_pair 22)
  · intro n p _ hX
    show V_X6_meanRate_L9 post (n + 1) N p.1 p.2 _
    rw [V_X6_meanRate_L9]
    exact r_last h hs B ⟨fun _ => mean_end hX (by omega) k, fun q => absurd (len (Nat.le_refl _) (by omega)) q⟩
  · intro n i p hi _ hW
    show V_X6_meanRate_L9 post (n + 1) N p.1 p.2 _
    rw [V_X6_meanRate_L9]
    refine r_last h hs B ⟨fun q => absurd q (nlen (by omega) (by omega)), fun _ => ⟨inn (by omega) (by omega), ?_⟩⟩
    rw [cln (by omega : 200 * s + i < 1000000), h.a17 hi]
    refine ⟨fun q => r_rate h hs B hi (fun y13 e13 y14 e14 y15 e15 => ?_), fun q y10 e10 => ?_⟩
    · rw [if_pos q] at hW
      rw [e13, e14, e15, nI_1]; exact hW
    · rw [if_neg q] at hW
      rw [e10, nI_1]; exact hW
theorem r_spec (h : Rel s nn nt na N0 M N) (hs : s ≤ 1) (B : Bd e nn nt na now g L M) (hL : L = run na M) (k : post (cntS M L) N) : V_X6_speculative N post := by
  have hA := B.hA
  unfold V_X6_speculative
  refine r_first h ?_
  refine loopO (fun n x i => V_X6_speculative_L7 post n N x i) (fun x a => if M 17 a = 1 then (if M 18 a = 0 then x else x + 1) else x) (fun x => post x N) (200 * s) na (fun _ _ => True) ?_ ?_ (fun _ _ _ _ => trivial) 0 trivial ?_
  · intro n x _ hX
    show V_X6_speculative_L7 post (n + 1) N x _
    rw [V_X6_speculative_L7]
    exact r_last h hs B ⟨fun _ => hX, fun q => absurd (len (Nat.le_refl _) (by omega)) q⟩
  · intro n i x hi _ hW
    show V_X6_speculative_L7 post (n + 1) N x _
    rw [V_X6_speculative_L7]
    refine r_last h hs B ⟨fun q => absurd q (nlen (by omega) (by omega)), fun _ => ⟨inn (by omega) (by omega), ?_⟩⟩
    rw [cln (by omega : 200 * s + i < 1000000), h.a17 hi, h.a18 hi]
    refine ⟨fun q => ⟨inn (by omega) (by omega), fun q2 y12 e12 y13 e13 => ?_, fun q2 y14 e14 y15 e15 => ?_⟩, fun q y8 e8 y9 e9 => ?_⟩
    · rw [if_pos q, if_pos q2] at hW
      rw [e12, e13, nI_1, Int32.add_zero]; exact hW
    · rw [if_pos q, if_neg q2] at hW
      rw [e14, e15, nI_1]; exact hW
    · rw [if_neg q] at hW
      rw [e8, e9, nI_1, Int32.add_zero]; exact hW
  · rw [run_fold (fun x a => if M 18 a = 0 then x else x + 1)]
    rw [hL] at k
    exact k
/-- the straggler, by the reference's way -/
theorem r_cand (h : Rel s nn nt na N0 M N) (hs : s ≤ 1) (B : Bd e nn nt na now g L M) {a : Nat} (ha : a < na) (k1 : M 17 a = 1 → cand M a → post 1 N) (k0 : M 17 a = 1 → ¬ cand M a → post 0 N) (kn : ¬ M 17 a = 1 → post 0 N) : V_X6_isCandidate N (nI (200 * s + a)) post := by
  obtain ⟨⟨t, ht, et, -⟩, -⟩ := B.2.2.2.1 a ha
  have hT := B.hT
  have hA := B.hA
  have i1 : vp_in (nI (200 * s + a)) 400 := inn (by omega) (by omega)
  unfold cand at k1 k0
  rw [et, cln (by omega : t < 1000000)] at k1 k0
  unfold V_X6_isCandidate
  rw [cln (by omega : 200 * s + a < 1000000), h.a17 ha, h.a15 ha, et, h.sd, i24, cln (by omega : 24 * s + t < 1000000), h.a12 ht, h.a19 ha, h.1.2.2.2.1]
  exact ⟨i1, fun q => ⟨i1, inn (by omega) (by omega), fun q2 => ⟨i1, fun q3 => k0 q (fun z => z.2 q3), fun q3 => k1 q ⟨q2, q3⟩⟩, fun q2 => k0 q (fun z => q2 z.1)⟩, kn⟩
theorem encOs (o c : Nat) : encO o (some c) = nI (o + c) := rfl
theorem r_naive (h : Rel s nn nt na N0 M N) (hs : s ≤ 1) (B : Bd e nn nt na now g L M) (hL : L = run na M) (h32 : L.length ≤ 32) (k : post (encO (200 * s) (bstN M L)) N) : V_X6_naiveStraggler N post := by
  have hA := B.hA
  unfold V_X6_naiveStraggler
  refine r_first h ?_
  refine loopO (fun n b i => V_X6_naiveStraggler_L8 post n N (encO (200 * s) b) i) (fun b a => if M 17 a = 1 then stN M b a else b) (fun b => post (encO (200 * s) (match b with
  | none => none
  | some c => if meanR M 21 L ≤ M 21 c + 200 then none else some c)) N) (200 * s) na (fun _ b => ∀ c, b = some c → c < na) ?_ ?_ ?_ none (fun c q => by cases q) ?_
  · intro n b hj hX
    show V_X6_naiveStraggler_L8 post (n + 1) N (encO (200 * s) b) _
    rw [V_X6_naiveStraggler_L8]
    refine r_last h hs B ⟨fun _ => ⟨fun q => ?_, fun q => ?_⟩, fun q => absurd (len (Nat.le_refl _) (by omega)) q⟩
    · cases b with
      | none => exact hX
      | some c => exact absurd q (nI_n6 (by have := hj c rfl; omega))
    · cases b with
      | none => exact absurd rfl q
      | some c =>
        have hc := hj c rfl
        rw [encOs]
        refine r_prog h hs B hc (r_meanP h hs B hL h32 ⟨fun q => ?_, fun q => ?_⟩)
        · have hX : post (encO (200 * s) (if meanR M 21 L ≤ M 21 c + 200 then none else some c)) N := hX
          rw [if_pos q] at hX; exact hX
        · have hX : post (encO (200 * s) (if meanR M 21 L ≤ M 21 c + 200 then none else some c)) N := hX
          rw [if_neg q] at hX; exact hX
  · intro n i b hi hj hW
    have hW : V_X6_naiveStraggler_L8 post n N (encO (200 * s) (if M 17 i = 1 then stN M b i else b)) (nI (200 * s + i + 1)) := hW
    show V_X6_naiveStraggler_L8 post (n + 1) N (encO (200 * s) b) _
    rw [V_X6_naiveStraggler_L8]
    refine r_last h hs B ⟨fun q => absurd q (nlen (by omega) (by omega)), fun _ => ?_⟩
    refine r_cand h hs B hi (fun h1 hc => ⟨fun q => absurd q (by decide), fun _ => ⟨fun q y17 e17 => ?_, fun q => ?_⟩⟩) (fun h1 hc => ⟨fun _ y15 e15 => ?_, fun q => absurd rfl q⟩) (fun h1 => ⟨fun _ y15 e15 => ?_, fun q => absurd rfl q⟩)
    · rw [if_pos h1] at hW
      unfold stN at hW
      rw [if_pos hc] at hW
      cases b with
      | none => rw [e17, nI_1]; exact hW
      | some c => exact absurd q (nI_n6 (by have := hj c rfl; omega))
    · rw [if_pos h1] at hW
      unfold stN at hW
      rw [if_pos hc] at hW
      cases b with
      | none => exact absurd rfl q
      | some c =>
        have hcc := hj c rfl
        refine r_prog h hs B hi ?_
        rw [encOs]
        have hW : V_X6_naiveStraggler_L8 post n N (encO (200 * s) (if M 21 c ≤ M 21 i then some c else some i)) (nI (200 * s + i + 1)) := hW
        refine r_prog h hs B hcc ⟨fun q y23 e23 => ?_, fun q y24 e24 => ?_⟩
        · rw [if_pos q] at hW
          rw [e23, nI_1]; exact hW
        · rw [if_neg q] at hW
          rw [e24, nI_1]; exact hW
    · rw [if_pos h1] at hW
      unfold stN at hW
      rw [if_neg hc] at hW
      rw [e15, nI_1]; exact hW
    · rw [if_neg h1] at hW
      rw [e15, nI_1]; exact hW
  · intro i b hi hj c hc
    by_cases h1 : M 17 i = 1
    · rw [if_pos h1] at hc
      have := stN_in (L := List.range na) (fun c q => List.mem_range.mpr (hj c q)) (List.mem_range.mpr hi) c hc
      exact List.mem_range.mp this
    · rw [if_neg h1] at hc
      exact hj c hc
  · rw [run_fold (stN M), ← hL]
    exact k
theorem r_late (h : Rel s nn nt na N0 M N) (hs : s ≤ 1) (B : Bd e nn nt na now g L M) (hL : L = run na M) (h32 : L.length ≤ 32) (k : post (encO (200 * s) (bstL M L)) N) : V_X6_lateStraggler N post := by
  have hA := B.hA
  unfold V_X6_lateStraggler
  refine r_meanR h hs B hL h32 (fun y3 e3 => r_first h ?_)
  rw [h.1.2.2.2.2.1] at e3
  unfold bstL at k
  rw [← e3] at k
  clear e3
  generalize y3 = lm at k ⊢
  refine loopO (fun n b i => V_X6_lateStraggler_L18 post n N lm (encO (200 * s) b) i) (fun b a => if M 17 a = 1 then stL M lm b a else b) (fun b => post (encO (200 * s) b) N) (200 * s) na (fun _ b => ∀ c, b = some c → c < na) ?_ ?_ ?_ none (fun c q => by cases q) ?_
  · intro n b hj hX
    show V_X6_lateStraggler_L18 post (n + 1) N lm (encO (200 * s) b) _
    rw [V_X6_lateStraggler_L18]
    exact r_last h hs B ⟨fun _ => hX, fun q => absurd (len (Nat.le_refl _) (by omega)) q⟩
  · intro n i b hi hj hW
    have hW : V_X6_lateStraggler_L18 post n N lm (encO (200 * s) (if M 17 i = 1 then stL M lm b i else b)) (nI (200 * s + i + 1)) := hW
    show V_X6_lateStraggler_L18 post (n + 1) N lm (encO (200 * s) b) _
    rw [V_X6_lateStraggler_L18]
    refine r_last h hs B ⟨fun q => absurd q (nlen (by omega) (by omega)), fun _ => ?_⟩
    refine r_cand h hs B hi (fun h1 hc => ⟨fun q => absurd q (by decide), fun _ => r_rate h hs B hi ⟨fun q y16 e16 => ?_, fun q0 => ⟨fun q y18 e18 => ?_, fun q => ?_⟩⟩⟩) (fun h1 hc => ⟨fun _ y12 e12 => ?_, fun q => absurd rfl q⟩) (fun h1 => ⟨fun _ y12 e12 => ?_, fun q => absurd rfl q⟩)
    · rw [if_pos h1] at hW
      unfold stL at hW
      rw [if_pos q] at hW
      rw [e16, nI_1]; exact hW
    · rw [if_pos h1] at hW
      unfold stL at hW
      rw [if_neg q0, if_pos hc] at hW
      cases b with
      | none => rw [e18, nI_1]; exact hW
      | some c => exact absurd q (nI_n6 (by have := hj c rfl; omega))
    · rw [if_pos h1] at hW
      unfold stL at hW
      rw [if_neg q0, if_pos hc] at hW
      cases b with
      | none => exact absurd rfl q
      | some c =>
        have hcc := hj c rfl
        refine r_rem h hs B hi ?_
        rw [encOs]
        have hW : V_X6_lateStraggler_L18 post n N lm (encO (200 * s) (if rem M i ≤ rem M c then some c else some i)) (nI (200 * s + i + 1)) := hW
        refine r_rem h hs B hcc ⟨fun q y24 e24 => ?_, fun q y25 e25 => ?_⟩
        · rw [if_pos q] at hW
          rw [e24, nI_1]; exact hW
        · rw [if_neg q] at hW
          rw [e25, nI_1]; exact hW
    · rw [if_pos h1] at hW
      unfold stL at hW
      by_cases q0 : lm ≤ M 22 i * 100
      · rw [if_pos q0] at hW
        rw [e12, nI_1]; exact hW
      · rw [if_neg q0, if_neg hc] at hW
        rw [e12, nI_1]; exact hW
    · rw [if_neg h1] at hW
      rw [e12, nI_1]; exact hW
  · intro i b hi hj c hc
    by_cases h1 : M 17 i = 1
    · rw [if_pos h1] at hc
      have := stL_in (L := List.range na) (fun c q => List.mem_range.mpr (hj c q)) (List.mem_range.mpr hi) c hc
      exact List.mem_range.mp this
    · rw [if_neg h1] at hc
      exact hj c hc
  · rw [run_fold (stL M lm), ← hL]
    exact k
theorem r_strag (h : Rel s nn nt na N0 M N) (hs : s ≤ 1) (B : Bd e nn nt na now g L M) (hL : L = run na M) (h32 : L.length ≤ 32) (k : post (encO (200 * s) (strag M L)) N) : V_X6_stragglerBy N (M 1 0) post := by
  unfold V_X6_stragglerBy
  unfold strag at k
  refine ⟨fun q => ?_, fun q => ⟨fun q2 => ?_, fun q2 => ?_⟩⟩
  · rw [if_pos q] at k
    exact r_naive h hs B hL h32 k
  · rw [if_neg q, if_pos q2] at k
    exact r_late h hs B hL h32 k
  · rw [if_neg q, if_neg q2] at k
    exact k
end
