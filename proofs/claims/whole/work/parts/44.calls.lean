/-! Pure: the calls that only read, and those that set one thing. -/
def LI (b : Nat) (M N : xM) : Prop := ∃ nn nt na now, Iv 0 nn nt na now now (run na M) M ∧ Rel 0 nn nt na N M N ∧ N 0 6 = M 1 0 ∧ now ≤ b
theorem LI.up {b : Nat} {M N : xM} (h : LI b M N) : LI (b + 500) M N := by
  obtain ⟨nn, nt, na, now, h1, h2, h3, h4⟩ := h
  exact ⟨nn, nt, na, now, h1, h2, h3, by omega⟩
theorem relS {nn nt na : Nat} {N0 M N : xM} (h : Rel 0 nn nt na N0 M N) : Rel 0 nn nt na N M N := ⟨h.1, h.2.1, rfl, fun z => absurd z (by omega), h.2.2.2.2⟩
theorem ix3 (x : Int32) {n : Nat} (hn : n ≤ 1000) : (x < 0 ∨ nI n ≤ x) ∨ ∃ j, j < n ∧ x = nI j := by
  rcases pk_ix x (n := n) (by omega) with h | h | ⟨j, h1, h2⟩
  · exact Or.inl (Or.inl h)
  · exact Or.inl (Or.inr h)
  · exact Or.inr ⟨j, h1, h2⟩
theorem rng_o {x lo hi : Int32} {post : Int32 → Prop} (h : x < lo ∨ hi < x) (k : post 0) : V_X5_inRange x lo hi post := ⟨fun _ => k, fun q => ⟨fun _ => k, fun q2 => (h.elim q q2).elim⟩⟩
theorem rng_i {x lo hi : Int32} {post : Int32 → Prop} (h1 : ¬ x < lo) (h2 : ¬ hi < x) (k : post 1) : V_X5_inRange x lo hi post := ⟨fun q => absurd q h1, fun _ => ⟨fun q => absurd q h2, fun _ => k⟩⟩
theorem win_o {x lo hi : Int32} {post : Int32 → Prop} (h : x < lo ∨ hi < x) (k : post 0) : V_X6_within x lo hi post := ⟨fun _ => k, fun q => ⟨fun _ => k, fun q2 => (h.elim q q2).elim⟩⟩
theorem win_i {x lo hi : Int32} {post : Int32 → Prop} (h1 : ¬ x < lo) (h2 : ¬ hi < x) (k : post 1) : V_X6_within x lo hi post := ⟨fun q => absurd q h1, fun _ => ⟨fun q => absurd q h2, fun _ => k⟩⟩
theorem pred_lt {x : Int32} {n : Nat} (hn : n ≤ 1000) (h : nI n ≤ x) : nI n - 1 < x := by
  rw [Int32.lt_iff_toInt_lt, show (1 : Int32) = nI 1 from rfl, pk_sub_toInt (by omega) (by omega)]
  rw [Int32.le_iff_toInt_le, nI_toInt (by omega)] at h
  omega
theorem pred_ge {j n : Nat} (hn : n ≤ 1000) (h : j < n) : ¬ nI n - 1 < nI j := by
  rw [Int32.lt_iff_toInt_lt, show (1 : Int32) = nI 1 from rfl, pk_sub_toInt (by omega) (by omega), nI_toInt (by omega)]
  omega
theorem wn_o {x : Int32} {n : Nat} {post : Int32 → Prop} (hn : n ≤ 1000) (h : x < 0 ∨ nI n ≤ x) (k : post 0) : V_X6_within x 0 (nI n - 1) post := win_o (h.imp id (pred_lt hn)) k
theorem wn_i {j n : Nat} {post : Int32 → Prop} (hn : n ≤ 1000) (h : j < n) (k : post 1) : V_X6_within (nI j) 0 (nI n - 1) post := win_i (nI_pos (by omega)) (pred_ge hn h) k
section
variable {b nn nt na now : Nat} {M T N : xM} {Q : Int32 → xM × xM → Prop} {post : Int32 → xM → Prop}
theorem h0_o {x : Int32} (e : M 4 0 = nI na) (h : x < 0 ∨ nI na ≤ x) (k : post 0 M) : V_X0_has M x post := by
  unfold V_X0_has
  rw [e]
  exact ⟨fun _ => k, fun q => ⟨fun _ => k, fun q2 => (h.elim q q2).elim⟩⟩
theorem h0_i {j : Nat} (e : M 4 0 = nI na) (hn : na ≤ 1000) (h : j < na) (k : post 1 M) : V_X0_has M (nI j) post := by
  unfold V_X0_has
  rw [e]
  exact ⟨fun q => absurd q (nI_pos (by omega)), fun _ => ⟨fun q => absurd q (nlen h (by omega)), fun _ => k⟩⟩
theorem h2_o {x : Int32} (e : M 2 0 = nI nn) (h : x < 0 ∨ nI nn ≤ x) (k : post 0 M) : V_X2_has M x post := by
  unfold V_X2_has
  rw [e]
  exact ⟨fun _ => k, fun q => ⟨fun _ => k, fun q2 => (h.elim q q2).elim⟩⟩
theorem h2_i {j : Nat} (e : M 2 0 = nI nn) (hn : nn ≤ 1000) (h : j < nn) (k : post 1 M) : V_X2_has M (nI j) post := by
  unfold V_X2_has
  rw [e]
  exact ⟨fun q => absurd q (nI_pos (by omega)), fun _ => ⟨fun q => absurd q (nlen h (by omega)), fun _ => k⟩⟩
theorem h4_o {x : Int32} (e : M 3 0 = nI nt) (h : x < 0 ∨ nI nt ≤ x) (k : post 0 M) : V_X4_has M x post := by
  unfold V_X4_has
  rw [e]
  exact ⟨fun _ => k, fun q => ⟨fun _ => k, fun q2 => (h.elim q q2).elim⟩⟩
theorem h4_i {j : Nat} (e : M 3 0 = nI nt) (hn : nt ≤ 1000) (h : j < nt) (k : post 1 M) : V_X4_has M (nI j) post := by
  unfold V_X4_has
  rw [e]
  exact ⟨fun q => absurd q (nI_pos (by omega)), fun _ => ⟨fun q => absurd q (nlen h (by omega)), fun _ => k⟩⟩
theorem n_o {x : Int32} (e : N 0 0 = nI nn) (hn : nn ≤ 1000) (h : x < 0 ∨ nI nn ≤ x) (k : post 0 N) : V_X6_isNode N x post := by
  unfold V_X6_isNode
  rw [e]
  exact wn_o hn h ⟨Or.inl rfl, k⟩
theorem n_i {j : Nat} (e : N 0 0 = nI nn) (hn : nn ≤ 1000) (h : j < nn) (k : post 1 N) : V_X6_isNode N (nI j) post := by
  unfold V_X6_isNode
  rw [e]
  exact wn_i hn h ⟨Or.inr rfl, k⟩
theorem t_o {x : Int32} (e : N 0 4 = nI nt) (hn : nt ≤ 1000) (h : x < 0 ∨ nI nt ≤ x) (k : post 0 N) : V_X6_isTask N x post := by
  unfold V_X6_isTask
  rw [e]
  exact wn_o hn h ⟨Or.inl rfl, k⟩
theorem t_i {j : Nat} (e : N 0 4 = nI nt) (hn : nt ≤ 1000) (h : j < nt) (k : post 1 N) : V_X6_isTask N (nI j) post := by
  unfold V_X6_isTask
  rw [e]
  exact wn_i hn h ⟨Or.inr rfl, k⟩
theorem a_o {x : Int32} (e : N 5 0 = nI na) (hn : na ≤ 1000) (h : x < 0 ∨ nI na ≤ x) (k : post 0 N) : V_X6_isAttempt N x post := by
  unfold V_X6_isAttempt
  rw [z0, e]
  exact ⟨in02, wn_o hn h ⟨Or.inl rfl, k⟩⟩
theorem a_i {j : Nat} (e : N 5 0 = nI na) (hn : na ≤ 1000) (h : j < na) (k : post 1 N) : V_X6_isAttempt N (nI j) post := by
  unfold V_X6_isAttempt
  rw [z0, e]
  exact ⟨in02, wn_i hn h ⟨Or.inr rfl, k⟩⟩
theorem b_time (h : LI b M N) (hq : ∀ r M' T', (∀ post : Int32 → xM → Prop, (∀ N', LI (b + 500) M' N' → post r N') → V_X6_time N post) → Q r (M', T')) : V_X5_time M T Q := by
  obtain ⟨nn, nt, na, now, I, R, hp, hb⟩ := id h
  unfold V_X5_time
  refine hq _ M T (fun post hk => ?_)
  unfold V_X6_time
  rw [z0, R.nw]
  exact ⟨in02, hk N h.up⟩
theorem b_attemptCount (h : LI b M N) (hq : ∀ r M' T', (∀ post : Int32 → xM → Prop, (∀ N', LI (b + 500) M' N' → post r N') → V_X6_attemptCount N post) → Q r (M', T')) : V_X5_attemptCount M T Q := by
  obtain ⟨nn, nt, na, now, I, R, hp, hb⟩ := id h
  unfold V_X5_attemptCount
  refine hq _ M T (fun post hk => ?_)
  unfold V_X6_attemptCount
  rw [z0, R.cn, ← I.B.eA]
  exact ⟨in02, hk N h.up⟩
theorem b_attemptTask {x : Int32} (h : LI b M N) (hq : ∀ r M' T', (∀ post : Int32 → xM → Prop, (∀ N', LI (b + 500) M' N' → post r N') → V_X6_attemptTask N x post) → Q r (M', T')) : V_X5_attemptTask M T x Q := by
  obtain ⟨nn, nt, na, now, I, R, hp, hb⟩ := id h
  have hA := I.B.hA
  unfold V_X5_attemptTask
  unfold V_X6_attemptTask at hq
  rcases ix3 x (n := na) (by omega) with ho | ⟨j, hj, rfl⟩
  · exact h0_o I.B.eA ho ⟨fun _ => hq _ M T (fun post hk => a_o R.cn (by omega) ho ⟨fun _ => hk N h.up, fun z => absurd rfl z⟩), fun z => absurd rfl z⟩
  · have e := R.a15 hj
    rw [nat0] at e
    rw [cln (by omega : j < 1000000)] at hq ⊢
    refine h0_i I.B.eA (by omega) hj ⟨fun z => absurd z (by decide), fun _ => ⟨inn (by omega) (by omega), hq _ M T (fun post hk => a_i R.cn (by omega) hj ⟨fun z => absurd z (by decide), fun _ => ⟨inn (by omega) (by omega), ?_⟩⟩)⟩⟩
    rw [e]; exact hk N h.up
theorem b_attemptNode {x : Int32} (h : LI b M N) (hq : ∀ r M' T', (∀ post : Int32 → xM → Prop, (∀ N', LI (b + 500) M' N' → post r N') → V_X6_attemptNode N x post) → Q r (M', T')) : V_X5_attemptNode M T x Q := by
  obtain ⟨nn, nt, na, now, I, R, hp, hb⟩ := id h
  have hA := I.B.hA
  unfold V_X5_attemptNode
  unfold V_X6_attemptNode at hq
  rcases ix3 x (n := na) (by omega) with ho | ⟨j, hj, rfl⟩
  · exact h0_o I.B.eA ho ⟨fun _ => hq _ M T (fun post hk => a_o R.cn (by omega) ho ⟨fun _ => hk N h.up, fun z => absurd rfl z⟩), fun z => absurd rfl z⟩
  · have e := R.a16 hj
    rw [nat0] at e
    rw [cln (by omega : j < 1000000)] at hq ⊢
    refine h0_i I.B.eA (by omega) hj ⟨fun z => absurd z (by decide), fun _ => ⟨inn (by omega) (by omega), hq _ M T (fun post hk => a_i R.cn (by omega) hj ⟨fun z => absurd z (by decide), fun _ => ⟨inn (by omega) (by omega), ?_⟩⟩)⟩⟩
    rw [e]; exact hk N h.up
theorem b_attemptState {x : Int32} (h : LI b M N) (hq : ∀ r M' T', (∀ post : Int32 → xM → Prop, (∀ N', LI (b + 500) M' N' → post r N') → V_X6_attemptState N x post) → Q r (M', T')) : V_X5_attemptState M T x Q := by
  obtain ⟨nn, nt, na, now, I, R, hp, hb⟩ := id h
  have hA := I.B.hA
  unfold V_X5_attemptState
  unfold V_X6_attemptState at hq
  rcases ix3 x (n := na) (by omega) with ho | ⟨j, hj, rfl⟩
  · exact h0_o I.B.eA ho ⟨fun _ => hq _ M T (fun post hk => a_o R.cn (by omega) ho ⟨fun _ => hk N h.up, fun z => absurd rfl z⟩), fun z => absurd rfl z⟩
  · have e := R.a17 hj
    rw [nat0] at e
    rw [cln (by omega : j < 1000000)] at hq ⊢
    refine h0_i I.B.eA (by omega) hj ⟨fun z => absurd z (by decide), fun _ => ⟨inn (by omega) (by omega), hq _ M T (fun post hk => a_i R.cn (by omega) hj ⟨fun z => absurd z (by decide), fun _ => ⟨inn (by omega) (by omega), ?_⟩⟩)⟩⟩
    rw [e]; exact hk N h.up
theorem b_isSpeculative {x : Int32} (h : LI b M N) (hq : ∀ r M' T', (∀ post : Int32 → xM → Prop, (∀ N', LI (b + 500) M' N' → post r N') → V_X6_isSpeculative N x post) → Q r (M', T')) : V_X5_isSpeculative M T x Q := by
  obtain ⟨nn, nt, na, now, I, R, hp, hb⟩ := id h
  have hA := I.B.hA
  unfold V_X5_isSpeculative
  unfold V_X6_isSpeculative at hq
  rcases ix3 x (n := na) (by omega) with ho | ⟨j, hj, rfl⟩
  · exact h0_o I.B.eA ho ⟨fun _ => hq _ M T (fun post hk => a_o R.cn (by omega) ho ⟨fun _ => hk N h.up, fun z => absurd rfl z⟩), fun z => absurd rfl z⟩
  · have e := R.a18 hj
    rw [nat0] at e
    rw [cln (by omega : j < 1000000)] at hq ⊢
    refine h0_i I.B.eA (by omega) hj ⟨fun z => absurd z (by decide), fun _ => ⟨inn (by omega) (by omega), fun q => hq _ M T (fun post hk => a_i R.cn (by omega) hj ⟨fun z => absurd z (by decide), fun _ => ⟨inn (by omega) (by omega), ?_⟩⟩), fun q => hq _ M T (fun post hk => a_i R.cn (by omega) hj ⟨fun z => absurd z (by decide), fun _ => ⟨inn (by omega) (by omega), ?_⟩⟩)⟩⟩
    · rw [e]; exact ⟨fun _ => hk N h.up, fun z => absurd q z⟩
    · rw [e]; exact ⟨fun z => absurd z q, fun _ => hk N h.up⟩
theorem b_progress {x : Int32} (h : LI b M N) (hq : ∀ r M' T', (∀ post : Int32 → xM → Prop, (∀ N', LI (b + 500) M' N' → post r N') → V_X6_progress N x post) → Q r (M', T')) : V_X5_progress M T x Q := by
  obtain ⟨nn, nt, na, now, I, R, hp, hb⟩ := id h
  have hA := I.B.hA
  unfold V_X5_progress
  unfold V_X6_progress at hq
  rcases ix3 x (n := na) (by omega) with ho | ⟨j, hj, rfl⟩
  · exact h0_o I.B.eA ho ⟨fun _ => hq _ M T (fun post hk => a_o R.cn (by omega) ho ⟨fun _ => hk N h.up, fun z => absurd rfl z⟩), fun z => absurd rfl z⟩
  · rw [cln (by omega : j < 1000000)]
    have hr : ∀ {p : Int32 → xM → Prop}, p (M 21 j) N → V_X6_progressOf N (nI (200 * 0 + j)) p := fun k => r_prog R (by omega) I.B hj k
    rw [nat0] at hr
    exact h0_i I.B.eA (by omega) hj ⟨fun z => absurd z (by decide), fun _ => ⟨inn (by omega) (by omega), hq _ M T (fun post hk => a_i R.cn (by omega) hj ⟨fun z => absurd z (by decide), fun _ => hr (hk N h.up)⟩)⟩⟩
theorem b_remainingTime {x : Int32} (h : LI b M N) (hq : ∀ r M' T', (∀ post : Int32 → xM → Prop, (∀ N', LI (b + 500) M' N' → post r N') → V_X6_remainingTime N x post) → Q r (M', T')) : V_X5_remainingTime M T x Q := by
  obtain ⟨nn, nt, na, now, I, R, hp, hb⟩ := id h
  have hA := I.B.hA
  unfold V_X5_remainingTime
  unfold V_X6_remainingTime at hq
  rcases ix3 x (n := na) (by omega) with ho | ⟨j, hj, rfl⟩
  · exact h0_o I.B.eA ho ⟨fun _ => hq _ M T (fun post hk => a_o R.cn (by omega) ho ⟨fun _ => hk N h.up, fun z => absurd rfl z⟩), fun z => absurd rfl z⟩
  · have e := R.a17 hj
    rw [nat0] at e
    rw [cln (by omega : j < 1000000)] at hq ⊢
    have hr : ∀ {p : Int32 → xM → Prop}, p (rem M j) N → V_X6_remainingOf N (nI (200 * 0 + j)) p := fun k => r_rem R (by omega) I.B hj k
    rw [nat0] at hr
    refine h0_i I.B.eA (by omega) hj ⟨fun z => absurd z (by decide), fun _ => ⟨inn (by omega) (by omega), fun q => c_rem (by omega) (hq _ M T (fun post hk => a_i R.cn (by omega) hj ⟨fun z => absurd z (by decide), fun _ => ⟨inn (by omega) (by omega), ?_⟩⟩)), fun q => hq _ M T (fun post hk => a_i R.cn (by omega) hj ⟨fun z => absurd z (by decide), fun _ => ⟨inn (by omega) (by omega), ?_⟩⟩)⟩⟩
    · rw [e]; exact ⟨fun _ => hr (hk N h.up), fun z => absurd q z⟩
    · rw [e]; exact ⟨fun z => absurd z q, fun _ => hk N h.up⟩
theorem b_nodeScore {x : Int32} (h : LI b M N) (hq : ∀ r M' T', (∀ post : Int32 → xM → Prop, (∀ N', LI (b + 500) M' N' → post r N') → V_X6_nodeScore N x post) → Q r (M', T')) : V_X5_nodeScore M T x Q := by
  obtain ⟨nn, nt, na, now, I, R, hp, hb⟩ := id h
  have hN := I.B.hN
  have eN : N 0 0 = nI nn := by rw [R.1.1]; exact I.B.eN
  unfold V_X5_nodeScore
  unfold V_X6_nodeScore at hq
  rcases ix3 x (n := nn) (by omega) with ho | ⟨j, hj, rfl⟩
  · exact h2_o I.B.eN ho ⟨fun _ => hq _ M T (fun post hk => n_o eN (by omega) ho ⟨fun _ => hk N h.up, fun z => absurd rfl z⟩), fun z => absurd rfl z⟩
  · exact h2_i I.B.eN (by omega) hj ⟨fun z => absurd z (by decide), fun _ => c_score (by omega) (hq _ M T (fun post hk => n_i eN (by omega) hj ⟨fun z => absurd z (by decide), fun _ => r_score R (by omega) I.B hj (hk N h.up)⟩))⟩
theorem b_isSlowNode {x : Int32} (h : LI b M N) (hq : ∀ r M' T', (∀ post : Int32 → xM → Prop, (∀ N', LI (b + 500) M' N' → post r N') → V_X6_isSlowNode N x post) → Q r (M', T')) : V_X5_isSlowNode M T x Q := by
  obtain ⟨nn, nt, na, now, I, R, hp, hb⟩ := id h
  have hN := I.B.hN
  have eN : N 0 0 = nI nn := by rw [R.1.1]; exact I.B.eN
  unfold V_X5_isSlowNode
  unfold V_X6_isSlowNode at hq
  rcases ix3 x (n := nn) (by omega) with ho | ⟨j, hj, rfl⟩
  · exact h2_o I.B.eN ho ⟨fun _ => hq _ M T (fun post hk => n_o eN (by omega) ho ⟨fun _ => hk N h.up, fun z => absurd rfl z⟩), fun z => absurd rfl z⟩
  · refine h2_i I.B.eN (by omega) hj ⟨fun z => absurd z (by decide), fun _ => c_slow I.B hj ⟨fun q => hq _ M T (fun post hk => n_i eN (by omega) hj ⟨fun z => absurd z (by decide), fun _ => r_slow R (by omega) I.B hj ⟨fun _ => hk N h.up, fun z => absurd q z⟩⟩), fun q => hq _ M T (fun post hk => n_i eN (by omega) hj ⟨fun z => absurd z (by decide), fun _ => r_slow R (by omega) I.B hj ⟨fun z => absurd z q, fun _ => hk N h.up⟩⟩)⟩⟩
theorem b_runningOn {x : Int32} (h : LI b M N) (hq : ∀ r M' T', (∀ post : Int32 → xM → Prop, (∀ N', LI (b + 500) M' N' → post r N') → V_X6_runningOn N x post) → Q r (M', T')) : V_X5_runningOn M T x Q := by
  obtain ⟨nn, nt, na, now, I, R, hp, hb⟩ := id h
  have hN := I.B.hN
  have eN : N 0 0 = nI nn := by rw [R.1.1]; exact I.B.eN
  unfold V_X5_runningOn
  unfold V_X6_runningOn at hq
  rcases ix3 x (n := nn) (by omega) with ho | ⟨j, hj, rfl⟩
  · exact h2_o I.B.eN ho ⟨fun _ => hq _ M T (fun post hk => n_o eN (by omega) ho ⟨fun _ => hk N h.up, fun z => absurd rfl z⟩), fun z => absurd rfl z⟩
  · have e := R.a8 hj
    rw [nat8] at e
    rw [cln (by omega : j < 1000000)] at hq ⊢
    refine h2_i I.B.eN (by omega) hj ⟨fun z => absurd z (by decide), fun _ => ⟨inn (by omega) (by omega), hq _ M T (fun post hk => n_i eN (by omega) hj ⟨fun z => absurd z (by decide), fun _ => ⟨inn (by omega) (by omega), ?_⟩⟩)⟩⟩
    rw [e]; exact hk N h.up
theorem b_committedAttempt {x : Int32} (h : LI b M N) (hq : ∀ r M' T', (∀ post : Int32 → xM → Prop, (∀ N', LI (b + 500) M' N' → post r N') → V_X6_committedAttempt N x post) → Q r (M', T')) : V_X5_committedAttempt M T x Q := by
  obtain ⟨nn, nt, na, now, I, R, hp, hb⟩ := id h
  have hT := I.B.hT
  have eT : N 0 4 = nI nt := by rw [R.1.2.1]; exact I.B.eT
  unfold V_X5_committedAttempt
  unfold V_X6_committedAttempt at hq
  rcases ix3 x (n := nt) (by omega) with ho | ⟨j, hj, rfl⟩
  · exact h4_o I.B.eT ho ⟨fun _ => hq _ M T (fun post hk => t_o eT (by omega) ho ⟨fun _ => hk N h.up, fun z => absurd rfl z⟩), fun z => absurd rfl z⟩
  · have e := R.a13 hj
    rw [nat24] at e
    rw [cln (by omega : j < 1000000)] at hq ⊢
    refine h4_i I.B.eT (by omega) hj ⟨fun z => absurd z (by decide), fun _ => ⟨inn (by omega) (by omega), hq _ M T (fun post hk => t_i eT (by omega) hj ⟨fun z => absurd z (by decide), fun _ => ⟨inn (by omega) (by omega), ?_⟩⟩)⟩⟩
    rw [e]; exact hk N h.up
theorem b_finishTime {x : Int32} (h : LI b M N) (hq : ∀ r M' T', (∀ post : Int32 → xM → Prop, (∀ N', LI (b + 500) M' N' → post r N') → V_X6_finishTime N x post) → Q r (M', T')) : V_X5_finishTime M T x Q := by
  obtain ⟨nn, nt, na, now, I, R, hp, hb⟩ := id h
  have hT := I.B.hT
  have eT : N 0 4 = nI nt := by rw [R.1.2.1]; exact I.B.eT
  unfold V_X5_finishTime
  unfold V_X6_finishTime at hq
  rcases ix3 x (n := nt) (by omega) with ho | ⟨j, hj, rfl⟩
  · exact h4_o I.B.eT ho ⟨fun _ => hq _ M T (fun post hk => t_o eT (by omega) ho ⟨fun _ => hk N h.up, fun z => absurd rfl z⟩), fun z => absurd rfl z⟩
  · have e := R.a14 hj
    rw [nat24] at e
    rw [cln (by omega : j < 1000000)] at hq ⊢
    refine h4_i I.B.eT (by omega) hj ⟨fun z => absurd z (by decide), fun _ => ⟨inn (by omega) (by omega), hq _ M T (fun post hk => t_i eT (by omega) hj ⟨fun z => absurd z (by decide), fun _ => ⟨inn (by omega) (by omega), ?_⟩⟩)⟩⟩
    rw [e]; exact hk N h.up
theorem b_taskState {x : Int32} (h : LI b M N) (hq : ∀ r M' T', (∀ post : Int32 → xM → Prop, (∀ N', LI (b + 500) M' N' → post r N') → V_X6_taskState N x post) → Q r (M', T')) : V_X5_taskState M T x Q := by
  obtain ⟨nn, nt, na, now, I, R, hp, hb⟩ := id h
  have hT := I.B.hT
  have eT : N 0 4 = nI nt := by rw [R.1.2.1]; exact I.B.eT
  unfold V_X5_taskState
  unfold V_X6_taskState at hq
  rcases ix3 x (n := nt) (by omega) with ho | ⟨j, hj, rfl⟩
  · exact h4_o I.B.eT ho ⟨fun _ => hq _ M T (fun post hk => t_o eT (by omega) ho ⟨fun _ => hk N h.up, fun z => absurd rfl z⟩), fun z => absurd rfl z⟩
  · have rs : ∀ {p : Int32 → xM → Prop}, ((M 13 j = -6 → ((M 12 j ≤ 0 → p 0 N) ∧ (¬ M 12 j ≤ 0 → p 1 N))) ∧ (¬ M 13 j = -6 → p 2 N)) → V_X6_stateOfTask N (nI j) p := by
      intro p hpp
      unfold V_X6_stateOfTask
      intro y1 e1
      rw [R.sd, i24] at e1
      rw [e1, cln (by omega : 24 * 0 + j < 1000000), R.a13 hj, R.a12 hj]
      exact ⟨inn (by omega) (by omega), fun q => ⟨inn (by omega) (by omega), hpp.1 q⟩, hpp.2⟩
    refine h4_i I.B.eT (by omega) hj ⟨fun z => absurd z (by decide), fun _ => ?_⟩
    unfold V_X4_stateOf
    rw [cln (by omega : j < 1000000)]
    have i1 : vp_in (nI j) 24 := inn (by omega) (by omega)
    refine ⟨i1, fun q => ⟨i1, fun q2 => hq _ M T (fun post hk => t_i eT (by omega) hj ⟨fun z => absurd z (by decide), fun _ => rs ⟨fun _ => ⟨fun _ => hk N h.up, fun z => absurd q2 z⟩, fun z => absurd q z⟩⟩), fun q2 => hq _ M T (fun post hk => t_i eT (by omega) hj ⟨fun z => absurd z (by decide), fun _ => rs ⟨fun _ => ⟨fun z => absurd z q2, fun _ => hk N h.up⟩, fun z => absurd q z⟩⟩)⟩, fun q => hq _ M T (fun post hk => t_i eT (by omega) hj ⟨fun z => absurd z (by decide), fun _ => rs ⟨fun z => absurd z q, fun _ => hk N h.up⟩⟩)⟩
theorem b_makespan (h : LI b M N) (hq : ∀ r M' T', (∀ post : Int32 → xM → Prop, (∀ N', LI (b + 500) M' N' → post r N') → V_X6_makespan N post) → Q r (M', T')) : V_X5_makespan M T Q := by
  obtain ⟨nn, nt, na, now, I, R, hp, hb⟩ := id h
  exact c_lf I.B (hq _ M T (fun post hk => r_lf R (by omega) I.B (hk N h.up)))
theorem b_straggler (h : LI b M N) (hq : ∀ r M' T', (∀ post : Int32 → xM → Prop, (∀ N', LI (b + 500) M' N' → post r N') → V_X6_straggler N post) → Q r (M', T')) : V_X5_straggler M T Q := by
  obtain ⟨nn, nt, na, now, I, R, hp, hb⟩ := id h
  unfold V_X6_straggler at hq
  rw [hp] at hq
  exact c_strag I.l I.b200 I.h32 I.tk (hq _ M T (fun post hk => r_strag R (by omega) I.B I.r I.h32 (hk N h.up)))
theorem b_runningSpeculative (h : LI b M N) (hq : ∀ r M' T', (∀ post : Int32 → xM → Prop, (∀ N', LI (b + 500) M' N' → post r N') → V_X6_runningSpeculative N post) → Q r (M', T')) : V_X5_runningSpeculative M T Q := by
  obtain ⟨nn, nt, na, now, I, R, hp, hb⟩ := id h
  exact c_spec I.l I.b200 I.h32 (hq _ M T (fun post hk => r_spec R (by omega) I.B I.r (hk N h.up)))
theorem b_wastedWork (h : LI b M N) (hq : ∀ r M' T', (∀ post : Int32 → xM → Prop, (∀ N', LI (b + 500) M' N' → post r N') → V_X6_wastedWork N post) → Q r (M', T')) : V_X5_wastedWork M T Q := by
  obtain ⟨nn, nt, na, now, I, R, hp, hb⟩ := id h
  exact c_wst I.B (hq _ M T (fun post hk => r_wst R I.B (hk N h.up)))
theorem b_tick {x : Int32} (hb2 : b + 500 ≤ 256000) (h : LI b M N) (hq : ∀ r M' T', (∀ post : Int32 → xM → Prop, (∀ N', LI (b + 500) M' N' → post r N') → V_X6_tick N x post) → Q r (M', T')) : V_X5_tick M T x Q := by
  obtain ⟨nn, nt, na, now, I, R, hp, hb⟩ := id h
  unfold V_X5_tick
  unfold V_X6_tick at hq
  by_cases h1 : x < 1
  · exact rng_o (Or.inl h1) ⟨fun _ => hq _ M T (fun post hk => win_o (Or.inl h1) ⟨fun _ => hk N h.up, fun z => absurd rfl z⟩), fun z => absurd rfl z⟩
  by_cases h2 : 500 < x
  · exact rng_o (Or.inr h2) ⟨fun _ => hq _ M T (fun post hk => win_o (Or.inr h2) ⟨fun _ => hk N h.up, fun z => absurd rfl z⟩), fun z => absurd rfl z⟩
  obtain ⟨m, hm, rfl⟩ : ∃ m : Nat, m ≤ 500 ∧ x = nI m := by
    refine nI_of2 (M := 500) (by decide) (fun z => h1 ?_) (Int32.not_lt.mp h2)
    rw [Int32.lt_iff_toInt_lt] at z ⊢
    rw [show ((0 : Int32)).toInt = 0 from by decide] at z
    rw [show ((1 : Int32)).toInt = 1 from by decide]
    omega
  refine rng_i h1 h2 ⟨fun z => absurd z (by decide), fun _ => ⟨m + 1, ?_⟩⟩
  refine c_ticks hm m 0 na now M 0 (by omega) I (by omega) (fun c na' M' hc => ?_)
  refine hq _ M' T (fun post hk => win_i h1 h2 ⟨fun z => absurd z (by decide), fun _ => ⟨m + 1, ?_⟩⟩)
  obtain ⟨J, es⟩ := iv_ticks m na now M c na' M' I (by omega) hc
  refine r_ticks (N0 := N) hm m 0 na now M N 0 c na' M' (by omega) I (by omega) hp R hc (fun N' R' => hk N' ?_)
  exact ⟨nn, nt, na', now + m, J, relS R', by rw [R'.2.2.1, hp, es], by omega⟩
theorem b_simulatedMakespan {x : Int32} (h : LI b M N) (hq : ∀ r M' T', (∀ post : Int32 → xM → Prop, (∀ N', LI (b + 500) M' N' → post r N') → V_X6_simulatedMakespan N x post) → Q r (M', T')) : V_X5_simulatedMakespan M T x Q := by
  obtain ⟨nn, nt, na, now, I, R, hp, hb⟩ := id h
  unfold V_X5_simulatedMakespan V_X5_isPolicy
  unfold V_X6_simulatedMakespan at hq
  have main : (¬ x < 0 ∧ ¬ 2 < x) → V_X1_startAfresh M T x (fun (u2 : xM × xM) => (∀ y5 : Int32, y5 = (u2.2 3 0) → (∃ n16 : Nat, V_X5_simulatedMakespan_L35 Q n16 u2.1 u2.2 y5 0))) := by
    intro hx
    refine c_fresh I.B (fun y5 e5 => ⟨2001, ?_⟩)
    obtain ⟨J, ho⟩ := fresh_iv (T := T) (p := x) I.B
    obtain ⟨⟨f1, -⟩, ⟨-, f3, -⟩, -⟩ := fresh_ok (T := T) (p := x) I.B
    have e5 : y5 = nI (opn nt (fresh nn nt M T x)) := by rw [e5, ho]; exact f3
    rw [e5]
    refine c_sim 2000 0 0 _ (by omega) J (fun na' T' now' J' hs => ?_)
    refine hq _ M T' (fun post hk => win_i hx.1 hx.2 ⟨fun z => absurd z (by decide), fun _ N3 e3 => ?_⟩)
    rw [e3]
    refine r_clears ⟨2001, ?_⟩
    refine r_sim 2000 0 0 _ _ na' T' (by omega) J f1 (rel_fresh R I.B) hs (fun N' R' N8 e8 => hk N8 ?_)
    rw [e8]
    obtain ⟨R8, e6⟩ := rel_back R I.B R'
    exact ⟨nn, nt, na, now, I, R8, by rw [e6, hp], by omega⟩
  refine ⟨fun q => ⟨fun z => absurd z (by decide), fun _ => main (by rw [q]; decide)⟩, fun q => ⟨fun q2 => ⟨fun z => absurd z (by decide), fun _ => main (by rw [q2]; decide)⟩, fun q2 => ⟨fun q3 => ⟨fun z => absurd z (by decide), fun _ => main (by rw [q3]; decide)⟩, fun q3 => ⟨fun _ => hq _ M T (fun post hk => win_o ?_ ⟨fun _ => hk N h.up, fun z => absurd rfl z⟩), fun z => absurd rfl z⟩⟩⟩⟩
  by_cases z : x < 0
  · exact Or.inl z
  · refine Or.inr ?_
    rw [Int32.lt_iff_toInt_lt] at z ⊢
    rw [← Int32.toInt_inj] at q q2 q3
    rw [show ((0 : Int32)).toInt = 0 from by decide] at z q
    rw [show ((1 : Int32)).toInt = 1 from by decide] at q2
    rw [show ((2 : Int32)).toInt = 2 from by decide] at q3 ⊢
    omega
end
