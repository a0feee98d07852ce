/-! Pure: what is only read: means, candidates, the straggler. -/
theorem run_mem {na a : Nat} {M : xM} : a ∈ run na M ↔ a < na ∧ M 17 a = 1 := by
  unfold run
  rw [List.mem_filter, List.mem_range]
  simp
theorem le00 : (0 : Int32) ≤ 0 := by decide
theorem nI_n6 {c : Nat} (h : c < 1000000) : ¬ nI c = -6 := by
  intro q
  have h1 := congrArg Int32.toInt q
  rw [nI_toInt (by omega), show ((-6 : Int32)).toInt = -6 from by decide] at h1
  omega
theorem nI_z {c : Nat} (h : c < 100000000) : nI c ≤ 0 ↔ nI c = 0 := by
  rw [Int32.le_iff_toInt_le, ← Int32.toInt_inj, nI_toInt (by omega), show ((0 : Int32)).toInt = 0 from by decide]
  omega
def sumR (M : xM) (r : Nat) (L : List Nat) : Int32 := L.foldl (fun s a => s + M r a) 0
def meanR (M : xM) (r : Nat) (L : List Nat) : Int32 := if nI L.length ≤ 0 then 0 else sumR M r L / nI L.length
def cntS (M : xM) (L : List Nat) : Int32 := L.foldl (fun s a => if M 18 a = 0 then s else s + 1) 0
section
variable {L : List Nat} {M : xM} {post : Int32 → xM → Prop}
theorem mem_at {i : Nat} (h : i < L.length) : L[i] ∈ L := List.getElem_mem h
theorem c_mean21 (hl : lst L M) (hb : ∀ a ∈ L, a < 200) (h32 : L.length ≤ 32) (k : post (meanR M 21 L) M) : V_X0_meanOfRunning_21 M post := by
  refine loopL (fun n s i => V_X0_meanOfRunning_21_L4 post n M s i) (fun s a => s + M 21 a) (fun s => post (if nI L.length ≤ 0 then 0 else s / nI L.length) M) L (fun _ _ => True) ?_ ?_ (fun _ _ _ _ => trivial) 0 trivial k
  · intro n s _ hX
    show V_X0_meanOfRunning_21_L4 post (n + 1) M s (nI L.length)
    rw [V_X0_meanOfRunning_21_L4, hl.1]
    refine ⟨fun _ => ⟨fun g => ?_, fun g => ⟨fun g0 => g (by rw [g0]; exact le00), ?_⟩⟩, fun h => absurd (len (Nat.le_refl _) (by omega)) h⟩
    · rw [if_pos g] at hX; exact hX
    · rw [if_neg g] at hX; exact hX
  · intro n i s h _ hW
    show V_X0_meanOfRunning_21_L4 post (n + 1) M s (nI i)
    rw [V_X0_meanOfRunning_21_L4, hl.1, cln (by omega : i < 1000000), hl.2 i h]
    have hb1 := hb _ (mem_at h)
    rw [cln (by omega : L[i] < 1000000)]
    exact ⟨fun g => absurd g (nlen h (by omega)), fun _ => ⟨inn (by omega) (by omega), inn hb1 (by omega), fun y6 e6 y7 e7 => by rw [e6, e7, nI_1]; exact hW⟩⟩
theorem c_mean22 (hl : lst L M) (hb : ∀ a ∈ L, a < 200) (h32 : L.length ≤ 32) (k : post (meanR M 22 L) M) : V_X0_meanOfRunning_22 M post := by
  refine loopL (fun n s i => V_X0_meanOfRunning_22_L4 post n M s i) (fun s a => s + M 22 a) (fun s => post (if nI L.length ≤ 0 then 0 else s / nI L.length) M) L (fun _ _ => True) ?_ ?_ (fun _ _ _ _ => trivial) 0 trivial k
  · intro n s _ hX
    show V_X0_meanOfRunning_22_L4 post (n + 1) M s (nI L.length)
    rw [V_X0_meanOfRunning_22_L4, hl.1]
    refine ⟨fun _ => ⟨fun g => ?_, fun g => ⟨fun g0 => g (by rw [g0]; exact le00), ?_⟩⟩, fun h => absurd (len (Nat.le_refl _) (by omega)) h⟩
    · rw [if_pos g] at hX; exact hX
    · rw [if_neg g] at hX; exact hX
  · intro n i s h _ hW
    show V_X0_meanOfRunning_22_L4 post (n + 1) M s (nI i)
    rw [V_X0_meanOfRunning_22_L4, hl.1, cln (by omega : i < 1000000), hl.2 i h]
    have hb1 := hb _ (mem_at h)
    rw [cln (by omega : L[i] < 1000000)]
    exact ⟨fun g => absurd g (nlen h (by omega)), fun _ => ⟨inn (by omega) (by omega), inn hb1 (by omega), fun y6 e6 y7 e7 => by rw [e6, e7, nI_1]; exact hW⟩⟩
theorem c_spec (hl : lst L M) (hb : ∀ a ∈ L, a < 200) (h32 : L.length ≤ 32) (k : post (cntS M L) M) : V_X0_countSpeculative M post := by
  refine loopL (fun n s i => V_X0_countSpeculative_L4 post n M s i) (fun s a => if M 18 a = 0 then s else s + 1) (fun s => post s M) L (fun _ _ => True) ?_ ?_ (fun _ _ _ _ => trivial) 0 trivial k
  · intro n s _ hX
    show V_X0_countSpeculative_L4 post (n + 1) M s (nI L.length)
    rw [V_X0_countSpeculative_L4, hl.1]
    exact ⟨fun _ => hX, fun h => absurd (len (Nat.le_refl _) (by omega)) h⟩
  · intro n i s h _ hW
    show V_X0_countSpeculative_L4 post (n + 1) M s (nI i)
    rw [V_X0_countSpeculative_L4, hl.1, cln (by omega : i < 1000000), hl.2 i h]
    have hb1 := hb _ (mem_at h)
    rw [cln (by omega : L[i] < 1000000)]
    refine ⟨fun g => absurd g (nlen h (by omega)), fun _ => ⟨inn (by omega) (by omega), inn hb1 (by omega), fun g y5 e5 => ?_, fun g y6 e6 y7 e7 => ?_⟩⟩
    · rw [if_pos g] at hW; rw [e5, nI_1]; exact hW
    · rw [if_neg g] at hW; rw [e6, e7, nI_1]; exact hW
/-- candidates -/
abbrev cand (M : xM) (a : Nat) : Prop := M 12 (M 15 a).toNatClampNeg = 1 ∧ ¬ M 19 a < M 1 2
theorem c_cand {a t : Nat} (ha : a < 200) (et : M 15 a = nI t) (ht : t < 24) (k1 : cand M a → post 1 M) (k0 : ¬ cand M a → post 0 M) : V_X1_isCandidate M (nI a) post := by
  unfold V_X1_isCandidate
  rw [cln (by omega : a < 1000000), et, cln (by omega : t < 1000000)]
  unfold cand at k1 k0
  rw [et, cln (by omega : t < 1000000)] at k1 k0
  exact ⟨inn ha (by omega), inn ht (by omega), fun g => ⟨inn ha (by omega), fun g2 => k0 (fun q => q.2 g2), fun g2 => k1 ⟨g, g2⟩⟩, fun g => k0 (fun q => g q.1)⟩
def encO (o : Nat) (b : Option Nat) : Int32 := match b with
  | none => -6
  | some a => nI (o + a)

def stN (M : xM) (b : Option Nat) (a : Nat) : Option Nat := if cand M a then (match b with
  | none => some a
  | some c => if M 21 c ≤ M 21 a then some c else some a) else b
def rem (M : xM) (a : Nat) : Int32 := if M 21 a = 0 then 1000000 else (1000 - M 21 a) * M 19 a / M 21 a
def stL (M : xM) (lm : Int32) (b : Option Nat) (a : Nat) : Option Nat := if lm ≤ M 22 a * 100 then b else if cand M a then (match b with
  | none => some a
  | some c => if rem M a ≤ rem M c then some c else some a) else b
theorem encO0 (c : Nat) : encO 0 (some c) = nI c := by
  show nI (0 + c) = nI c
  rw [Nat.zero_add]
theorem stN_in {b : Option Nat} {a : Nat} (hb : ∀ c, b = some c → c ∈ L) (ha : a ∈ L) : ∀ c, stN M b a = some c → c ∈ L := by
  intro c hc
  unfold stN at hc
  by_cases h1 : cand M a
  · rw [if_pos h1] at hc
    cases b with
    | none => cases hc; exact ha
    | some c' =>
      have hc : (if M 21 c' ≤ M 21 a then some c' else some a) = some c := hc
      by_cases h2 : M 21 c' ≤ M 21 a
      · rw [if_pos h2] at hc; cases hc; exact hb _ rfl
      · rw [if_neg h2] at hc; cases hc; exact ha
  · rw [if_neg h1] at hc; exact hb c hc
theorem stL_in {lm : Int32} {b : Option Nat} {a : Nat} (hb : ∀ c, b = some c → c ∈ L) (ha : a ∈ L) : ∀ c, stL M lm b a = some c → c ∈ L := by
  intro c hc
  unfold stL at hc
  by_cases h0 : lm ≤ M 22 a * 100
  · rw [if_pos h0] at hc; exact hb c hc
  rw [if_neg h0] at hc
  by_cases h1 : cand M a
  · rw [if_pos h1] at hc
    cases b with
    | none => cases hc; exact ha
    | some c' =>
      have hc : (if rem M a ≤ rem M c' then some c' else some a) = some c := hc
      by_cases h2 : rem M a ≤ rem M c'
      · rw [if_pos h2] at hc; cases hc; exact hb _ rfl
      · rw [if_neg h2] at hc; cases hc; exact ha
  · rw [if_neg h1] at hc; exact hb c hc
def bstN (M : xM) (L : List Nat) : Option Nat := match L.foldl (stN M) none with
  | none => none
  | some c => if meanR M 21 L ≤ M 21 c + 200 then none else some c
def bstL (M : xM) (L : List Nat) : Option Nat := L.foldl (stL M (meanR M 22 L * M 1 3)) none
def strag (M : xM) (L : List Nat) : Option Nat := if M 1 0 = 1 then bstN M L else if M 1 0 = 2 then bstL M L else none
theorem bN_in : ∀ c, L.foldl (stN M) none = some c → c ∈ L := foldInv (stN M) (fun b => ∀ c, b = some c → c ∈ L) L (fun b a ha hb => stN_in hb ha) none (fun c h => by cases h)
theorem bL_in {lm : Int32} : ∀ c, L.foldl (stL M lm) none = some c → c ∈ L := foldInv (stL M lm) (fun b => ∀ c, b = some c → c ∈ L) L (fun b a ha hb => stL_in hb ha) none (fun c h => by cases h)
theorem strag_in : ∀ c, strag M L = some c → c ∈ L := by
  intro c hc
  unfold strag at hc
  split at hc
  · unfold bstN at hc
    cases he : L.foldl (stN M) none with
    | none => rw [he] at hc; cases hc
    | some c' =>
      rw [he] at hc
      have hc : (if meanR M 21 L ≤ M 21 c' + 200 then none else some c') = some c := hc
      by_cases h2 : meanR M 21 L ≤ M 21 c' + 200
      · rw [if_pos h2] at hc; cases hc
      · rw [if_neg h2] at hc; cases hc; exact bN_in _ he
  · split at hc
    · exact bL_in c hc
    · cases hc
theorem c_least (hl : lst L M) (hb : ∀ a ∈ L, a < 200) (h32 : L.length ≤ 32) (ht : ∀ a ∈ L, ∃ t, t < 24 ∧ M 15 a = nI t) (k : post (encO 0 (bstN M L)) M) : V_X1_leastAdvanced M post := by
  refine loopL (fun n b i => V_X1_leastAdvanced_L5 post n M (encO 0 b) i) (stN M) (fun b => post (encO 0 (match b with
  | none => none
  | some c => if meanR M 21 L ≤ M 21 c + 200 then none else some c)) M) L (fun _ b => ∀ c, b = some c → c ∈ L) ?_ ?_ (fun i b h hj => stN_in hj (mem_at h)) none (fun c h => by cases h) k
  · intro n b hj hX
    show V_X1_leastAdvanced_L5 post (n + 1) M (encO 0 b) (nI L.length)
    rw [V_X1_leastAdvanced_L5, hl.1]
    refine ⟨fun _ => ⟨fun g => ?_, fun g => ?_⟩, fun h => absurd (len (Nat.le_refl _) (by omega)) h⟩
    · cases b with
      | none => exact hX
      | some c => exact absurd g (nI_n6 (by have := hb c (hj c rfl); omega))
    · cases b with
      | none => exact absurd rfl g
      | some c =>
        have hc := hb c (hj c rfl)
        refine c_mean21 hl hb h32 ?_
        rw [encO0, cln (by omega : c < 1000000)]
        refine ⟨inn hc (by omega), fun q => ?_, fun q => ?_⟩
        · have hX : post (encO 0 (if meanR M 21 L ≤ M 21 c + 200 then none else some c)) M := hX
          rw [if_pos q] at hX; exact hX
        · have hX : post (encO 0 (if meanR M 21 L ≤ M 21 c + 200 then none else some c)) M := hX
          rw [if_neg q, encO0] at hX
          exact hX
  · intro n i b h hj hW
    have hW : V_X1_leastAdvanced_L5 post n M (encO 0 (stN M b L[i])) (nI (i + 1)) := hW
    show V_X1_leastAdvanced_L5 post (n + 1) M (encO 0 b) (nI i)
    rw [V_X1_leastAdvanced_L5, hl.1, cln (by omega : i < 1000000), hl.2 i h]
    have hb1 := hb _ (mem_at h)
    obtain ⟨t, ht1, et⟩ := ht _ (mem_at h)
    refine ⟨fun g => absurd g (nlen h (by omega)), fun _ => ⟨inn (by omega) (by omega), fun y8 e8 => ?_⟩⟩
    subst e8
    refine c_cand hb1 et ht1 (fun hc => ⟨fun g => absurd g (by decide), fun _ => ⟨fun g y14 e14 => ?_, fun g => ?_⟩⟩) (fun hc => ⟨fun _ y12 e12 => ?_, fun g => absurd rfl g⟩)
    · unfold stN at hW
      rw [if_pos hc] at hW
      cases b with
      | none => rw [e14, nI_1]; have hW : V_X1_leastAdvanced_L5 post n M (nI (0 + L[i])) (nI (i + 1)) := hW; rw [Nat.zero_add] at hW; exact hW
      | some c => exact absurd g (nI_n6 (by have := hb c (hj c rfl); omega))
    · cases b with
      | none => exact absurd rfl g
      | some c =>
        have hcc := hb c (hj c rfl)
        rw [encO0, cln (by omega : c < 1000000), cln (by omega : L[i] < 1000000)]
        unfold stN at hW
        rw [if_pos hc] at hW
        refine ⟨inn hb1 (by omega), inn hcc (by omega), fun q y18 e18 => ?_, fun q y19 e19 => ?_⟩
        · have hW : V_X1_leastAdvanced_L5 post n M (encO 0 (if M 21 c ≤ M 21 L[i] then some c else some L[i])) (nI (i + 1)) := hW
          rw [if_pos q, encO0] at hW
          rw [e18, nI_1]; exact hW
        · have hW : V_X1_leastAdvanced_L5 post n M (encO 0 (if M 21 c ≤ M 21 L[i] then some c else some L[i])) (nI (i + 1)) := hW
          rw [if_neg q, encO0] at hW
          rw [e19, nI_1]; exact hW
    · unfold stN at hW
      rw [if_neg hc] at hW
      rw [e12, nI_1]; exact hW
theorem c_rem {a : Nat} (ha : a < 200) (k : post (rem M a) M) : V_X0_remaining M (nI a) post := by
  unfold V_X0_remaining
  rw [cln (by omega : a < 1000000)]
  unfold rem at k
  refine ⟨inn ha (by omega), fun y2 e2 => ?_⟩
  subst e2
  refine ⟨fun g => ?_, fun g => ⟨inn ha (by omega), g, ?_⟩⟩
  · rw [if_pos g] at k; exact k
  · rw [if_neg g] at k; exact k
theorem c_longest (hl : lst L M) (hb : ∀ a ∈ L, a < 200) (h32 : L.length ≤ 32) (ht : ∀ a ∈ L, ∃ t, t < 24 ∧ M 15 a = nI t) (k : post (encO 0 (bstL M L)) M) : V_X1_longestToRun M post := by
  unfold V_X1_longestToRun
  refine c_mean22 hl hb h32 (fun y3 e3 => ?_)
  unfold bstL at k
  rw [← e3] at k
  clear e3
  generalize y3 = lm at k ⊢
  refine loopL (fun n b i => V_X1_longestToRun_L28 post n M lm (encO 0 b) i) (stL M lm) (fun b => post (encO 0 b) M) L (fun _ b => ∀ c, b = some c → c ∈ L) ?_ ?_ (fun i b h hj => stL_in hj (mem_at h)) none (fun c h => by cases h) k
  · intro n b hj hX
    show V_X1_longestToRun_L28 post (n + 1) M lm (encO 0 b) (nI L.length)
    rw [V_X1_longestToRun_L28, hl.1]
    exact ⟨fun _ => hX, fun h => absurd (len (Nat.le_refl _) (by omega)) h⟩
  · intro n i b h hj hW
    have hW : V_X1_longestToRun_L28 post n M lm (encO 0 (stL M lm b L[i])) (nI (i + 1)) := hW
    show V_X1_longestToRun_L28 post (n + 1) M lm (encO 0 b) (nI i)
    rw [V_X1_longestToRun_L28, hl.1, cln (by omega : i < 1000000), hl.2 i h]
    have hb1 := hb _ (mem_at h)
    obtain ⟨t, ht1, et⟩ := ht _ (mem_at h)
    refine ⟨fun g => absurd g (nlen h (by omega)), fun _ => ⟨inn (by omega) (by omega), fun y6 e6 => ?_⟩⟩
    subst e6
    rw [cln (by omega : L[i] < 1000000)]
    refine ⟨inn hb1 (by omega), fun g y9 e9 => ?_, fun g => ?_⟩
    · unfold stL at hW
      rw [if_pos g] at hW
      rw [e9, nI_1]; exact hW
    · unfold stL at hW
      rw [if_neg g] at hW
      refine c_cand hb1 et ht1 (fun hc => ⟨fun g => absurd g (by decide), fun _ => ⟨fun g y15 e15 => ?_, fun g => ?_⟩⟩) (fun hc => ⟨fun _ y13 e13 => ?_, fun g => absurd rfl g⟩)
      · rw [if_pos hc] at hW
        cases b with
        | none => rw [e15, nI_1]; have hW : V_X1_longestToRun_L28 post n M lm (nI (0 + L[i])) (nI (i + 1)) := hW; rw [Nat.zero_add] at hW; exact hW
        | some c => exact absurd g (nI_n6 (by have := hb c (hj c rfl); omega))
      · rw [if_pos hc] at hW
        cases b with
        | none => exact absurd rfl g
        | some c =>
          have hcc := hb c (hj c rfl)
          refine c_rem hb1 ?_
          show V_X0_remaining M (nI (0 + c)) _
          rw [Nat.zero_add]
          refine c_rem hcc ⟨fun q y21 e21 => ?_, fun q y22 e22 => ?_⟩
          · have hW : V_X1_longestToRun_L28 post n M lm (encO 0 (if rem M L[i] ≤ rem M c then some c else some L[i])) (nI (i + 1)) := hW
            rw [if_pos q] at hW
            show V_X1_longestToRun_L28 post n M lm (nI (0 + c)) y21
            rw [e21, nI_1]; exact hW
          · have hW : V_X1_longestToRun_L28 post n M lm (encO 0 (if rem M L[i] ≤ rem M c then some c else some L[i])) (nI (i + 1)) := hW
            rw [if_neg q] at hW
            have hW : V_X1_longestToRun_L28 post n M lm (nI (0 + L[i])) (nI (i + 1)) := hW
            rw [Nat.zero_add] at hW
            rw [e22, nI_1]; exact hW
      · rw [if_neg hc] at hW
        rw [e13, nI_1]; exact hW
theorem c_strag (hl : lst L M) (hb : ∀ a ∈ L, a < 200) (h32 : L.length ≤ 32) (ht : ∀ a ∈ L, ∃ t, t < 24 ∧ M 15 a = nI t) (k : post (encO 0 (strag M L)) M) : V_X1_findStraggler M post := by
  unfold V_X1_findStraggler
  unfold strag at k
  refine ⟨fun g => ?_, fun g => ⟨fun g2 => ?_, fun g2 => ?_⟩⟩
  · rw [if_pos g] at k
    exact c_least hl hb h32 ht k
  · rw [if_neg g, if_pos g2] at k
    exact c_longest hl hb h32 ht k
  · rw [if_neg g, if_neg g2] at k
    exact k
end
