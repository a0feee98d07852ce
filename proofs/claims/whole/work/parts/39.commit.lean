/-! Pure: the committing step of a tick; a node fails; the list is tidied. -/
def enD (M : xM) (a : Nat) (st : Int32) : xM := fEnd M a (M 15 a).toNatClampNeg (M 16 a).toNatClampNeg st
def kst (T : Int32) (M : xM) (o : Nat) : xM := if M 17 o = 1 ∧ M 15 o = T then enD M o 3 else M
def cmt (na : Nat) (M : xM) (a : Nat) : xM := xu (xu ((List.range na).foldl (kst (M 15 a)) (enD M a 2)) 13 (M 15 a).toNatClampNeg (nI a)) 14 (M 15 a).toNatClampNeg (M 0 4 + 1)
def cst (na : Nat) (p : Int32 × xM) (a : Nat) : Int32 × xM := if p.2 17 a = 1 ∧ ¬ p.2 20 a < p.2 11 (p.2 15 a).toNatClampNeg then (p.1 + 1, cmt na p.2 a) else p
def lsT (X : Int32) (p : Int32 × xM) (a : Nat) : Int32 × xM := if p.2 17 a = 1 ∧ p.2 16 a = X then (p.1 + 1, enD p.2 a 4) else p
/-- rows that these steps leave -/
def sameC (M M' : xM) : Prop := ∀ r, r ≠ 8 → r ≠ 12 → r ≠ 13 → r ≠ 14 → r ≠ 17 → M' r = M r
def lessR (M M' : xM) : Prop := ∀ o, M' 17 o = 1 → M 17 o = 1
theorem xu_comm {M : xM} {k j k' j' : Nat} {x x' : Int32} (h : k ≠ k') : xu (xu M k j x) k' j' x' = xu (xu M k' j' x') k j x := by
  funext r c
  rw [xu_at, xu_at, xu_at, xu_at]
  by_cases h1 : r = k' ∧ c = j'
  · rw [if_pos h1, if_neg (fun q => h (q.1.symm.trans h1.1)), if_pos h1]
  · rw [if_neg h1, if_neg h1]
theorem enD_r {M : xM} {a r : Nat} {st : Int32} (h1 : r ≠ 8) (h2 : r ≠ 12) (h3 : r ≠ 17) : enD M a st r = M r := by
  unfold enD fEnd
  rw [xu_r h1, xu_r h2, xu_r h3]
theorem enD_17 {M : xM} {a o : Nat} {st : Int32} : enD M a st 17 o = if o = a then st else M 17 o := rfl
theorem enD_comm {M : xM} {a r j : Nat} {st x : Int32} (h : r = 13 ∨ r = 14) : enD (xu M r j x) a st = xu (enD M a st) r j x := by
  unfold enD fEnd
  rw [xu_r (show 15 ≠ r by omega), xu_r (show 16 ≠ r by omega), xu_r (show 12 ≠ r by omega), xu_r (show 8 ≠ r by omega), xu_comm (show r ≠ 17 by omega), xu_comm (show r ≠ 12 by omega), xu_comm (show r ≠ 8 by omega)]
theorem kst_comm {M : xM} {o r j : Nat} {T x : Int32} (h : r = 13 ∨ r = 14) : kst T (xu M r j x) o = xu (kst T M o) r j x := by
  unfold kst
  rw [xu_r (show 17 ≠ r by omega), xu_r (show 15 ≠ r by omega), enD_comm h]
  by_cases q : M 17 o = 1 ∧ M 15 o = T
  · rw [if_pos q, if_pos q]
  · rw [if_neg q, if_neg q]
theorem kill_comm {T x : Int32} {r j : Nat} (h : r = 13 ∨ r = 14) : ∀ (l : List Nat) (M : xM), l.foldl (kst T) (xu M r j x) = xu (l.foldl (kst T) M) r j x := by
  intro l
  induction l with
  | nil => intro M; rfl
  | cons o l ih =>
    intro M
    rw [List.foldl_cons, List.foldl_cons, kst_comm h, ih]
theorem sameC.rf (M : xM) : sameC M M := fun _ _ _ _ _ _ => rfl
theorem sameC_enD {M M' : xM} {a : Nat} {st : Int32} (h : sameC M M') : sameC M (enD M' a st) := fun r h1 h2 h3 h4 h5 => (enD_r h1 h2 h5).trans (h r h1 h2 h3 h4 h5)
theorem sameC_kst {M M' : xM} {T : Int32} {o : Nat} (h : sameC M M') : sameC M (kst T M' o) := by
  unfold kst
  by_cases q : M' 17 o = 1 ∧ M' 15 o = T
  · rw [if_pos q]; exact sameC_enD h
  · rw [if_neg q]; exact h
theorem sameC_kill {M M' : xM} {T : Int32} (l : List Nat) (h : sameC M M') : sameC M (l.foldl (kst T) M') := foldInv (kst T) (fun X => sameC M X) l (fun X o _ hX => sameC_kst hX) M' h
theorem sameC_cmt {na : Nat} {M M' : xM} {a : Nat} (h : sameC M M') : sameC M (cmt na M' a) := by
  intro r h1 h2 h3 h4 h5
  unfold cmt
  rw [xu_r h4, xu_r h3]
  exact sameC_kill _ (sameC_enD h) r h1 h2 h3 h4 h5
theorem sameC_cst {na : Nat} {M : xM} {p : Int32 × xM} {a : Nat} (h : sameC M p.2) : sameC M (cst na p a).2 := by
  unfold cst
  by_cases q : p.2 17 a = 1 ∧ ¬ p.2 20 a < p.2 11 (p.2 15 a).toNatClampNeg
  · rw [if_pos q]; exact sameC_cmt h
  · rw [if_neg q]; exact h
theorem lessR.rf (M : xM) : lessR M M := fun _ h => h
theorem lessR_enD {M M' : xM} {a : Nat} {st : Int32} (hs : st ≠ 1) (h : lessR M M') : lessR M (enD M' a st) := by
  intro o ho
  rw [enD_17] at ho
  by_cases q : o = a
  · rw [if_pos q] at ho; exact absurd ho hs
  · rw [if_neg q] at ho; exact h o ho
theorem lessR_kst {M M' : xM} {T : Int32} {o : Nat} (h : lessR M M') : lessR M (kst T M' o) := by
  unfold kst
  by_cases q : M' 17 o = 1 ∧ M' 15 o = T
  · rw [if_pos q]; exact lessR_enD (by decide) h
  · rw [if_neg q]; exact h
theorem lessR_kill {M M' : xM} {T : Int32} (l : List Nat) (h : lessR M M') : lessR M (l.foldl (kst T) M') := foldInv (kst T) (fun X => lessR M X) l (fun X o _ hX => lessR_kst hX) M' h
theorem lessR_cmt {na : Nat} {M M' : xM} {a : Nat} (h : lessR M M') : lessR M (cmt na M' a) := by
  intro o ho
  exact lessR_kill (List.range na) (lessR_enD (by decide) h) o ho
theorem lessR_cst {na : Nat} {M : xM} {p : Int32 × xM} {a : Nat} (h : lessR M p.2) : lessR M (cst na p a).2 := by
  unfold cst
  by_cases q : p.2 17 a = 1 ∧ ¬ p.2 20 a < p.2 11 (p.2 15 a).toNatClampNeg
  · rw [if_pos q]; exact lessR_cmt h
  · rw [if_neg q]; exact h
section
variable {e s nn nt na now g : Nat} {L : List Nat} {N0 M N : xM}
theorem kill_run {T : Int32} {X : xM} (h : lessR M X) : (List.range na).foldl (kst T) X = (run na M).foldl (kst T) X := by
  refine foldJ (kst T) (fun a => decide (M 17 a = 1)) (fun Y => lessR M Y) (List.range na) (fun Y o _ hY => lessR_kst hY) (fun Y o _ hq hY => ?_) X h
  unfold kst
  rw [if_neg]
  intro q
  have := hY o q.1
  simp [this] at hq
theorem cst_run {p : Int32 × xM} (h : lessR M p.2) : (List.range na).foldl (cst na) p = (run na M).foldl (cst na) p := by
  refine foldJ (cst na) (fun a => decide (M 17 a = 1)) (fun p => lessR M p.2) (List.range na) (fun p o _ hp => lessR_cst hp) (fun p o _ hq hp => ?_) p h
  unfold cst
  rw [if_neg]
  intro q
  have := hp o q.1
  simp [this] at hq
/-- the list is tidied -/
theorem c_drop {post : xM → Prop} (hl : lst L M) (hb : ∀ a ∈ L, a < 200) (h32 : L.length ≤ 32) (k : ∀ M', (∀ r, r ≠ 4 → r ≠ 23 → M' r = M r) → M' 4 0 = M 4 0 → lst (L.filter (fun a => decide (M 17 a = 1))) M' → post M') : V_X0_dropEnded M post := by
  have key : ∀ d i (F : List Nat) (M' : xM), i + d = L.length → F.length ≤ i → (∀ r, r ≠ 23 → M' r = M r) → (∀ (j : Nat) (h : j < F.length), M' 23 j = nI F[j]) → (∀ (j : Nat) (h : j < L.length), i ≤ j → M' 23 j = nI L[j]) → (∀ M2, (∀ r, r ≠ 4 → r ≠ 23 → M2 r = M r) → M2 4 0 = M 4 0 → lst (F ++ (L.drop i).filter (fun a => decide (M 17 a = 1))) M2 → post M2) → V_X0_dropEnded_L4 post (d + 1) M' (nI F.length) (nI i) := by
    intro d
    induction d with
    | zero =>
      intro i F M' hi hF hr hf hrest hk
      rw [V_X0_dropEnded_L4, hr 4 (by omega), hl.1, show i = L.length by omega]
      refine ⟨fun _ M2 e2 => hk M2 ?_ ?_ ?_, fun q => absurd (len (Nat.le_refl _) (by omega)) q⟩
      · intro r h1 h2
        rw [e2, xu_r h1]; exact hr r h2
      · rw [e2, xu_c (by omega), hr 4 (by omega)]
      · rw [show i = L.length by omega, List.drop_length, List.filter_nil, List.append_nil]
        refine ⟨by rw [e2]; exact xu_s, fun j h => ?_⟩
        rw [e2, xu_r (by omega)]
        exact hf j h
    | succ d ih =>
      intro i F M' hi hF hr hf hrest hk
      have hl2 : i < L.length := by omega
      have hb1 := hb _ (mem_at hl2)
      rw [V_X0_dropEnded_L4, hr 4 (by omega), hl.1, cln (by omega : i < 1000000), hrest i hl2 (Nat.le_refl _)]
      refine ⟨fun q => absurd q (nlen hl2 (by omega)), fun _ => ⟨inn (by omega) (by omega), fun y4 e4 => ?_⟩⟩
      rw [e4, cln (by omega : L[i] < 1000000), hr 17 (by omega)]
      rw [List.drop_eq_getElem_cons hl2] at hk
      refine ⟨inn hb1 (by omega), fun q => ⟨inn (by omega) (by omega), fun M9 e9 y10 e10 y11 e11 => ?_⟩, fun q y7 e7 => ?_⟩
      · rw [cln (by omega : F.length < 1000000)] at e9
        rw [List.filter_cons_of_pos (by simpa using q)] at hk
        have hlen : (F ++ [L[i]]).length = F.length + 1 := by rw [List.length_append]; rfl
        rw [e10, e11, nI_1, nI_1, ← hlen]
        refine ih (i + 1) (F ++ [L[i]]) M9 (by omega) (by rw [hlen]; omega) (fun r h => by rw [e9, xu_r h]; exact hr r h) (fun j h => ?_) (fun j h1 h2 => ?_) (fun M2 a1 a2 a3 => hk M2 a1 a2 ?_)
        · rw [hlen] at h
          rw [e9]
          by_cases z : j = F.length
          · subst z
            rw [xu_s, List.getElem_concat_length rfl]
          · rw [xu_c z, List.getElem_append_left (by omega)]
            exact hf j (by omega)
        · rw [e9, xu_c (by omega)]
          exact hrest j h1 (by omega)
        · rw [List.append_assoc] at a3
          exact a3
      · rw [List.filter_cons_of_neg (by simpa using q)] at hk
        rw [e7, nI_1]
        exact ih (i + 1) F M' (by omega) (by omega) hr hf (fun j h1 h2 => hrest j h1 (by omega)) hk
  exact ⟨_, key L.length 0 [] M (by omega) (Nat.le_refl _) (fun r _ => rfl) (fun j h => absurd h (Nat.not_lt_zero j)) (fun j h _ => hl.2 j h) (by rw [List.drop_zero, List.nil_append]; exact k)⟩
/-- pointers of an attempt, in any memory with the same rows -/
theorem ptr {M' : xM} (B : Bd e nn nt na now g L M) (hj : sameC M M') {a : Nat} (ha : a < na) : ∃ t n, t < nt ∧ n < nn ∧ M' 15 a = nI t ∧ M' 16 a = nI n ∧ M 15 a = nI t ∧ M 16 a = nI n := by
  obtain ⟨⟨t, ht, et, -⟩, ⟨n, hn, en⟩, -⟩ := B.2.2.2.1 a ha
  refine ⟨t, n, ht, hn, ?_, ?_, et, en⟩
  · rw [hj 15 (by omega) (by omega) (by omega) (by omega) (by omega)]; exact et
  · rw [hj 16 (by omega) (by omega) (by omega) (by omega) (by omega)]; exact en
theorem c_enD {M' : xM} {a : Nat} {st : Int32} {post : xM → Prop} (B : Bd e nn nt na now g L M) (hj : sameC M M') (ha : a < na) (k : post (enD M' a st)) : V_X1_end M' (nI a) st post := by
  obtain ⟨t, n, ht, hn, e1, e2, -⟩ := ptr B hj ha
  have hT := B.hT
  have hN := B.hN
  have hA := B.hA
  unfold enD at k
  rw [e1, e2, cln (by omega : t < 1000000), cln (by omega : n < 1000000)] at k
  exact c_end (by omega) e1 (by omega) e2 (by omega) k
theorem r_enD {M' : xM} {a : Nat} {st : Int32} {post : xM → Prop} (h : Rel s nn nt na N0 M' N) (hs : s ≤ 1) (B : Bd e nn nt na now g L M) (hj : sameC M M') (ha : a < na) (k : ∀ N', Rel s nn nt na N0 (enD M' a st) N' → post N') : V_X6_stops N (nI (200 * s + a)) st post := by
  obtain ⟨t, n, ht, hn, e1, e2, -⟩ := ptr B hj ha
  have hT := B.hT
  have hN := B.hN
  unfold enD at k
  rw [e1, e2, cln (by omega : t < 1000000), cln (by omega : n < 1000000)] at k
  exact r_stops h hs ha B.hA e1 ht hT e2 hn hN k
theorem c_cmt {M' : xM} {a : Nat} {post : xM → Prop} (I : Iv e nn nt na now g L M) (hj : sameC M M') (hr : lessR M M') (ha : a < na) (k : post (cmt na M' a)) : V_X1_commit M' (nI a) (M' 15 a) post := by
  obtain ⟨t, n, ht, hn, e1, e2, -⟩ := ptr I.B hj ha
  have hT := I.B.hT
  have hA := I.B.hA
  have h32 := I.h32
  have i1 : vp_in (nI t) 24 := inn (by omega) (by omega)
  unfold cmt at k
  rw [← kill_comm (Or.inl rfl), ← kill_comm (Or.inr rfl), e1, cln (by omega : t < 1000000)] at k
  unfold V_X1_commit
  rw [e1, cln (by omega : t < 1000000)]
  refine c_enD I.B hj ha ⟨i1, fun M3 e3 => ⟨i1, fun M5 e5 => ?_⟩⟩
  have x0 : M3 0 4 = M' 0 4 := by rw [e3]; rfl
  rw [x0] at e5
  have k5 : post ((List.range na).foldl (kst (nI t)) M5) := by rw [e5, e3]; exact k
  have hj5 : sameC M M5 := by
    intro r h1 h2 h3 h4 h5
    rw [e5, e3, xu_r h4, xu_r h3]
    exact sameC_enD hj r h1 h2 h3 h4 h5
  have hr5 : lessR M M5 := by
    intro o ho
    rw [e5, e3] at ho
    exact lessR_enD (by decide) hr o ho
  rw [kill_run hr5, ← I.r] at k5
  refine loopL (fun n X i => V_X1_commit_L33 post n X (nI t) i) (kst (nI t)) post L (fun _ X => sameC M X) ?_ ?_ (fun i X h hX => sameC_kst hX) M5 hj5 k5
  · intro n X hX hp
    show V_X1_commit_L33 post (n + 1) X (nI t) (nI L.length)
    rw [V_X1_commit_L33, hX 4 (by omega) (by omega) (by omega) (by omega) (by omega), I.l.1]
    exact ⟨fun _ => hp, fun q => absurd (len (Nat.le_refl _) (by omega)) q⟩
  · intro n i X h hX hW
    have hb := I.b200 _ (mem_at h)
    have hm := (I.mem (mem_at h)).1
    have hW : V_X1_commit_L33 post n (kst (nI t) X L[i]) (nI t) (nI (i + 1)) := hW
    unfold kst at hW
    show V_X1_commit_L33 post (n + 1) X (nI t) (nI i)
    rw [V_X1_commit_L33, hX 4 (by omega) (by omega) (by omega) (by omega) (by omega), I.l.1, cln (by omega : i < 1000000), hX 23 (by omega) (by omega) (by omega) (by omega) (by omega), I.l.2 i h]
    refine ⟨fun q => absurd q (nlen h (by omega)), fun _ => ⟨inn (by omega) (by omega), fun y8 e8 => ?_⟩⟩
    rw [e8, cln (by omega : L[i] < 1000000)]
    refine ⟨inn hb (by omega), fun q => ⟨inn hb (by omega), fun q2 => c_enD I.B hX hm (fun y16 e16 => ?_), fun q2 y14 e14 => ?_⟩, fun q y11 e11 => ?_⟩
    · rw [if_pos ⟨q2, q⟩] at hW; rw [e16, nI_1]; exact hW
    · rw [if_neg (fun z => q2 z.1)] at hW; rw [e14, nI_1]; exact hW
    · rw [if_neg (fun z => q z.2)] at hW; rw [e11, nI_1]; exact hW
theorem c_commits {post : Int32 → xM → Prop} (I : Iv e nn nt na now g L M) (k : ∀ M', (∀ r, r ≠ 4 → r ≠ 23 → M' r = ((List.range na).foldl (cst na) (0, M)).2 r) → M' 4 0 = ((List.range na).foldl (cst na) (0, M)).2 4 0 → lst (L.filter (fun a => decide (((List.range na).foldl (cst na) (0, M)).2 17 a = 1))) M' → post ((List.range na).foldl (cst na) (0, M)).1 M') : V_X1_commitFinished M post := by
  have hA := I.B.hA
  have h32 := I.h32
  rw [cst_run (lessR.rf M), ← I.r] at k
  refine loopL (fun n (p : Int32 × xM) i => V_X1_commitFinished_L4 post n p.2 p.1 i) (cst na) (fun p => ∀ M', (∀ r, r ≠ 4 → r ≠ 23 → M' r = p.2 r) → M' 4 0 = p.2 4 0 → lst (L.filter (fun a => decide (p.2 17 a = 1))) M' → post p.1 M') L (fun _ p => sameC M p.2 ∧ lessR M p.2) ?_ ?_ (fun i p h hp => ⟨sameC_cst hp.1, lessR_cst hp.2⟩) (0, M) ⟨sameC.rf M, lessR.rf M⟩ k
  · intro n p hp hX
    have e4 := hp.1 4 (by omega) (by omega) (by omega) (by omega) (by omega)
    have e23 := hp.1 23 (by omega) (by omega) (by omega) (by omega) (by omega)
    show V_X1_commitFinished_L4 post (n + 1) p.2 p.1 (nI L.length)
    rw [V_X1_commitFinished_L4]
    refine ⟨fun _ => c_drop (L := L) ?_ I.b200 h32 hX, fun q => absurd (by rw [e4, I.l.1]; exact len (Nat.le_refl _) (by omega)) q⟩
    unfold lst
    rw [e4, e23]; exact I.l
  · intro n i p h hp hW
    have e4 := hp.1 4 (by omega) (by omega) (by omega) (by omega) (by omega)
    have e23 := hp.1 23 (by omega) (by omega) (by omega) (by omega) (by omega)
    have hb := I.b200 _ (mem_at h)
    have hm := (I.mem (mem_at h)).1
    obtain ⟨t, m, ht, hmm, et, em, -⟩ := ptr I.B hp.1 hm
    have hT := I.B.hT
    have i1 : vp_in (nI L[i]) 200 := inn hb (by omega)
    have hW : V_X1_commitFinished_L4 post n (cst na p L[i]).2 (cst na p L[i]).1 (nI (i + 1)) := hW
    unfold cst at hW
    rw [et, cln (by omega : t < 1000000)] at hW
    show V_X1_commitFinished_L4 post (n + 1) p.2 p.1 (nI i)
    rw [V_X1_commitFinished_L4, e4, I.l.1, cln (by omega : i < 1000000), e23, I.l.2 i h]
    refine ⟨fun q => absurd q (nlen h (by omega)), fun _ => ⟨inn (by omega) (by omega), fun y4 ey4 => ?_⟩⟩
    rw [ey4, cln (by omega : L[i] < 1000000)]
    refine ⟨i1, fun y6 ey6 => ⟨i1, fun q => ?_, fun q y9 e9 => ?_⟩⟩
    · rw [ey6]
      have hcm : ∀ {Q : xM → Prop}, Q (cmt na p.2 L[i]) → V_X1_commit p.2 (nI L[i]) (p.2 15 L[i]) Q := fun hQ => c_cmt I hp.1 hp.2 hm hQ
      rw [et] at hcm
      rw [et, cln (by omega : t < 1000000)]
      refine ⟨i1, inn (by omega) (by omega), fun q2 y13 e13 => ?_, fun q2 => hcm (fun y15 e15 y16 e16 => ?_)⟩
      · rw [if_neg (fun z => z.2 q2)] at hW; rw [e13, nI_1]; exact hW
      · rw [if_pos ⟨q, q2⟩] at hW; rw [e15, e16, nI_1]; exact hW
    · rw [if_neg (fun z => q z.1)] at hW; rw [e9, nI_1]; exact hW
theorem r_kill {M' : xM} {a : Nat} {post : xM → Prop} (h : Rel s nn nt na N0 M' N) (hs : s ≤ 1) (B : Bd e nn nt na now g L M) (hj : sameC M M') (ha : a < na) (k : ∀ N', Rel s nn nt na N0 ((List.range na).foldl (kst (M' 15 a)) M') N' → post N') : V_X6_killsOther N (nI (200 * s + a)) post := by
  have hA := B.hA
  unfold V_X6_killsOther
  refine r_first h ?_
  have key : ∃ n, ∀ N, Rel s nn nt na N0 M' N → V_X6_killsOther_L5 post n N (nI (200 * s + a)) (nI (200 * s)) := by
    refine loopO (fun n X i => ∀ N, Rel s nn nt na N0 X N → V_X6_killsOther_L5 post n N (nI (200 * s + a)) i) (kst (M' 15 a)) (fun X => ∀ N', Rel s nn nt na N0 X N' → post N') (200 * s) na (fun _ X => sameC M X) ?_ ?_ (fun i X _ hX => sameC_kst hX) M' hj k
    · intro n X hX hp N h
      show V_X6_killsOther_L5 post (n + 1) N _ _
      rw [V_X6_killsOther_L5]
      exact r_last2 h hs ⟨fun _ => hp N h, fun q => absurd (len (Nat.le_refl _) (by omega)) q⟩
    · intro n i X hi hX hW N h
      have i1 : vp_in (nI (200 * s + i)) 400 := inn (by omega) (by omega)
      have hW : ∀ N, Rel s nn nt na N0 (kst (M' 15 a) X i) N → V_X6_killsOther_L5 post n N (nI (200 * s + a)) (nI (200 * s + i + 1)) := hW
      unfold kst at hW
      have eT : X 15 a = M' 15 a := by
        rw [hX 15 (by omega) (by omega) (by omega) (by omega) (by omega), hj 15 (by omega) (by omega) (by omega) (by omega) (by omega)]
      show V_X6_killsOther_L5 post (n + 1) N _ _
      rw [V_X6_killsOther_L5]
      refine r_last2 h hs ⟨fun q => absurd q (nlen (by omega) (by omega)), fun _ => ?_⟩
      rw [cln (by omega : 200 * s + i < 1000000), cln (by omega : 200 * s + a < 1000000), h.a17 hi, h.a15 hi, h.a15 ha, eT]
      refine ⟨i1, fun q => ⟨i1, inn (by omega) (by omega), fun q2 => r_enD h hs B hX hi (fun N' h' y14 e14 => ?_), fun q2 y12 e12 => ?_⟩, fun q y8 e8 => ?_⟩
      · rw [if_pos ⟨q, q2⟩] at hW; rw [e14, nI_1]; exact hW N' h'
      · rw [if_neg (fun z => q2 z.2)] at hW; rw [e12, nI_1]; exact hW N h
      · rw [if_neg (fun z => q z.1)] at hW; rw [e8, nI_1]; exact hW N h
  obtain ⟨n, hk⟩ := key
  exact ⟨n, hk N h⟩
theorem r_commits {post : Int32 → xM → Prop} (h : Rel s nn nt na N0 M N) (hs : s ≤ 1) (B : Bd e nn nt na now g L M) (k : ∀ N', Rel s nn nt na N0 ((List.range na).foldl (cst na) (0, M)).2 N' → post ((List.range na).foldl (cst na) (0, M)).1 N') : V_X6_commits N post := by
  have hA := B.hA
  unfold V_X6_commits
  refine r_first h ?_
  have key : ∃ n, ∀ N, Rel s nn nt na N0 M N → V_X6_commits_L7 post n N 0 (nI (200 * s)) := by
    refine loopO (fun n (p : Int32 × xM) i => ∀ N, Rel s nn nt na N0 p.2 N → V_X6_commits_L7 post n N p.1 i) (cst na) (fun p => ∀ N', Rel s nn nt na N0 p.2 N' → post p.1 N') (200 * s) na (fun _ p => sameC M p.2) ?_ ?_ (fun i p _ hp => sameC_cst hp) (0, M) (sameC.rf M) k
    · intro n p hp hX N h
      show V_X6_commits_L7 post (n + 1) N p.1 _
      rw [V_X6_commits_L7]
      exact r_last2 h hs ⟨fun _ => hX N h, fun q => absurd (len (Nat.le_refl _) (by omega)) q⟩
    · intro n i p hi hp hW N h
      have i1 : vp_in (nI (200 * s + i)) 400 := inn (by omega) (by omega)
      obtain ⟨t, m, ht, hmm, et, em, -⟩ := ptr B hp hi
      have hT := B.hT
      have i2 : vp_in (nI (24 * s + t)) 48 := inn (by omega) (by omega)
      have hW : ∀ N, Rel s nn nt na N0 (cst na p i).2 N → V_X6_commits_L7 post n N (cst na p i).1 (nI (200 * s + i + 1)) := hW
      unfold cst at hW
      rw [et, cln (by omega : t < 1000000)] at hW
      show V_X6_commits_L7 post (n + 1) N p.1 _
      rw [V_X6_commits_L7]
      refine r_last2 h hs ⟨fun q => absurd q (nlen (by omega) (by omega)), fun _ => ?_⟩
      rw [cln (by omega : 200 * s + i < 1000000), h.a17 hi, h.a15 hi, et, cln (by omega : t < 1000000), h.a20 hi, h.a11 ht]
      refine ⟨i1, fun q => ⟨i1, i1, inn (by omega) (by omega), fun q2 y13 e13 => ?_, fun q2 => ?_⟩, fun q y8 e8 => ?_⟩
      · rw [if_neg (fun z => z.2 q2)] at hW; rw [e13, nI_1]; exact hW N h
      · rw [if_pos ⟨q, q2⟩] at hW
        refine r_enD h hs B hp hi (fun N14 h14 => ?_)
        have hj14 : sameC M (enD p.2 i 2) := sameC_enD hp
        have eT : enD p.2 i 2 15 i = nI t := (congrFun (enD_r (by omega) (by omega) (by omega)) i).trans et
        refine r_kill h14 hs B hj14 hi (fun N15 h15 => ?_)
        rw [eT] at h15
        have hj15 : sameC M ((List.range na).foldl (kst (nI t)) (enD p.2 i 2)) := sameC_kill _ hj14
        obtain ⟨t2, -, -, -, e15, -⟩ := ptr B hj15 hi
        have e15 : ((List.range na).foldl (kst (nI t)) (enD p.2 i 2)) 15 i = nI t := by
          rw [hj15 15 (by omega) (by omega) (by omega) (by omega) (by omega), ← hp 15 (by omega) (by omega) (by omega) (by omega) (by omega)]; exact et
        refine ⟨i1, r_first h15 ?_⟩
        rw [h15.sd, h15.a15 hi, e15, i24, cln (by omega : 24 * s + t < 1000000)]
        refine ⟨i2, fun N20 e20 => ?_⟩
        rw [pk_sub (by omega : 200 * s ≤ 200 * s + i), show 200 * s + i - 200 * s = i by omega] at e20
        have h20 : Rel s nn nt na N0 (xu ((List.range na).foldl (kst (nI t)) (enD p.2 i 2)) 13 t (nI i)) N20 := by rw [e20]; exact h15.w13
        refine ⟨i1, ?_⟩
        rw [h20.sd, cln (by omega : s < 1000000), h20.a15 hi, show (xu ((List.range na).foldl (kst (nI t)) (enD p.2 i 2)) 13 t (nI i)) 15 i = nI t from e15, i24, cln (by omega : 24 * s + t < 1000000), h20.nw]
        refine ⟨inn (by omega) (by omega), i2, fun N24 e24 y25 e25 y26 e26 => ?_⟩
        rw [e25, e26, nI_1]
        refine hW N24 ?_
        show Rel s nn nt na N0 (cmt na p.2 i) N24
        unfold cmt
        rw [et, cln (by omega : t < 1000000)]
        have e04 : (xu ((List.range na).foldl (kst (nI t)) (enD p.2 i 2)) 13 t (nI i)) 0 4 = p.2 0 4 := by
          rw [xu_r (by omega), hj15 0 (by omega) (by omega) (by omega) (by omega) (by omega), ← hp 0 (by omega) (by omega) (by omega) (by omega) (by omega)]
        rw [e04] at e24
        rw [e24]
        exact h20.w14
      · rw [if_neg (fun z => q z.1)] at hW; rw [e8, nI_1]; exact hW N h
  obtain ⟨n, hk⟩ := key
  exact ⟨n, hk N h⟩
end
