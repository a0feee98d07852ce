/-! Pure: the law's loop (by program, wip/whole/genpure.py). -/
theorem c_law_0 {xs : Nat → Int32} {L b : Nat} {K : xM → xM → xM → Prop} {M T N : xM} {x3 : Int32} (h : LI b M N) (hb2 : b + 500 ≤ 256000) (i1 : vp_in (x3 + 1) L) (i2 : vp_in (x3 + 2) L) (hK : ∀ M' T' N', LI (b + 500) M' N' → K M' T' N') : V_law_c0 xs L K M T N x3 := by
  unfold V_law_c0
  exact ⟨i1, i2, b_addNode h (fun r M' T' hf => ⟨i1, i2, hf _ (fun N' hn => ⟨fun _ => hK _ _ _ hn, fun q => absurd rfl q⟩)⟩)⟩
theorem c_law_1 {xs : Nat → Int32} {L b : Nat} {K : xM → xM → xM → Prop} {M T N : xM} {x3 : Int32} (h : LI b M N) (hb2 : b + 500 ≤ 256000) (i1 : vp_in (x3 + 1) L) (i2 : vp_in (x3 + 2) L) (hK : ∀ M' T' N', LI (b + 500) M' N' → K M' T' N') : V_law_c1 xs L K M T N x3 := by
  unfold V_law_c1
  exact ⟨i1, i2, b_setSpeed h (fun r M' T' hf => ⟨i1, i2, hf _ (fun N' hn => ⟨fun _ => hK _ _ _ hn, fun q => absurd rfl q⟩)⟩)⟩
theorem c_law_2 {xs : Nat → Int32} {L b : Nat} {K : xM → xM → xM → Prop} {M T N : xM} {x3 : Int32} (h : LI b M N) (hb2 : b + 500 ≤ 256000) (i1 : vp_in (x3 + 1) L) (i2 : vp_in (x3 + 2) L) (hK : ∀ M' T' N', LI (b + 500) M' N' → K M' T' N') : V_law_c2 xs L K M T N x3 := by
  unfold V_law_c2
  exact ⟨i1, b_failNode h (fun r M' T' hf => ⟨i1, hf _ (fun N' hn => ⟨fun _ => hK _ _ _ hn, fun q => absurd rfl q⟩)⟩)⟩
theorem c_law_3 {xs : Nat → Int32} {L b : Nat} {K : xM → xM → xM → Prop} {M T N : xM} {x3 : Int32} (h : LI b M N) (hb2 : b + 500 ≤ 256000) (i1 : vp_in (x3 + 1) L) (i2 : vp_in (x3 + 2) L) (hK : ∀ M' T' N', LI (b + 500) M' N' → K M' T' N') : V_law_c3 xs L K M T N x3 := by
  unfold V_law_c3
  exact ⟨i1, b_repairNode h (fun r M' T' hf => ⟨i1, hf _ (fun N' hn => ⟨fun _ => hK _ _ _ hn, fun q => absurd rfl q⟩)⟩)⟩
theorem c_law_4 {xs : Nat → Int32} {L b : Nat} {K : xM → xM → xM → Prop} {M T N : xM} {x3 : Int32} (h : LI b M N) (hb2 : b + 500 ≤ 256000) (i1 : vp_in (x3 + 1) L) (i2 : vp_in (x3 + 2) L) (hK : ∀ M' T' N', LI (b + 500) M' N' → K M' T' N') : V_law_c4 xs L K M T N x3 := by
  unfold V_law_c4
  exact ⟨i1, b_addTask h (fun r M' T' hf => ⟨i1, hf _ (fun N' hn => ⟨fun _ => hK _ _ _ hn, fun q => absurd rfl q⟩)⟩)⟩
theorem c_law_5 {xs : Nat → Int32} {L b : Nat} {K : xM → xM → xM → Prop} {M T N : xM} {x3 : Int32} (h : LI b M N) (hb2 : b + 500 ≤ 256000) (i1 : vp_in (x3 + 1) L) (i2 : vp_in (x3 + 2) L) (hK : ∀ M' T' N', LI (b + 500) M' N' → K M' T' N') : V_law_c5 xs L K M T N x3 := by
  unfold V_law_c5
  exact ⟨i1, b_setPolicy h (fun r M' T' hf => ⟨i1, hf _ (fun N' hn => ⟨fun _ => hK _ _ _ hn, fun q => absurd rfl q⟩)⟩)⟩
theorem c_law_6 {xs : Nat → Int32} {L b : Nat} {K : xM → xM → xM → Prop} {M T N : xM} {x3 : Int32} (h : LI b M N) (hb2 : b + 500 ≤ 256000) (i1 : vp_in (x3 + 1) L) (i2 : vp_in (x3 + 2) L) (hK : ∀ M' T' N', LI (b + 500) M' N' → K M' T' N') : V_law_c6 xs L K M T N x3 := by
  unfold V_law_c6
  exact ⟨i1, i2, b_setLimits h (fun r M' T' hf => ⟨i1, i2, hf _ (fun N' hn => ⟨fun _ => hK _ _ _ hn, fun q => absurd rfl q⟩)⟩)⟩
theorem c_law_7 {xs : Nat → Int32} {L b : Nat} {K : xM → xM → xM → Prop} {M T N : xM} {x3 : Int32} (h : LI b M N) (hb2 : b + 500 ≤ 256000) (i1 : vp_in (x3 + 1) L) (i2 : vp_in (x3 + 2) L) (hK : ∀ M' T' N', LI (b + 500) M' N' → K M' T' N') : V_law_c7 xs L K M T N x3 := by
  unfold V_law_c7
  exact ⟨i1, i2, b_setThresholds h (fun r M' T' hf => ⟨i1, i2, hf _ (fun N' hn => ⟨fun _ => hK _ _ _ hn, fun q => absurd rfl q⟩)⟩)⟩
theorem c_law_8 {xs : Nat → Int32} {L b : Nat} {K : xM → xM → xM → Prop} {M T N : xM} {x3 : Int32} (h : LI b M N) (hb2 : b + 500 ≤ 256000) (i1 : vp_in (x3 + 1) L) (i2 : vp_in (x3 + 2) L) (hK : ∀ M' T' N', LI (b + 500) M' N' → K M' T' N') : V_law_c8 xs L K M T N x3 := by
  unfold V_law_c8
  exact ⟨i1, b_tick hb2 h (fun r M' T' hf => ⟨i1, hf _ (fun N' hn => ⟨fun _ => hK _ _ _ hn, fun q => absurd rfl q⟩)⟩)⟩
theorem c_law_9 {xs : Nat → Int32} {L b : Nat} {K : xM → xM → xM → Prop} {M T N : xM} {x3 : Int32} (h : LI b M N) (hb2 : b + 500 ≤ 256000) (i1 : vp_in (x3 + 1) L) (i2 : vp_in (x3 + 2) L) (hK : ∀ M' T' N', LI (b + 500) M' N' → K M' T' N') : V_law_c9 xs L K M T N x3 := by
  unfold V_law_c9
  exact b_time h (fun r M' T' hf => hf _ (fun N' hn => ⟨fun _ => hK _ _ _ hn, fun q => absurd rfl q⟩))
theorem c_law_10 {xs : Nat → Int32} {L b : Nat} {K : xM → xM → xM → Prop} {M T N : xM} {x3 : Int32} (h : LI b M N) (hb2 : b + 500 ≤ 256000) (i1 : vp_in (x3 + 1) L) (i2 : vp_in (x3 + 2) L) (hK : ∀ M' T' N', LI (b + 500) M' N' → K M' T' N') : V_law_c10 xs L K M T N x3 := by
  unfold V_law_c10
  exact ⟨i1, b_taskState h (fun r M' T' hf => ⟨i1, hf _ (fun N' hn => ⟨fun _ => hK _ _ _ hn, fun q => absurd rfl q⟩)⟩)⟩
theorem c_law_11 {xs : Nat → Int32} {L b : Nat} {K : xM → xM → xM → Prop} {M T N : xM} {x3 : Int32} (h : LI b M N) (hb2 : b + 500 ≤ 256000) (i1 : vp_in (x3 + 1) L) (i2 : vp_in (x3 + 2) L) (hK : ∀ M' T' N', LI (b + 500) M' N' → K M' T' N') : V_law_c11 xs L K M T N x3 := by
  unfold V_law_c11
  exact ⟨i1, b_committedAttempt h (fun r M' T' hf => ⟨i1, hf _ (fun N' hn => ⟨fun _ => hK _ _ _ hn, fun q => absurd rfl q⟩)⟩)⟩
theorem c_law_12 {xs : Nat → Int32} {L b : Nat} {K : xM → xM → xM → Prop} {M T N : xM} {x3 : Int32} (h : LI b M N) (hb2 : b + 500 ≤ 256000) (i1 : vp_in (x3 + 1) L) (i2 : vp_in (x3 + 2) L) (hK : ∀ M' T' N', LI (b + 500) M' N' → K M' T' N') : V_law_c12 xs L K M T N x3 := by
  unfold V_law_c12
  exact ⟨i1, b_finishTime h (fun r M' T' hf => ⟨i1, hf _ (fun N' hn => ⟨fun _ => hK _ _ _ hn, fun q => absurd rfl q⟩)⟩)⟩
theorem c_law_13 {xs : Nat → Int32} {L b : Nat} {K : xM → xM → xM → Prop} {M T N : xM} {x3 : Int32} (h : LI b M N) (hb2 : b + 500 ≤ 256000) (i1 : vp_in (x3 + 1) L) (i2 : vp_in (x3 + 2) L) (hK : ∀ M' T' N', LI (b + 500) M' N' → K M' T' N') : V_law_c13 xs L K M T N x3 := by
  unfold V_law_c13
  exact b_makespan h (fun r M' T' hf => hf _ (fun N' hn => ⟨fun _ => hK _ _ _ hn, fun q => absurd rfl q⟩))
theorem c_law_14 {xs : Nat → Int32} {L b : Nat} {K : xM → xM → xM → Prop} {M T N : xM} {x3 : Int32} (h : LI b M N) (hb2 : b + 500 ≤ 256000) (i1 : vp_in (x3 + 1) L) (i2 : vp_in (x3 + 2) L) (hK : ∀ M' T' N', LI (b + 500) M' N' → K M' T' N') : V_law_c14 xs L K M T N x3 := by
  unfold V_law_c14
  exact b_attemptCount h (fun r M' T' hf => hf _ (fun N' hn => ⟨fun _ => hK _ _ _ hn, fun q => absurd rfl q⟩))
theorem c_law_15 {xs : Nat → Int32} {L b : Nat} {K : xM → xM → xM → Prop} {M T N : xM} {x3 : Int32} (h : LI b M N) (hb2 : b + 500 ≤ 256000) (i1 : vp_in (x3 + 1) L) (i2 : vp_in (x3 + 2) L) (hK : ∀ M' T' N', LI (b + 500) M' N' → K M' T' N') : V_law_c15 xs L K M T N x3 := by
  unfold V_law_c15
  exact ⟨i1, b_attemptTask h (fun r M' T' hf => ⟨i1, hf _ (fun N' hn => ⟨fun _ => hK _ _ _ hn, fun q => absurd rfl q⟩)⟩)⟩
theorem c_law_16 {xs : Nat → Int32} {L b : Nat} {K : xM → xM → xM → Prop} {M T N : xM} {x3 : Int32} (h : LI b M N) (hb2 : b + 500 ≤ 256000) (i1 : vp_in (x3 + 1) L) (i2 : vp_in (x3 + 2) L) (hK : ∀ M' T' N', LI (b + 500) M' N' → K M' T' N') : V_law_c16 xs L K M T N x3 := by
  unfold V_law_c16
  exact ⟨i1, b_attemptNode h (fun r M' T' hf => ⟨i1, hf _ (fun N' hn => ⟨fun _ => hK _ _ _ hn, fun q => absurd rfl q⟩)⟩)⟩
theorem c_law_17 {xs : Nat → Int32} {L b : Nat} {K : xM → xM → xM → Prop} {M T N : xM} {x3 : Int32} (h : LI b M N) (hb2 : b + 500 ≤ 256000) (i1 : vp_in (x3 + 1) L) (i2 : vp_in (x3 + 2) L) (hK : ∀ M' T' N', LI (b + 500) M' N' → K M' T' N') : V_law_c17 xs L K M T N x3 := by
  unfold V_law_c17
  exact ⟨i1, b_attemptState h (fun r M' T' hf => ⟨i1, hf _ (fun N' hn => ⟨fun _ => hK _ _ _ hn, fun q => absurd rfl q⟩)⟩)⟩
theorem c_law_18 {xs : Nat → Int32} {L b : Nat} {K : xM → xM → xM → Prop} {M T N : xM} {x3 : Int32} (h : LI b M N) (hb2 : b + 500 ≤ 256000) (i1 : vp_in (x3 + 1) L) (i2 : vp_in (x3 + 2) L) (hK : ∀ M' T' N', LI (b + 500) M' N' → K M' T' N') : V_law_c18 xs L K M T N x3 := by
  unfold V_law_c18
  exact ⟨i1, b_isSpeculative h (fun r M' T' hf => ⟨i1, hf _ (fun N' hn => ⟨fun _ => hK _ _ _ hn, fun q => absurd rfl q⟩)⟩)⟩
theorem c_law_19 {xs : Nat → Int32} {L b : Nat} {K : xM → xM → xM → Prop} {M T N : xM} {x3 : Int32} (h : LI b M N) (hb2 : b + 500 ≤ 256000) (i1 : vp_in (x3 + 1) L) (i2 : vp_in (x3 + 2) L) (hK : ∀ M' T' N', LI (b + 500) M' N' → K M' T' N') : V_law_c19 xs L K M T N x3 := by
  unfold V_law_c19
  exact ⟨i1, b_progress h (fun r M' T' hf => ⟨i1, hf _ (fun N' hn => ⟨fun _ => hK _ _ _ hn, fun q => absurd rfl q⟩)⟩)⟩
theorem c_law_20 {xs : Nat → Int32} {L b : Nat} {K : xM → xM → xM → Prop} {M T N : xM} {x3 : Int32} (h : LI b M N) (hb2 : b + 500 ≤ 256000) (i1 : vp_in (x3 + 1) L) (i2 : vp_in (x3 + 2) L) (hK : ∀ M' T' N', LI (b + 500) M' N' → K M' T' N') : V_law_c20 xs L K M T N x3 := by
  unfold V_law_c20
  exact ⟨i1, b_remainingTime h (fun r M' T' hf => ⟨i1, hf _ (fun N' hn => ⟨fun _ => hK _ _ _ hn, fun q => absurd rfl q⟩)⟩)⟩
theorem c_law_21 {xs : Nat → Int32} {L b : Nat} {K : xM → xM → xM → Prop} {M T N : xM} {x3 : Int32} (h : LI b M N) (hb2 : b + 500 ≤ 256000) (i1 : vp_in (x3 + 1) L) (i2 : vp_in (x3 + 2) L) (hK : ∀ M' T' N', LI (b + 500) M' N' → K M' T' N') : V_law_c21 xs L K M T N x3 := by
  unfold V_law_c21
  exact ⟨i1, b_nodeScore h (fun r M' T' hf => ⟨i1, hf _ (fun N' hn => ⟨fun _ => hK _ _ _ hn, fun q => absurd rfl q⟩)⟩)⟩
theorem c_law_22 {xs : Nat → Int32} {L b : Nat} {K : xM → xM → xM → Prop} {M T N : xM} {x3 : Int32} (h : LI b M N) (hb2 : b + 500 ≤ 256000) (i1 : vp_in (x3 + 1) L) (i2 : vp_in (x3 + 2) L) (hK : ∀ M' T' N', LI (b + 500) M' N' → K M' T' N') : V_law_c22 xs L K M T N x3 := by
  unfold V_law_c22
  exact ⟨i1, b_isSlowNode h (fun r M' T' hf => ⟨i1, hf _ (fun N' hn => ⟨fun _ => hK _ _ _ hn, fun q => absurd rfl q⟩)⟩)⟩
theorem c_law_23 {xs : Nat → Int32} {L b : Nat} {K : xM → xM → xM → Prop} {M T N : xM} {x3 : Int32} (h : LI b M N) (hb2 : b + 500 ≤ 256000) (i1 : vp_in (x3 + 1) L) (i2 : vp_in (x3 + 2) L) (hK : ∀ M' T' N', LI (b + 500) M' N' → K M' T' N') : V_law_c23 xs L K M T N x3 := by
  unfold V_law_c23
  exact ⟨i1, b_runningOn h (fun r M' T' hf => ⟨i1, hf _ (fun N' hn => ⟨fun _ => hK _ _ _ hn, fun q => absurd rfl q⟩)⟩)⟩
theorem c_law_24 {xs : Nat → Int32} {L b : Nat} {K : xM → xM → xM → Prop} {M T N : xM} {x3 : Int32} (h : LI b M N) (hb2 : b + 500 ≤ 256000) (i1 : vp_in (x3 + 1) L) (i2 : vp_in (x3 + 2) L) (hK : ∀ M' T' N', LI (b + 500) M' N' → K M' T' N') : V_law_c24 xs L K M T N x3 := by
  unfold V_law_c24
  exact b_straggler h (fun r M' T' hf => hf _ (fun N' hn => ⟨fun _ => hK _ _ _ hn, fun q => absurd rfl q⟩))
theorem c_law_25 {xs : Nat → Int32} {L b : Nat} {K : xM → xM → xM → Prop} {M T N : xM} {x3 : Int32} (h : LI b M N) (hb2 : b + 500 ≤ 256000) (i1 : vp_in (x3 + 1) L) (i2 : vp_in (x3 + 2) L) (hK : ∀ M' T' N', LI (b + 500) M' N' → K M' T' N') : V_law_c25 xs L K M T N x3 := by
  unfold V_law_c25
  exact b_runningSpeculative h (fun r M' T' hf => hf _ (fun N' hn => ⟨fun _ => hK _ _ _ hn, fun q => absurd rfl q⟩))
theorem c_law_26 {xs : Nat → Int32} {L b : Nat} {K : xM → xM → xM → Prop} {M T N : xM} {x3 : Int32} (h : LI b M N) (hb2 : b + 500 ≤ 256000) (i1 : vp_in (x3 + 1) L) (i2 : vp_in (x3 + 2) L) (hK : ∀ M' T' N', LI (b + 500) M' N' → K M' T' N') : V_law_c26 xs L K M T N x3 := by
  unfold V_law_c26
  exact b_wastedWork h (fun r M' T' hf => hf _ (fun N' hn => ⟨fun _ => hK _ _ _ hn, fun q => absurd rfl q⟩))
theorem c_law_27 {xs : Nat → Int32} {L b : Nat} {K : xM → xM → xM → Prop} {M T N : xM} {x3 : Int32} (h : LI b M N) (hb2 : b + 500 ≤ 256000) (i1 : vp_in (x3 + 1) L) (i2 : vp_in (x3 + 2) L) (hK : ∀ M' T' N', LI (b + 500) M' N' → K M' T' N') : V_law_c27 xs L K M T N x3 := by
  unfold V_law_c27
  exact ⟨i1, b_simulatedMakespan h (fun r M' T' hf => ⟨i1, hf _ (fun N' hn => ⟨fun _ => hK _ _ _ hn, fun q => absurd rfl q⟩)⟩)⟩
theorem li_zero : LI 0 xM0 xN0 := by
  refine ⟨0, 0, 0, 0, ⟨⟨⟨⟨rfl, by omega⟩, ⟨rfl, by omega⟩, ⟨rfl, by omega⟩, rfl, by omega⟩, fun n hn => absurd hn (by omega), fun n hn => absurd hn (by omega), fun n hn => absurd hn (by omega), by omega⟩, ⟨rfl, fun i hi => absurd hi (Nat.not_lt_zero i)⟩, rfl⟩, ⟨⟨rfl, rfl, rfl, rfl, rfl, rfl, rfl, rfl, rfl⟩, fun r j h1 h2 h3 => ?_, rfl, fun z => absurd z (by omega), fun _ => ⟨fun j _ _ => ⟨rfl, rfl, rfl⟩, fun t _ _ => rfl⟩⟩, rfl, by omega⟩
  unfold lim at h3
  split at h3
  · omega
  · split at h3 <;> omega
set_option maxRecDepth 100000 in
theorem law_loop {xs : Nat → Int32} {L : Nat} (hL : L ≤ 1536) : ∀ (d i : Nat) (M T N : xM), i ≤ 600 → L < 3 * (i + d) → LI (500 * i) M N → V_law xs L (d + 1) M T N (nI (3 * i)) := by
  intro d
  induction d with
  | zero =>
    intro i M T N hi hd h
    rw [V_law]
    refine ⟨fun _ => trivial, fun q => absurd ?_ q⟩
    rw [Int32.lt_iff_toInt_lt, show (3 : Int32) = nI 3 from rfl, show Int32.ofNat L = nI L from rfl, pk_sub_toInt (by omega) (by omega), nI_toInt (by omega)]
    omega
  | succ d ih =>
    intro i M T N hi hd h
    rw [V_law]
    refine ⟨fun _ => trivial, fun q => ?_⟩
    rw [Int32.lt_iff_toInt_lt, show (3 : Int32) = nI 3 from rfl, show Int32.ofNat L = nI L from rfl, pk_sub_toInt (by omega) (by omega), nI_toInt (by omega)] at q
    have hl : 3 * i + 3 ≤ L := by omega
    have hb2 : 500 * i + 500 ≤ 256000 := by omega
    have e3 : nI (3 * i) + 3 = nI (3 * (i + 1)) := by
      rw [show (3 : Int32) = nI 3 from rfl, nI_add, Nat.mul_add]
    have i1 : vp_in (nI (3 * i) + 1) L := by
      rw [show (1 : Int32) = nI 1 from rfl, nI_add]
      exact inn (by omega) (by omega)
    have i2 : vp_in (nI (3 * i) + 2) L := by
      rw [show (2 : Int32) = nI 2 from rfl, nI_add]
      exact inn (by omega) (by omega)
    have hK : ∀ M' T' N', LI (500 * i + 500) M' N' → (fun M1 T1 N1 => V_law xs L (d + 1) M1 T1 N1 (nI (3 * i) + 3)) M' T' N' := by
      intro M' T' N' hn
      show V_law xs L (d + 1) M' T' N' (nI (3 * i) + 3)
      rw [e3]
      exact ih (i + 1) M' T' N' (by omega) (by omega) hn
    refine ⟨inn (by omega) (by omega), fun y _ => ?_⟩
    refine ⟨fun _ => c_law_0 h hb2 i1 i2 hK, fun _ => ?_⟩
    refine ⟨fun _ => c_law_1 h hb2 i1 i2 hK, fun _ => ?_⟩
    refine ⟨fun _ => c_law_2 h hb2 i1 i2 hK, fun _ => ?_⟩
    refine ⟨fun _ => c_law_3 h hb2 i1 i2 hK, fun _ => ?_⟩
    refine ⟨fun _ => c_law_4 h hb2 i1 i2 hK, fun _ => ?_⟩
    refine ⟨fun _ => c_law_5 h hb2 i1 i2 hK, fun _ => ?_⟩
    refine ⟨fun _ => c_law_6 h hb2 i1 i2 hK, fun _ => ?_⟩
    refine ⟨fun _ => c_law_7 h hb2 i1 i2 hK, fun _ => ?_⟩
    refine ⟨fun _ => c_law_8 h hb2 i1 i2 hK, fun _ => ?_⟩
    refine ⟨fun _ => c_law_9 h hb2 i1 i2 hK, fun _ => ?_⟩
    refine ⟨fun _ => c_law_10 h hb2 i1 i2 hK, fun _ => ?_⟩
    refine ⟨fun _ => c_law_11 h hb2 i1 i2 hK, fun _ => ?_⟩
    refine ⟨fun _ => c_law_12 h hb2 i1 i2 hK, fun _ => ?_⟩
    refine ⟨fun _ => c_law_13 h hb2 i1 i2 hK, fun _ => ?_⟩
    refine ⟨fun _ => c_law_14 h hb2 i1 i2 hK, fun _ => ?_⟩
    refine ⟨fun _ => c_law_15 h hb2 i1 i2 hK, fun _ => ?_⟩
    refine ⟨fun _ => c_law_16 h hb2 i1 i2 hK, fun _ => ?_⟩
    refine ⟨fun _ => c_law_17 h hb2 i1 i2 hK, fun _ => ?_⟩
    refine ⟨fun _ => c_law_18 h hb2 i1 i2 hK, fun _ => ?_⟩
    refine ⟨fun _ => c_law_19 h hb2 i1 i2 hK, fun _ => ?_⟩
    refine ⟨fun _ => c_law_20 h hb2 i1 i2 hK, fun _ => ?_⟩
    refine ⟨fun _ => c_law_21 h hb2 i1 i2 hK, fun _ => ?_⟩
    refine ⟨fun _ => c_law_22 h hb2 i1 i2 hK, fun _ => ?_⟩
    refine ⟨fun _ => c_law_23 h hb2 i1 i2 hK, fun _ => ?_⟩
    refine ⟨fun _ => c_law_24 h hb2 i1 i2 hK, fun _ => ?_⟩
    refine ⟨fun _ => c_law_25 h hb2 i1 i2 hK, fun _ => ?_⟩
    refine ⟨fun _ => c_law_26 h hb2 i1 i2 hK, fun _ => ?_⟩
    refine ⟨fun _ => c_law_27 h hb2 i1 i2 hK, fun _ => ?_⟩
    exact hK M T N h.up
theorem pure_law {xs : Nat → Int32} {L : Nat} (hL : L ≤ 1536) : ∃ n : Nat, V_law xs L n xM0 xM0 xN0 0 := ⟨600 + 1, law_loop hL 600 0 xM0 xM0 xN0 (by omega) (by omega) li_zero⟩
