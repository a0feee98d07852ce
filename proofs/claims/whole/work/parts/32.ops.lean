/-! Pure: the steps on the class's memory, and that class and reference do them. -/
/-- an attempt stops -/
def fEnd (M : xM) (a t n : Nat) (st : Int32) : xM := xu (xu (xu M 17 a st) 12 t (M 12 t - 1)) 8 n (M 8 n - 1)
theorem c_end {M : xM} {a t n : Nat} {st : Int32} {post : xM → Prop} (ha : a < 200) (et : M 15 a = nI t) (ht : t < 24) (en : M 16 a = nI n) (hn : n < 8) (k : post (fEnd M a t n st)) : V_X1_end M (nI a) st post := by
  unfold V_X1_end
  rw [cln (by omega : a < 1000000)]
  refine ⟨inn ha (by omega), fun M2 e2 => ?_⟩
  subst e2
  rw [show (xu M 17 a st) 15 a = nI t from et, cln (by omega : t < 1000000)]
  refine ⟨inn ha (by omega), inn ht (by omega), inn ht (by omega), fun M6 e6 => ?_⟩
  subst e6
  rw [show (xu (xu M 17 a st) 12 t (xu M 17 a st 12 t - 1)) 16 a = nI n from en, cln (by omega : n < 1000000)]
  refine ⟨inn ha (by omega), inn hn (by omega), inn hn (by omega), fun M10 e10 => ?_⟩
  subst e10
  exact k
section
variable {s nn nt na : Nat} {N0 M N : xM}
theorem Rel.sd (h : Rel s nn nt na N0 M N) : N 0 11 = nI s := h.1.2.2.2.2.2.2.1
theorem Rel.cn (h : Rel s nn nt na N0 M N) : N 5 s = nI na := h.1.2.2.2.2.2.2.2.1
theorem Rel.nw (h : Rel s nn nt na N0 M N) : N 6 s = M 0 4 := h.1.2.2.2.2.2.2.2.2
theorem Rel.a5 (h : Rel s nn nt na N0 M N) {j : Nat} (hj : j < nn) : N 1 j = M 5 j := (congrArg (N 1) (Nat.zero_add j)).symm.trans (h.2.1 5 j (by decide) (by decide) hj)
theorem Rel.a6 (h : Rel s nn nt na N0 M N) {j : Nat} (hj : j < nn) : N 2 j = M 6 j := (congrArg (N 2) (Nat.zero_add j)).symm.trans (h.2.1 6 j (by decide) (by decide) hj)
theorem Rel.a7 (h : Rel s nn nt na N0 M N) {j : Nat} (hj : j < nn) : N 3 j = M 7 j := (congrArg (N 3) (Nat.zero_add j)).symm.trans (h.2.1 7 j (by decide) (by decide) hj)
theorem Rel.a8 (h : Rel s nn nt na N0 M N) {j : Nat} (hj : j < nn) : N 16 (8 * s + j) = M 8 j := h.2.1 8 j (by decide) (by decide) hj
theorem Rel.a9 (h : Rel s nn nt na N0 M N) {j : Nat} (hj : j < nn) : N 18 (8 * s + j) = M 9 j := h.2.1 9 j (by decide) (by decide) hj
theorem Rel.a10 (h : Rel s nn nt na N0 M N) {j : Nat} (hj : j < nn) : N 17 (8 * s + j) = M 10 j := h.2.1 10 j (by decide) (by decide) hj
theorem Rel.a11 (h : Rel s nn nt na N0 M N) {j : Nat} (hj : j < nt) : N 4 j = M 11 j := (congrArg (N 4) (Nat.zero_add j)).symm.trans (h.2.1 11 j (by decide) (by decide) hj)
theorem Rel.a12 (h : Rel s nn nt na N0 M N) {j : Nat} (hj : j < nt) : N 15 (24 * s + j) = M 12 j := h.2.1 12 j (by decide) (by decide) hj
theorem Rel.a13 (h : Rel s nn nt na N0 M N) {j : Nat} (hj : j < nt) : N 13 (24 * s + j) = M 13 j := h.2.1 13 j (by decide) (by decide) hj
theorem Rel.a14 (h : Rel s nn nt na N0 M N) {j : Nat} (hj : j < nt) : N 14 (24 * s + j) = M 14 j := h.2.1 14 j (by decide) (by decide) hj
theorem Rel.a15 (h : Rel s nn nt na N0 M N) {j : Nat} (hj : j < na) : N 7 (200 * s + j) = M 15 j := h.2.1 15 j (by decide) (by decide) hj
theorem Rel.a16 (h : Rel s nn nt na N0 M N) {j : Nat} (hj : j < na) : N 8 (200 * s + j) = M 16 j := h.2.1 16 j (by decide) (by decide) hj
theorem Rel.a17 (h : Rel s nn nt na N0 M N) {j : Nat} (hj : j < na) : N 11 (200 * s + j) = M 17 j := h.2.1 17 j (by decide) (by decide) hj
theorem Rel.a18 (h : Rel s nn nt na N0 M N) {j : Nat} (hj : j < na) : N 12 (200 * s + j) = M 18 j := h.2.1 18 j (by decide) (by decide) hj
theorem Rel.a19 (h : Rel s nn nt na N0 M N) {j : Nat} (hj : j < na) : N 9 (200 * s + j) = M 19 j := h.2.1 19 j (by decide) (by decide) hj
theorem Rel.a20 (h : Rel s nn nt na N0 M N) {j : Nat} (hj : j < na) : N 10 (200 * s + j) = M 20 j := h.2.1 20 j (by decide) (by decide) hj
theorem Rel.w8 (h : Rel s nn nt na N0 M N) {j : Nat} {x : Int32} (hj : j < nn) : Rel s nn nt na N0 (xu M 8 j x) (xu N 16 (8 * s + j) x) := h.wr 8 j x (by decide) (by decide) (by decide) (fun _ => hj)
theorem Rel.w9 (h : Rel s nn nt na N0 M N) {j : Nat} {x : Int32} (hj : j < nn) : Rel s nn nt na N0 (xu M 9 j x) (xu N 18 (8 * s + j) x) := h.wr 9 j x (by decide) (by decide) (by decide) (fun _ => hj)
theorem Rel.w10 (h : Rel s nn nt na N0 M N) {j : Nat} {x : Int32} (hj : j < nn) : Rel s nn nt na N0 (xu M 10 j x) (xu N 17 (8 * s + j) x) := h.wr 10 j x (by decide) (by decide) (by decide) (fun _ => hj)
theorem Rel.w12 (h : Rel s nn nt na N0 M N) {j : Nat} {x : Int32} (hj : j < nt) : Rel s nn nt na N0 (xu M 12 j x) (xu N 15 (24 * s + j) x) := h.wr 12 j x (by decide) (by decide) (by decide) (fun _ => hj)
theorem Rel.w13 (h : Rel s nn nt na N0 M N) {j : Nat} {x : Int32} : Rel s nn nt na N0 (xu M 13 j x) (xu N 13 (24 * s + j) x) := h.wr 13 j x (by decide) (by decide) (by decide) (fun z => absurd z (by decide))
theorem Rel.w14 (h : Rel s nn nt na N0 M N) {j : Nat} {x : Int32} : Rel s nn nt na N0 (xu M 14 j x) (xu N 14 (24 * s + j) x) := h.wr 14 j x (by decide) (by decide) (by decide) (fun z => absurd z (by decide))
theorem Rel.w17 (h : Rel s nn nt na N0 M N) {j : Nat} {x : Int32} : Rel s nn nt na N0 (xu M 17 j x) (xu N 11 (200 * s + j) x) := h.wr 17 j x (by decide) (by decide) (by decide) (fun z => absurd z (by decide))
theorem Rel.w19 (h : Rel s nn nt na N0 M N) {j : Nat} {x : Int32} : Rel s nn nt na N0 (xu M 19 j x) (xu N 9 (200 * s + j) x) := h.wr 19 j x (by decide) (by decide) (by decide) (fun z => absurd z (by decide))
theorem Rel.w20 (h : Rel s nn nt na N0 M N) {j : Nat} {x : Int32} : Rel s nn nt na N0 (xu M 20 j x) (xu N 10 (200 * s + j) x) := h.wr 20 j x (by decide) (by decide) (by decide) (fun z => absurd z (by decide))
theorem r_stops {a t n : Nat} {st : Int32} {post : xM → Prop} (h : Rel s nn nt na N0 M N) (hs : s ≤ 1) (ha : a < na) (hna : na ≤ 200) (et : M 15 a = nI t) (ht : t < nt) (hnt : nt ≤ 24) (en : M 16 a = nI n) (hn : n < nn) (hnn : nn ≤ 8) (k : ∀ N', Rel s nn nt na N0 (fEnd M a t n st) N' → post N') : V_X6_stops N (nI (200 * s + a)) st post := by
  have i1 : vp_in (nI (200 * s + a)) 400 := inn (by omega) (by omega)
  have i2 : vp_in (nI (24 * s + t)) 48 := inn (by omega) (by omega)
  have i3 : vp_in (nI (8 * s + n)) 16 := inn (by omega) (by omega)
  unfold V_X6_stops
  rw [cln (by omega : 200 * s + a < 1000000)]
  refine ⟨i1, fun N2 e2 => ?_⟩
  have h2 : Rel s nn nt na N0 (xu M 17 a st) N2 := by rw [e2]; exact h.w17
  rw [h2.sd, h2.a15 ha, show (xu M 17 a st) 15 a = nI t from et, i24, cln (by omega : 24 * s + t < 1000000)]
  refine ⟨i1, i2, i2, fun N6 e6 => ?_⟩
  rw [h2.a12 ht] at e6
  have h6 : Rel s nn nt na N0 (xu (xu M 17 a st) 12 t (M 12 t - 1)) N6 := by rw [e6]; exact h2.w12 ht
  rw [h6.sd, h6.a16 ha, show (xu (xu M 17 a st) 12 t (M 12 t - 1)) 16 a = nI n from en, i8, cln (by omega : 8 * s + n < 1000000)]
  refine ⟨i1, i3, i3, fun N10 e10 => ?_⟩
  rw [h6.a8 hn] at e10
  refine k N10 ?_
  rw [e10]
  exact h6.w8 hn
end
