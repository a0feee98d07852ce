/-! The law's loop (by program, wip/whole/genlaw.py): a predicate and a row a case, then the loop. -/
def wL (cI cZ : ClassId) (x : Nat) (a b r : Nat → Nat) (u : (xM × xM) × xM) : va_W := wO cI cZ x a b u.1 ++ wR cI cZ r u.2
theorem wL_r {cI cZ : ClassId} {x : Nat} {a b r : Nat → Nat} {u : xM × xM} {v : xM} : wL cI cZ x a b r (u, v) = wO cI cZ x a b u ++ (wR cI cZ r v ++ []) := by
  rw [List.append_nil]
  rfl
theorem wL_0 {cI cZ : ClassId} {x : Nat} {a b r : Nat → Nat} {M T N : xM} : (wL cI cZ x a b r ((M, T), N))[0]? = some (x, .inr (5, [.ref (a 0), .ref (b 0)])) := rfl
theorem wL_49 {cI cZ : ClassId} {x : Nat} {a b r : Nat → Nat} {M T N : xM} : (wL cI cZ x a b r ((M, T), N))[49]? = some ((r 0), .inr (6, [.int (N 0 0), .ref (r 1), .ref (r 2), .ref (r 3), .int (N 0 4), .ref (r 4), .int (N 0 6), .int (N 0 7), .int (N 0 8), .int (N 0 9), .int (N 0 10), .int (N 0 11), .ref (r 5), .ref (r 6), .ref (r 7), .ref (r 8), .ref (r 9), .ref (r 10), .ref (r 11), .ref (r 12), .ref (r 13), .ref (r 14), .ref (r 15), .ref (r 16), .ref (r 17), .ref (r 18)])) := rfl
def V_law_c0 (xs : Nat → Int32) (L : Nat) (K : xM → xM → xM → Prop) (M T N : xM) (x3 : Int32) : Prop := (vp_in (x3 + 1) L ∧ (vp_in (x3 + 2) L ∧ (V_X5_addNode M T (xs ((x3 + 1)).toNatClampNeg) (xs ((x3 + 2)).toNatClampNeg) (fun r3 (u2 : xM × xM) => (vp_in (x3 + 1) L ∧ (vp_in (x3 + 2) L ∧ (V_X6_addNode N (xs ((x3 + 1)).toNatClampNeg) (xs ((x3 + 2)).toNatClampNeg) (fun r8 N9 => ((r3 = r8 → (K u2.1 u2.2 N9)) ∧ (¬ r3 = r8 → False))))))))))
set_option maxHeartbeats 4000000 in
set_option maxRecDepth 100000 in
theorem k_law_c0 {p : Program} {l : Launch} {e : Env} {s : State} {m : MethodId} {below : List Frame} {meth : Method} {c : Code} {D : va_G} {cI cZ : ClassId} {x : Nat} {a b r : Nat → Nat} {sb L : Nat} {xs : Nat → Int32} {Q : State → Prop} {K : xM → xM → xM → Prop} {x3 : Int32} (C : xC p s m #[Value.ref sb] c code 4 RL D cI cZ) (hX : va_X sb L xs s s.heap) (hbl : sb < s.heap.size) (hK : ∀ (M T N : xM) (H : Heap) (locs : List Loc) (ls : Array Slot), K M T N → xI D (wL cI cZ x a b r ((M, T), N)) (fun q : Nat => s.heap.size ≤ q) s.heap H locs → lv_has ls 4 [(0, .ref sb), (1, .ref x), (2, .ref (r 0)), (3, .int x3)] → W p l e room_1 s m #[Value.ref sb] below meth c H locs 68 6290 Q (F0 m 784 ls [])) {M T N : xM} {H : Heap} {locs : List Loc} {ls : Array Slot} (h : V_law_c0 xs L K M T N x3) (I : xI D (wL cI cZ x a b r ((M, T), N)) (fun q : Nat => s.heap.size ≤ q) s.heap H locs) (hl : lv_has ls 4 [(0, .ref sb), (1, .ref x), (2, .ref (r 0)), (3, .int x3)]) : W p l e room_1 s m #[Value.ref sb] below meth c H locs 68 6290 Q (F0 m 160 ls []) := by
  have hx := C.1.1
  have hb := C.1.2.1
  have hA : ∀ q : Nat, s.heap.size ≤ q → (fun q : Nat => s.heap.size ≤ q) q := fun _ h => h
  have hbA : ¬ (fun q : Nat => s.heap.size ≤ q) sb := Nat.not_le.mpr hbl
  unfold V_law_c0 at h
  refine lv_aload_n (pc := 160) hx hb dL_law_160 rfl (lv_at hl 1 rfl) ?_
  refine lv_aload_n (pc := 161) hx hb dL_law_161 rfl (lv_at hl 0 rfl) ?_
  refine lv_iload_n (pc := 162) hx hb dL_law_162 rfl (lv_at hl 3 rfl) ?_
  refine lv_iconst (pc := 163) (v := 1) hx hb dL_law_163 (by decide) ?_
  refine lv_iadd (pc := 164) hx hb dL_law_164 ?_
  obtain ⟨g1, h⟩ := h
  refine va_sld (pc := 165) hx hb hX hbl hbA I.2.2 g1 dL_law_165 ?_
  refine lv_aload_n (pc := 166) hx hb dL_law_166 rfl (lv_at hl 0 rfl) ?_
  refine lv_iload_n (pc := 167) hx hb dL_law_167 rfl (lv_at hl 3 rfl) ?_
  refine lv_iconst (pc := 168) (v := 2) hx hb dL_law_168 (by decide) ?_
  refine lv_iadd (pc := 169) hx hb dL_law_169 ?_
  obtain ⟨g2, h⟩ := h
  refine va_sld (pc := 170) hx hb hX hbl hbA I.2.2 g2 dL_law_170 ?_
  refine x_calli (pc := 171) C I hA (x_liftiX [] (wR cI cZ r N) (fun v => (v, N)) (fun v => rfl) rfl (m_X5_addNode h)) c_RL_13 wL_0 rfl ⟨Nat.le_of_ble_eq_true rfl, Nat.le_of_ble_eq_true rfl⟩ ⟨rfl, rfl⟩ ⟨Nat.le_of_ble_eq_true rfl, Nat.le_of_ble_eq_true rfl⟩ (As := [.int (xs ((x3 + 1)).toNatClampNeg), .int (xs ((x3 + 2)).toNatClampNeg)]) rfl hl.1 rfl (Nat.le_of_ble_eq_true rfl) dL_law_171 (fun r3 u2 H locs h I => ?_)
  obtain ⟨⟨M4, T5⟩, rfl, h⟩ := h
  refine lv_aload_n (pc := 174) hx hb dL_law_174 rfl (lv_at hl 2 rfl) ?_
  refine lv_aload_n (pc := 175) hx hb dL_law_175 rfl (lv_at hl 0 rfl) ?_
  refine lv_iload_n (pc := 176) hx hb dL_law_176 rfl (lv_at hl 3 rfl) ?_
  refine lv_iconst (pc := 177) (v := 1) hx hb dL_law_177 (by decide) ?_
  refine lv_iadd (pc := 178) hx hb dL_law_178 ?_
  obtain ⟨g6, h⟩ := h
  refine va_sld (pc := 179) hx hb hX hbl hbA I.2.2 g6 dL_law_179 ?_
  refine lv_aload_n (pc := 180) hx hb dL_law_180 rfl (lv_at hl 0 rfl) ?_
  refine lv_iload_n (pc := 181) hx hb dL_law_181 rfl (lv_at hl 3 rfl) ?_
  refine lv_iconst (pc := 182) (v := 2) hx hb dL_law_182 (by decide) ?_
  refine lv_iadd (pc := 183) hx hb dL_law_183 ?_
  obtain ⟨g7, h⟩ := h
  refine va_sld (pc := 184) hx hb hX hbl hbA I.2.2 g7 dL_law_184 ?_
  refine x_calli (pc := 185) C I hA (x_liftiX (wO cI cZ x a b (M4, T5)) [] (fun v => ((M4, T5), v)) (fun v => wL_r) rfl (m_X6_addNode h)) c_RL_17 wL_49 rfl ⟨Nat.le_of_ble_eq_true rfl, Nat.le_of_ble_eq_true rfl⟩ ⟨rfl, rfl⟩ ⟨Nat.le_of_ble_eq_true rfl, Nat.le_of_ble_eq_true rfl⟩ (As := [.int (xs ((x3 + 1)).toNatClampNeg), .int (xs ((x3 + 2)).toNatClampNeg)]) rfl hl.1 rfl (Nat.le_of_ble_eq_true rfl) dL_law_185 (fun r8 u2 H locs h I => ?_)
  obtain ⟨N9, rfl, h⟩ := h
  refine lv_icmp_eq (pc := 188) (tgt := 784) hx hb dL_law_188 (by decide) (fun g10 => ?_) (fun g10 => ?_)
  · have h := h.1 g10
    exact hK M4 T5 N9 _ _ _ h I (lv_sub hl [0, 1, 2, 3] rfl)
  · have h := h.2 g10
    refine lv_iconst (pc := 191) (v := 0) hx hb dL_law_191 (by decide) ?_
    exact absurd h id
def V_law_c1 (xs : Nat → Int32) (L : Nat) (K : xM → xM → xM → Prop) (M T N : xM) (x3 : Int32) : Prop := (vp_in (x3 + 1) L ∧ (vp_in (x3 + 2) L ∧ (V_X5_setSpeed M T (xs ((x3 + 1)).toNatClampNeg) (xs ((x3 + 2)).toNatClampNeg) (fun r3 (u2 : xM × xM) => (vp_in (x3 + 1) L ∧ (vp_in (x3 + 2) L ∧ (V_X6_setSpeed N (xs ((x3 + 1)).toNatClampNeg) (xs ((x3 + 2)).toNatClampNeg) (fun r8 N9 => ((r3 = r8 → (K u2.1 u2.2 N9)) ∧ (¬ r3 = r8 → False))))))))))
set_option maxHeartbeats 4000000 in
set_option maxRecDepth 100000 in
theorem k_law_c1 {p : Program} {l : Launch} {e : Env} {s : State} {m : MethodId} {below : List Frame} {meth : Method} {c : Code} {D : va_G} {cI cZ : ClassId} {x : Nat} {a b r : Nat → Nat} {sb L : Nat} {xs : Nat → Int32} {Q : State → Prop} {K : xM → xM → xM → Prop} {x3 : Int32} (C : xC p s m #[Value.ref sb] c code 4 RL D cI cZ) (hX : va_X sb L xs s s.heap) (hbl : sb < s.heap.size) (hK : ∀ (M T N : xM) (H : Heap) (locs : List Loc) (ls : Array Slot), K M T N → xI D (wL cI cZ x a b r ((M, T), N)) (fun q : Nat => s.heap.size ≤ q) s.heap H locs → lv_has ls 4 [(0, .ref sb), (1, .ref x), (2, .ref (r 0)), (3, .int x3)] → W p l e room_1 s m #[Value.ref sb] below meth c H locs 68 6290 Q (F0 m 784 ls [])) {M T N : xM} {H : Heap} {locs : List Loc} {ls : Array Slot} (h : V_law_c1 xs L K M T N x3) (I : xI D (wL cI cZ x a b r ((M, T), N)) (fun q : Nat => s.heap.size ≤ q) s.heap H locs) (hl : lv_has ls 4 [(0, .ref sb), (1, .ref x), (2, .ref (r 0)), (3, .int x3)]) : W p l e room_1 s m #[Value.ref sb] below meth c H locs 68 6290 Q (F0 m 193 ls []) := by
  have hx := C.1.1
  have hb := C.1.2.1
  have hA : ∀ q : Nat, s.heap.size ≤ q → (fun q : Nat => s.heap.size ≤ q) q := fun _ h => h
  have hbA : ¬ (fun q : Nat => s.heap.size ≤ q) sb := Nat.not_le.mpr hbl
  unfold V_law_c1 at h
  refine lv_aload_n (pc := 193) hx hb dL_law_193 rfl (lv_at hl 1 rfl) ?_
  refine lv_aload_n (pc := 194) hx hb dL_law_194 rfl (lv_at hl 0 rfl) ?_
  refine lv_iload_n (pc := 195) hx hb dL_law_195 rfl (lv_at hl 3 rfl) ?_
  refine lv_iconst (pc := 196) (v := 1) hx hb dL_law_196 (by decide) ?_
  refine lv_iadd (pc := 197) hx hb dL_law_197 ?_
  obtain ⟨g1, h⟩ := h
  refine va_sld (pc := 198) hx hb hX hbl hbA I.2.2 g1 dL_law_198 ?_
  refine lv_aload_n (pc := 199) hx hb dL_law_199 rfl (lv_at hl 0 rfl) ?_
  refine lv_iload_n (pc := 200) hx hb dL_law_200 rfl (lv_at hl 3 rfl) ?_
  refine lv_iconst (pc := 201) (v := 2) hx hb dL_law_201 (by decide) ?_
  refine lv_iadd (pc := 202) hx hb dL_law_202 ?_
  obtain ⟨g2, h⟩ := h
  refine va_sld (pc := 203) hx hb hX hbl hbA I.2.2 g2 dL_law_203 ?_
  refine x_calli (pc := 204) C I hA (x_liftiX [] (wR cI cZ r N) (fun v => (v, N)) (fun v => rfl) rfl (m_X5_setSpeed h)) c_RL_18 wL_0 rfl ⟨Nat.le_of_ble_eq_true rfl, Nat.le_of_ble_eq_true rfl⟩ ⟨rfl, rfl⟩ ⟨Nat.le_of_ble_eq_true rfl, Nat.le_of_ble_eq_true rfl⟩ (As := [.int (xs ((x3 + 1)).toNatClampNeg), .int (xs ((x3 + 2)).toNatClampNeg)]) rfl hl.1 rfl (Nat.le_of_ble_eq_true rfl) dL_law_204 (fun r3 u2 H locs h I => ?_)
  obtain ⟨⟨M4, T5⟩, rfl, h⟩ := h
  refine lv_aload_n (pc := 207) hx hb dL_law_207 rfl (lv_at hl 2 rfl) ?_
  refine lv_aload_n (pc := 208) hx hb dL_law_208 rfl (lv_at hl 0 rfl) ?_
  refine lv_iload_n (pc := 209) hx hb dL_law_209 rfl (lv_at hl 3 rfl) ?_
  refine lv_iconst (pc := 210) (v := 1) hx hb dL_law_210 (by decide) ?_
  refine lv_iadd (pc := 211) hx hb dL_law_211 ?_
  obtain ⟨g6, h⟩ := h
  refine va_sld (pc := 212) hx hb hX hbl hbA I.2.2 g6 dL_law_212 ?_
  refine lv_aload_n (pc := 213) hx hb dL_law_213 rfl (lv_at hl 0 rfl) ?_
  refine lv_iload_n (pc := 214) hx hb dL_law_214 rfl (lv_at hl 3 rfl) ?_
  refine lv_iconst (pc := 215) (v := 2) hx hb dL_law_215 (by decide) ?_
  refine lv_iadd (pc := 216) hx hb dL_law_216 ?_
  obtain ⟨g7, h⟩ := h
  refine va_sld (pc := 217) hx hb hX hbl hbA I.2.2 g7 dL_law_217 ?_
  refine x_calli (pc := 218) C I hA (x_liftiX (wO cI cZ x a b (M4, T5)) [] (fun v => ((M4, T5), v)) (fun v => wL_r) rfl (m_X6_setSpeed h)) c_RL_21 wL_49 rfl ⟨Nat.le_of_ble_eq_true rfl, Nat.le_of_ble_eq_true rfl⟩ ⟨rfl, rfl⟩ ⟨Nat.le_of_ble_eq_true rfl, Nat.le_of_ble_eq_true rfl⟩ (As := [.int (xs ((x3 + 1)).toNatClampNeg), .int (xs ((x3 + 2)).toNatClampNeg)]) rfl hl.1 rfl (Nat.le_of_ble_eq_true rfl) dL_law_218 (fun r8 u2 H locs h I => ?_)
  obtain ⟨N9, rfl, h⟩ := h
  refine lv_icmp_eq (pc := 221) (tgt := 784) hx hb dL_law_221 (by decide) (fun g10 => ?_) (fun g10 => ?_)
  · have h := h.1 g10
    exact hK M4 T5 N9 _ _ _ h I (lv_sub hl [0, 1, 2, 3] rfl)
  · have h := h.2 g10
    refine lv_iconst (pc := 224) (v := 0) hx hb dL_law_224 (by decide) ?_
    exact absurd h id
def V_law_c2 (xs : Nat → Int32) (L : Nat) (K : xM → xM → xM → Prop) (M T N : xM) (x3 : Int32) : Prop := (vp_in (x3 + 1) L ∧ (V_X5_failNode M T (xs ((x3 + 1)).toNatClampNeg) (fun r2 (u2 : xM × xM) => (vp_in (x3 + 1) L ∧ (V_X6_failNode N (xs ((x3 + 1)).toNatClampNeg) (fun r6 N7 => ((r2 = r6 → (K u2.1 u2.2 N7)) ∧ (¬ r2 = r6 → False))))))))
set_option maxHeartbeats 4000000 in
set_option maxRecDepth 100000 in
theorem k_law_c2 {p : Program} {l : Launch} {e : Env} {s : State} {m : MethodId} {below : List Frame} {meth : Method} {c : Code} {D : va_G} {cI cZ : ClassId} {x : Nat} {a b r : Nat → Nat} {sb L : Nat} {xs : Nat → Int32} {Q : State → Prop} {K : xM → xM → xM → Prop} {x3 : Int32} (C : xC p s m #[Value.ref sb] c code 4 RL D cI cZ) (hX : va_X sb L xs s s.heap) (hbl : sb < s.heap.size) (hK : ∀ (M T N : xM) (H : Heap) (locs : List Loc) (ls : Array Slot), K M T N → xI D (wL cI cZ x a b r ((M, T), N)) (fun q : Nat => s.heap.size ≤ q) s.heap H locs → lv_has ls 4 [(0, .ref sb), (1, .ref x), (2, .ref (r 0)), (3, .int x3)] → W p l e room_1 s m #[Value.ref sb] below meth c H locs 68 6290 Q (F0 m 784 ls [])) {M T N : xM} {H : Heap} {locs : List Loc} {ls : Array Slot} (h : V_law_c2 xs L K M T N x3) (I : xI D (wL cI cZ x a b r ((M, T), N)) (fun q : Nat => s.heap.size ≤ q) s.heap H locs) (hl : lv_has ls 4 [(0, .ref sb), (1, .ref x), (2, .ref (r 0)), (3, .int x3)]) : W p l e room_1 s m #[Value.ref sb] below meth c H locs 68 6290 Q (F0 m 226 ls []) := by
  have hx := C.1.1
  have hb := C.1.2.1
  have hA : ∀ q : Nat, s.heap.size ≤ q → (fun q : Nat => s.heap.size ≤ q) q := fun _ h => h
  have hbA : ¬ (fun q : Nat => s.heap.size ≤ q) sb := Nat.not_le.mpr hbl
  unfold V_law_c2 at h
  refine lv_aload_n (pc := 226) hx hb dL_law_226 rfl (lv_at hl 1 rfl) ?_
  refine lv_aload_n (pc := 227) hx hb dL_law_227 rfl (lv_at hl 0 rfl) ?_
  refine lv_iload_n (pc := 228) hx hb dL_law_228 rfl (lv_at hl 3 rfl) ?_
  refine lv_iconst (pc := 229) (v := 1) hx hb dL_law_229 (by decide) ?_
  refine lv_iadd (pc := 230) hx hb dL_law_230 ?_
  obtain ⟨g1, h⟩ := h
  refine va_sld (pc := 231) hx hb hX hbl hbA I.2.2 g1 dL_law_231 ?_
  refine x_calli (pc := 232) C I hA (x_liftiX [] (wR cI cZ r N) (fun v => (v, N)) (fun v => rfl) rfl (m_X5_failNode h)) c_RL_22 wL_0 rfl ⟨Nat.le_of_ble_eq_true rfl, Nat.le_of_ble_eq_true rfl⟩ ⟨rfl, rfl⟩ ⟨Nat.le_of_ble_eq_true rfl, Nat.le_of_ble_eq_true rfl⟩ (As := [.int (xs ((x3 + 1)).toNatClampNeg)]) rfl hl.1 rfl (Nat.le_of_ble_eq_true rfl) dL_law_232 (fun r2 u2 H locs h I => ?_)
  obtain ⟨⟨M3, T4⟩, rfl, h⟩ := h
  refine lv_aload_n (pc := 235) hx hb dL_law_235 rfl (lv_at hl 2 rfl) ?_
  refine lv_aload_n (pc := 236) hx hb dL_law_236 rfl (lv_at hl 0 rfl) ?_
  refine lv_iload_n (pc := 237) hx hb dL_law_237 rfl (lv_at hl 3 rfl) ?_
  refine lv_iconst (pc := 238) (v := 1) hx hb dL_law_238 (by decide) ?_
  refine lv_iadd (pc := 239) hx hb dL_law_239 ?_
  obtain ⟨g5, h⟩ := h
  refine va_sld (pc := 240) hx hb hX hbl hbA I.2.2 g5 dL_law_240 ?_
  refine x_calli (pc := 241) C I hA (x_liftiX (wO cI cZ x a b (M3, T4)) [] (fun v => ((M3, T4), v)) (fun v => wL_r) rfl (m_X6_failNode h)) c_RL_26 wL_49 rfl ⟨Nat.le_of_ble_eq_true rfl, Nat.le_of_ble_eq_true rfl⟩ ⟨rfl, rfl⟩ ⟨Nat.le_of_ble_eq_true rfl, Nat.le_of_ble_eq_true rfl⟩ (As := [.int (xs ((x3 + 1)).toNatClampNeg)]) rfl hl.1 rfl (Nat.le_of_ble_eq_true rfl) dL_law_241 (fun r6 u2 H locs h I => ?_)
  obtain ⟨N7, rfl, h⟩ := h
  refine lv_icmp_eq (pc := 244) (tgt := 784) hx hb dL_law_244 (by decide) (fun g8 => ?_) (fun g8 => ?_)
  · have h := h.1 g8
    exact hK M3 T4 N7 _ _ _ h I (lv_sub hl [0, 1, 2, 3] rfl)
  · have h := h.2 g8
    refine lv_iconst (pc := 247) (v := 0) hx hb dL_law_247 (by decide) ?_
    exact absurd h id
def V_law_c3 (xs : Nat → Int32) (L : Nat) (K : xM → xM → xM → Prop) (M T N : xM) (x3 : Int32) : Prop := (vp_in (x3 + 1) L ∧ (V_X5_repairNode M T (xs ((x3 + 1)).toNatClampNeg) (fun r2 (u2 : xM × xM) => (vp_in (x3 + 1) L ∧ (V_X6_repairNode N (xs ((x3 + 1)).toNatClampNeg) (fun r6 N7 => ((r2 = r6 → (K u2.1 u2.2 N7)) ∧ (¬ r2 = r6 → False))))))))
set_option maxHeartbeats 4000000 in
set_option maxRecDepth 100000 in
theorem k_law_c3 {p : Program} {l : Launch} {e : Env} {s : State} {m : MethodId} {below : List Frame} {meth : Method} {c : Code} {D : va_G} {cI cZ : ClassId} {x : Nat} {a b r : Nat → Nat} {sb L : Nat} {xs : Nat → Int32} {Q : State → Prop} {K : xM → xM → xM → Prop} {x3 : Int32} (C : xC p s m #[Value.ref sb] c code 4 RL D cI cZ) (hX : va_X sb L xs s s.heap) (hbl : sb < s.heap.size) (hK : ∀ (M T N : xM) (H : Heap) (locs : List Loc) (ls : Array Slot), K M T N → xI D (wL cI cZ x a b r ((M, T), N)) (fun q : Nat => s.heap.size ≤ q) s.heap H locs → lv_has ls 4 [(0, .ref sb), (1, .ref x), (2, .ref (r 0)), (3, .int x3)] → W p l e room_1 s m #[Value.ref sb] below meth c H locs 68 6290 Q (F0 m 784 ls [])) {M T N : xM} {H : Heap} {locs : List Loc} {ls : Array Slot} (h : V_law_c3 xs L K M T N x3) (I : xI D (wL cI cZ x a b r ((M, T), N)) (fun q : Nat => s.heap.size ≤ q) s.heap H locs) (hl : lv_has ls 4 [(0, .ref sb), (1, .ref x), (2, .ref (r 0)), (3, .int x3)]) : W p l e room_1 s m #[Value.ref sb] below meth c H locs 68 6290 Q (F0 m 249 ls []) := by
  have hx := C.1.1
  have hb := C.1.2.1
  have hA : ∀ q : Nat, s.heap.size ≤ q → (fun q : Nat => s.heap.size ≤ q) q := fun _ h => h
  have hbA : ¬ (fun q : Nat => s.heap.size ≤ q) sb := Nat.not_le.mpr hbl
  unfold V_law_c3 at h
  refine lv_aload_n (pc := 249) hx hb dL_law_249 rfl (lv_at hl 1 rfl) ?_
  refine lv_aload_n (pc := 250) hx hb dL_law_250 rfl (lv_at hl 0 rfl) ?_
  refine lv_iload_n (pc := 251) hx hb dL_law_251 rfl (lv_at hl 3 rfl) ?_
  refine lv_iconst (pc := 252) (v := 1) hx hb dL_law_252 (by decide) ?_
  refine lv_iadd (pc := 253) hx hb dL_law_253 ?_
  obtain ⟨g1, h⟩ := h
  refine va_sld (pc := 254) hx hb hX hbl hbA I.2.2 g1 dL_law_254 ?_
  refine x_calli (pc := 255) C I hA (x_liftiX [] (wR cI cZ r N) (fun v => (v, N)) (fun v => rfl) rfl (m_X5_repairNode h)) c_RL_27 wL_0 rfl ⟨Nat.le_of_ble_eq_true rfl, Nat.le_of_ble_eq_true rfl⟩ ⟨rfl, rfl⟩ ⟨Nat.le_of_ble_eq_true rfl, Nat.le_of_ble_eq_true rfl⟩ (As := [.int (xs ((x3 + 1)).toNatClampNeg)]) rfl hl.1 rfl (Nat.le_of_ble_eq_true rfl) dL_law_255 (fun r2 u2 H locs h I => ?_)
  obtain ⟨⟨M3, T4⟩, rfl, h⟩ := h
  refine lv_aload_n (pc := 258) hx hb dL_law_258 rfl (lv_at hl 2 rfl) ?_
  refine lv_aload_n (pc := 259) hx hb dL_law_259 rfl (lv_at hl 0 rfl) ?_
  refine lv_iload_n (pc := 260) hx hb dL_law_260 rfl (lv_at hl 3 rfl) ?_
  refine lv_iconst (pc := 261) (v := 1) hx hb dL_law_261 (by decide) ?_
  refine lv_iadd (pc := 262) hx hb dL_law_262 ?_
  obtain ⟨g5, h⟩ := h
  refine va_sld (pc := 263) hx hb hX hbl hbA I.2.2 g5 dL_law_263 ?_
  refine x_calli (pc := 264) C I hA (x_liftiX (wO cI cZ x a b (M3, T4)) [] (fun v => ((M3, T4), v)) (fun v => wL_r) rfl (m_X6_repairNode h)) c_RL_30 wL_49 rfl ⟨Nat.le_of_ble_eq_true rfl, Nat.le_of_ble_eq_true rfl⟩ ⟨rfl, rfl⟩ ⟨Nat.le_of_ble_eq_true rfl, Nat.le_of_ble_eq_true rfl⟩ (As := [.int (xs ((x3 + 1)).toNatClampNeg)]) rfl hl.1 rfl (Nat.le_of_ble_eq_true rfl) dL_law_264 (fun r6 u2 H locs h I => ?_)
  obtain ⟨N7, rfl, h⟩ := h
  refine lv_icmp_eq (pc := 267) (tgt := 784) hx hb dL_law_267 (by decide) (fun g8 => ?_) (fun g8 => ?_)
  · have h := h.1 g8
    exact hK M3 T4 N7 _ _ _ h I (lv_sub hl [0, 1, 2, 3] rfl)
  · have h := h.2 g8
    refine lv_iconst (pc := 270) (v := 0) hx hb dL_law_270 (by decide) ?_
    exact absurd h id
def V_law_c4 (xs : Nat → Int32) (L : Nat) (K : xM → xM → xM → Prop) (M T N : xM) (x3 : Int32) : Prop := (vp_in (x3 + 1) L ∧ (V_X5_addTask M T (xs ((x3 + 1)).toNatClampNeg) (fun r2 (u2 : xM × xM) => (vp_in (x3 + 1) L ∧ (V_X6_addTask N (xs ((x3 + 1)).toNatClampNeg) (fun r6 N7 => ((r2 = r6 → (K u2.1 u2.2 N7)) ∧ (¬ r2 = r6 → False))))))))
set_option maxHeartbeats 4000000 in
set_option maxRecDepth 100000 in
theorem k_law_c4 {p : Program} {l : Launch} {e : Env} {s : State} {m : MethodId} {below : List Frame} {meth : Method} {c : Code} {D : va_G} {cI cZ : ClassId} {x : Nat} {a b r : Nat → Nat} {sb L : Nat} {xs : Nat → Int32} {Q : State → Prop} {K : xM → xM → xM → Prop} {x3 : Int32} (C : xC p s m #[Value.ref sb] c code 4 RL D cI cZ) (hX : va_X sb L xs s s.heap) (hbl : sb < s.heap.size) (hK : ∀ (M T N : xM) (H : Heap) (locs : List Loc) (ls : Array Slot), K M T N → xI D (wL cI cZ x a b r ((M, T), N)) (fun q : Nat => s.heap.size ≤ q) s.heap H locs → lv_has ls 4 [(0, .ref sb), (1, .ref x), (2, .ref (r 0)), (3, .int x3)] → W p l e room_1 s m #[Value.ref sb] below meth c H locs 68 6290 Q (F0 m 784 ls [])) {M T N : xM} {H : Heap} {locs : List Loc} {ls : Array Slot} (h : V_law_c4 xs L K M T N x3) (I : xI D (wL cI cZ x a b r ((M, T), N)) (fun q : Nat => s.heap.size ≤ q) s.heap H locs) (hl : lv_has ls 4 [(0, .ref sb), (1, .ref x), (2, .ref (r 0)), (3, .int x3)]) : W p l e room_1 s m #[Value.ref sb] below meth c H locs 68 6290 Q (F0 m 272 ls []) := by
  have hx := C.1.1
  have hb := C.1.2.1
  have hA : ∀ q : Nat, s.heap.size ≤ q → (fun q : Nat => s.heap.size ≤ q) q := fun _ h => h
  have hbA : ¬ (fun q : Nat => s.heap.size ≤ q) sb := Nat.not_le.mpr hbl
  unfold V_law_c4 at h
  refine lv_aload_n (pc := 272) hx hb dL_law_272 rfl (lv_at hl 1 rfl) ?_
  refine lv_aload_n (pc := 273) hx hb dL_law_273 rfl (lv_at hl 0 rfl) ?_
  refine lv_iload_n (pc := 274) hx hb dL_law_274 rfl (lv_at hl 3 rfl) ?_
  refine lv_iconst (pc := 275) (v := 1) hx hb dL_law_275 (by decide) ?_
  refine lv_iadd (pc := 276) hx hb dL_law_276 ?_
  obtain ⟨g1, h⟩ := h
  refine va_sld (pc := 277) hx hb hX hbl hbA I.2.2 g1 dL_law_277 ?_
  refine x_calli (pc := 278) C I hA (x_liftiX [] (wR cI cZ r N) (fun v => (v, N)) (fun v => rfl) rfl (m_X5_addTask h)) c_RL_31 wL_0 rfl ⟨Nat.le_of_ble_eq_true rfl, Nat.le_of_ble_eq_true rfl⟩ ⟨rfl, rfl⟩ ⟨Nat.le_of_ble_eq_true rfl, Nat.le_of_ble_eq_true rfl⟩ (As := [.int (xs ((x3 + 1)).toNatClampNeg)]) rfl hl.1 rfl (Nat.le_of_ble_eq_true rfl) dL_law_278 (fun r2 u2 H locs h I => ?_)
  obtain ⟨⟨M3, T4⟩, rfl, h⟩ := h
  refine lv_aload_n (pc := 281) hx hb dL_law_281 rfl (lv_at hl 2 rfl) ?_
  refine lv_aload_n (pc := 282) hx hb dL_law_282 rfl (lv_at hl 0 rfl) ?_
  refine lv_iload_n (pc := 283) hx hb dL_law_283 rfl (lv_at hl 3 rfl) ?_
  refine lv_iconst (pc := 284) (v := 1) hx hb dL_law_284 (by decide) ?_
  refine lv_iadd (pc := 285) hx hb dL_law_285 ?_
  obtain ⟨g5, h⟩ := h
  refine va_sld (pc := 286) hx hb hX hbl hbA I.2.2 g5 dL_law_286 ?_
  refine x_calli (pc := 287) C I hA (x_liftiX (wO cI cZ x a b (M3, T4)) [] (fun v => ((M3, T4), v)) (fun v => wL_r) rfl (m_X6_addTask h)) c_RL_34 wL_49 rfl ⟨Nat.le_of_ble_eq_true rfl, Nat.le_of_ble_eq_true rfl⟩ ⟨rfl, rfl⟩ ⟨Nat.le_of_ble_eq_true rfl, Nat.le_of_ble_eq_true rfl⟩ (As := [.int (xs ((x3 + 1)).toNatClampNeg)]) rfl hl.1 rfl (Nat.le_of_ble_eq_true rfl) dL_law_287 (fun r6 u2 H locs h I => ?_)
  obtain ⟨N7, rfl, h⟩ := h
  refine lv_icmp_eq (pc := 290) (tgt := 784) hx hb dL_law_290 (by decide) (fun g8 => ?_) (fun g8 => ?_)
  · have h := h.1 g8
    exact hK M3 T4 N7 _ _ _ h I (lv_sub hl [0, 1, 2, 3] rfl)
  · have h := h.2 g8
    refine lv_iconst (pc := 293) (v := 0) hx hb dL_law_293 (by decide) ?_
    exact absurd h id
def V_law_c5 (xs : Nat → Int32) (L : Nat) (K : xM → xM → xM → Prop) (M T N : xM) (x3 : Int32) : Prop := (vp_in (x3 + 1) L ∧ (V_X5_setPolicy M T (xs ((x3 + 1)).toNatClampNeg) (fun r2 (u2 : xM × xM) => (vp_in (x3 + 1) L ∧ (V_X6_setPolicy N (xs ((x3 + 1)).toNatClampNeg) (fun r6 N7 => ((r2 = r6 → (K u2.1 u2.2 N7)) ∧ (¬ r2 = r6 → False))))))))
set_option maxHeartbeats 4000000 in
set_option maxRecDepth 100000 in
theorem k_law_c5 {p : Program} {l : Launch} {e : Env} {s : State} {m : MethodId} {below : List Frame} {meth : Method} {c : Code} {D : va_G} {cI cZ : ClassId} {x : Nat} {a b r : Nat → Nat} {sb L : Nat} {xs : Nat → Int32} {Q : State → Prop} {K : xM → xM → xM → Prop} {x3 : Int32} (C : xC p s m #[Value.ref sb] c code 4 RL D cI cZ) (hX : va_X sb L xs s s.heap) (hbl : sb < s.heap.size) (hK : ∀ (M T N : xM) (H : Heap) (locs : List Loc) (ls : Array Slot), K M T N → xI D (wL cI cZ x a b r ((M, T), N)) (fun q : Nat => s.heap.size ≤ q) s.heap H locs → lv_has ls 4 [(0, .ref sb), (1, .ref x), (2, .ref (r 0)), (3, .int x3)] → W p l e room_1 s m #[Value.ref sb] below meth c H locs 68 6290 Q (F0 m 784 ls [])) {M T N : xM} {H : Heap} {locs : List Loc} {ls : Array Slot} (h : V_law_c5 xs L K M T N x3) (I : xI D (wL cI cZ x a b r ((M, T), N)) (fun q : Nat => s.heap.size ≤ q) s.heap H locs) (hl : lv_has ls 4 [(0, .ref sb), (1, .ref x), (2, .ref (r 0)), (3, .int x3)]) : W p l e room_1 s m #[Value.ref sb] below meth c H locs 68 6290 Q (F0 m 295 ls []) := by
  have hx := C.1.1
  have hb := C.1.2.1
  have hA : ∀ q : Nat, s.heap.size ≤ q → (fun q : Nat => s.heap.size ≤ q) q := fun _ h => h
  have hbA : ¬ (fun q : Nat => s.heap.size ≤ q) sb := Nat.not_le.mpr hbl
  unfold V_law_c5 at h
  refine lv_aload_n (pc := 295) hx hb dL_law_295 rfl (lv_at hl 1 rfl) ?_
  refine lv_aload_n (pc := 296) hx hb dL_law_296 rfl (lv_at hl 0 rfl) ?_
  refine lv_iload_n (pc := 297) hx hb dL_law_297 rfl (lv_at hl 3 rfl) ?_
  refine lv_iconst (pc := 298) (v := 1) hx hb dL_law_298 (by decide) ?_
  refine lv_iadd (pc := 299) hx hb dL_law_299 ?_
  obtain ⟨g1, h⟩ := h
  refine va_sld (pc := 300) hx hb hX hbl hbA I.2.2 g1 dL_law_300 ?_
  refine x_calli (pc := 301) C I hA (x_liftiX [] (wR cI cZ r N) (fun v => (v, N)) (fun v => rfl) rfl (m_X5_setPolicy h)) c_RL_35 wL_0 rfl ⟨Nat.le_of_ble_eq_true rfl, Nat.le_of_ble_eq_true rfl⟩ ⟨rfl, rfl⟩ ⟨Nat.le_of_ble_eq_true rfl, Nat.le_of_ble_eq_true rfl⟩ (As := [.int (xs ((x3 + 1)).toNatClampNeg)]) rfl hl.1 rfl (Nat.le_of_ble_eq_true rfl) dL_law_301 (fun r2 u2 H locs h I => ?_)
  obtain ⟨⟨M3, T4⟩, rfl, h⟩ := h
  refine lv_aload_n (pc := 304) hx hb dL_law_304 rfl (lv_at hl 2 rfl) ?_
  refine lv_aload_n (pc := 305) hx hb dL_law_305 rfl (lv_at hl 0 rfl) ?_
  refine lv_iload_n (pc := 306) hx hb dL_law_306 rfl (lv_at hl 3 rfl) ?_
  refine lv_iconst (pc := 307) (v := 1) hx hb dL_law_307 (by decide) ?_
  refine lv_iadd (pc := 308) hx hb dL_law_308 ?_
  obtain ⟨g5, h⟩ := h
  refine va_sld (pc := 309) hx hb hX hbl hbA I.2.2 g5 dL_law_309 ?_
  refine x_calli (pc := 310) C I hA (x_liftiX (wO cI cZ x a b (M3, T4)) [] (fun v => ((M3, T4), v)) (fun v => wL_r) rfl (m_X6_setPolicy h)) c_RL_38 wL_49 rfl ⟨Nat.le_of_ble_eq_true rfl, Nat.le_of_ble_eq_true rfl⟩ ⟨rfl, rfl⟩ ⟨Nat.le_of_ble_eq_true rfl, Nat.le_of_ble_eq_true rfl⟩ (As := [.int (xs ((x3 + 1)).toNatClampNeg)]) rfl hl.1 rfl (Nat.le_of_ble_eq_true rfl) dL_law_310 (fun r6 u2 H locs h I => ?_)
  obtain ⟨N7, rfl, h⟩ := h
  refine lv_icmp_eq (pc := 313) (tgt := 784) hx hb dL_law_313 (by decide) (fun g8 => ?_) (fun g8 => ?_)
  · have h := h.1 g8
    exact hK M3 T4 N7 _ _ _ h I (lv_sub hl [0, 1, 2, 3] rfl)
  · have h := h.2 g8
    refine lv_iconst (pc := 316) (v := 0) hx hb dL_law_316 (by decide) ?_
    exact absurd h id
def V_law_c6 (xs : Nat → Int32) (L : Nat) (K : xM → xM → xM → Prop) (M T N : xM) (x3 : Int32) : Prop := (vp_in (x3 + 1) L ∧ (vp_in (x3 + 2) L ∧ (V_X5_setLimits M T (xs ((x3 + 1)).toNatClampNeg) (xs ((x3 + 2)).toNatClampNeg) (fun r3 (u2 : xM × xM) => (vp_in (x3 + 1) L ∧ (vp_in (x3 + 2) L ∧ (V_X6_setLimits N (xs ((x3 + 1)).toNatClampNeg) (xs ((x3 + 2)).toNatClampNeg) (fun r8 N9 => ((r3 = r8 → (K u2.1 u2.2 N9)) ∧ (¬ r3 = r8 → False))))))))))
set_option maxHeartbeats 4000000 in
set_option maxRecDepth 100000 in
theorem k_law_c6 {p : Program} {l : Launch} {e : Env} {s : State} {m : MethodId} {below : List Frame} {meth : Method} {c : Code} {D : va_G} {cI cZ : ClassId} {x : Nat} {a b r : Nat → Nat} {sb L : Nat} {xs : Nat → Int32} {Q : State → Prop} {K : xM → xM → xM → Prop} {x3 : Int32} (C : xC p s m #[Value.ref sb] c code 4 RL D cI cZ) (hX : va_X sb L xs s s.heap) (hbl : sb < s.heap.size) (hK : ∀ (M T N : xM) (H : Heap) (locs : List Loc) (ls : Array Slot), K M T N → xI D (wL cI cZ x a b r ((M, T), N)) (fun q : Nat => s.heap.size ≤ q) s.heap H locs → lv_has ls 4 [(0, .ref sb), (1, .ref x), (2, .ref (r 0)), (3, .int x3)] → W p l e room_1 s m #[Value.ref sb] below meth c H locs 68 6290 Q (F0 m 784 ls [])) {M T N : xM} {H : Heap} {locs : List Loc} {ls : Array Slot} (h : V_law_c6 xs L K M T N x3) (I : xI D (wL cI cZ x a b r ((M, T), N)) (fun q : Nat => s.heap.size ≤ q) s.heap H locs) (hl : lv_has ls 4 [(0, .ref sb), (1, .ref x), (2, .ref (r 0)), (3, .int x3)]) : W p l e room_1 s m #[Value.ref sb] below meth c H locs 68 6290 Q (F0 m 318 ls []) := by
  have hx := C.1.1
  have hb := C.1.2.1
  have hA : ∀ q : Nat, s.heap.size ≤ q → (fun q : Nat => s.heap.size ≤ q) q := fun _ h => h
  have hbA : ¬ (fun q : Nat => s.heap.size ≤ q) sb := Nat.not_le.mpr hbl
  unfold V_law_c6 at h
  refine lv_aload_n (pc := 318) hx hb dL_law_318 rfl (lv_at hl 1 rfl) ?_
  refine lv_aload_n (pc := 319) hx hb dL_law_319 rfl (lv_at hl 0 rfl) ?_
  refine lv_iload_n (pc := 320) hx hb dL_law_320 rfl (lv_at hl 3 rfl) ?_
  refine lv_iconst (pc := 321) (v := 1) hx hb dL_law_321 (by decide) ?_
  refine lv_iadd (pc := 322) hx hb dL_law_322 ?_
  obtain ⟨g1, h⟩ := h
  refine va_sld (pc := 323) hx hb hX hbl hbA I.2.2 g1 dL_law_323 ?_
  refine lv_aload_n (pc := 324) hx hb dL_law_324 rfl (lv_at hl 0 rfl) ?_
  refine lv_iload_n (pc := 325) hx hb dL_law_325 rfl (lv_at hl 3 rfl) ?_
  refine lv_iconst (pc := 326) (v := 2) hx hb dL_law_326 (by decide) ?_
  refine lv_iadd (pc := 327) hx hb dL_law_327 ?_
  obtain ⟨g2, h⟩ := h
  refine va_sld (pc := 328) hx hb hX hbl hbA I.2.2 g2 dL_law_328 ?_
  refine x_calli (pc := 329) C I hA (x_liftiX [] (wR cI cZ r N) (fun v => (v, N)) (fun v => rfl) rfl (m_X5_setLimits h)) c_RL_39 wL_0 rfl ⟨Nat.le_of_ble_eq_true rfl, Nat.le_of_ble_eq_true rfl⟩ ⟨rfl, rfl⟩ ⟨Nat.le_of_ble_eq_true rfl, Nat.le_of_ble_eq_true rfl⟩ (As := [.int (xs ((x3 + 1)).toNatClampNeg), .int (xs ((x3 + 2)).toNatClampNeg)]) rfl hl.1 rfl (Nat.le_of_ble_eq_true rfl) dL_law_329 (fun r3 u2 H locs h I => ?_)
  obtain ⟨⟨M4, T5⟩, rfl, h⟩ := h
  refine lv_aload_n (pc := 332) hx hb dL_law_332 rfl (lv_at hl 2 rfl) ?_
  refine lv_aload_n (pc := 333) hx hb dL_law_333 rfl (lv_at hl 0 rfl) ?_
  refine lv_iload_n (pc := 334) hx hb dL_law_334 rfl (lv_at hl 3 rfl) ?_
  refine lv_iconst (pc := 335) (v := 1) hx hb dL_law_335 (by decide) ?_
  refine lv_iadd (pc := 336) hx hb dL_law_336 ?_
  obtain ⟨g6, h⟩ := h
  refine va_sld (pc := 337) hx hb hX hbl hbA I.2.2 g6 dL_law_337 ?_
  refine lv_aload_n (pc := 338) hx hb dL_law_338 rfl (lv_at hl 0 rfl) ?_
  refine lv_iload_n (pc := 339) hx hb dL_law_339 rfl (lv_at hl 3 rfl) ?_
  refine lv_iconst (pc := 340) (v := 2) hx hb dL_law_340 (by decide) ?_
  refine lv_iadd (pc := 341) hx hb dL_law_341 ?_
  obtain ⟨g7, h⟩ := h
  refine va_sld (pc := 342) hx hb hX hbl hbA I.2.2 g7 dL_law_342 ?_
  refine x_calli (pc := 343) C I hA (x_liftiX (wO cI cZ x a b (M4, T5)) [] (fun v => ((M4, T5), v)) (fun v => wL_r) rfl (m_X6_setLimits h)) c_RL_42 wL_49 rfl ⟨Nat.le_of_ble_eq_true rfl, Nat.le_of_ble_eq_true rfl⟩ ⟨rfl, rfl⟩ ⟨Nat.le_of_ble_eq_true rfl, Nat.le_of_ble_eq_true rfl⟩ (As := [.int (xs ((x3 + 1)).toNatClampNeg), .int (xs ((x3 + 2)).toNatClampNeg)]) rfl hl.1 rfl (Nat.le_of_ble_eq_true rfl) dL_law_343 (fun r8 u2 H locs h I => ?_)
  obtain ⟨N9, rfl, h⟩ := h
  refine lv_icmp_eq (pc := 346) (tgt := 784) hx hb dL_law_346 (by decide) (fun g10 => ?_) (fun g10 => ?_)
  · have h := h.1 g10
    exact hK M4 T5 N9 _ _ _ h I (lv_sub hl [0, 1, 2, 3] rfl)
  · have h := h.2 g10
    refine lv_iconst (pc := 349) (v := 0) hx hb dL_law_349 (by decide) ?_
    exact absurd h id
def V_law_c7 (xs : Nat → Int32) (L : Nat) (K : xM → xM → xM → Prop) (M T N : xM) (x3 : Int32) : Prop := (vp_in (x3 + 1) L ∧ (vp_in (x3 + 2) L ∧ (V_X5_setThresholds M T (xs ((x3 + 1)).toNatClampNeg) (xs ((x3 + 2)).toNatClampNeg) (fun r3 (u2 : xM × xM) => (vp_in (x3 + 1) L ∧ (vp_in (x3 + 2) L ∧ (V_X6_setThresholds N (xs ((x3 + 1)).toNatClampNeg) (xs ((x3 + 2)).toNatClampNeg) (fun r8 N9 => ((r3 = r8 → (K u2.1 u2.2 N9)) ∧ (¬ r3 = r8 → False))))))))))
set_option maxHeartbeats 4000000 in
set_option maxRecDepth 100000 in
theorem k_law_c7 {p : Program} {l : Launch} {e : Env} {s : State} {m : MethodId} {below : List Frame} {meth : Method} {c : Code} {D : va_G} {cI cZ : ClassId} {x : Nat} {a b r : Nat → Nat} {sb L : Nat} {xs : Nat → Int32} {Q : State → Prop} {K : xM → xM → xM → Prop} {x3 : Int32} (C : xC p s m #[Value.ref sb] c code 4 RL D cI cZ) (hX : va_X sb L xs s s.heap) (hbl : sb < s.heap.size) (hK : ∀ (M T N : xM) (H : Heap) (locs : List Loc) (ls : Array Slot), K M T N → xI D (wL cI cZ x a b r ((M, T), N)) (fun q : Nat => s.heap.size ≤ q) s.heap H locs → lv_has ls 4 [(0, .ref sb), (1, .ref x), (2, .ref (r 0)), (3, .int x3)] → W p l e room_1 s m #[Value.ref sb] below meth c H locs 68 6290 Q (F0 m 784 ls [])) {M T N : xM} {H : Heap} {locs : List Loc} {ls : Array Slot} (h : V_law_c7 xs L K M T N x3) (I : xI D (wL cI cZ x a b r ((M, T), N)) (fun q : Nat => s.heap.size ≤ q) s.heap H locs) (hl : lv_has ls 4 [(0, .ref sb), (1, .ref x), (2, .ref (r 0)), (3, .int x3)]) : W p l e room_1 s m #[Value.ref sb] below meth c H locs 68 6290 Q (F0 m 351 ls []) := by
  have hx := C.1.1
  have hb := C.1.2.1
  have hA : ∀ q : Nat, s.heap.size ≤ q → (fun q : Nat => s.heap.size ≤ q) q := fun _ h => h
  have hbA : ¬ (fun q : Nat => s.heap.size ≤ q) sb := Nat.not_le.mpr hbl
  unfold V_law_c7 at h
  refine lv_aload_n (pc := 351) hx hb dL_law_351 rfl (lv_at hl 1 rfl) ?_
  refine lv_aload_n (pc := 352) hx hb dL_law_352 rfl (lv_at hl 0 rfl) ?_
  refine lv_iload_n (pc := 353) hx hb dL_law_353 rfl (lv_at hl 3 rfl) ?_
  refine lv_iconst (pc := 354) (v := 1) hx hb dL_law_354 (by decide) ?_
  refine lv_iadd (pc := 355) hx hb dL_law_355 ?_
  obtain ⟨g1, h⟩ := h
  refine va_sld (pc := 356) hx hb hX hbl hbA I.2.2 g1 dL_law_356 ?_
  refine lv_aload_n (pc := 357) hx hb dL_law_357 rfl (lv_at hl 0 rfl) ?_
  refine lv_iload_n (pc := 358) hx hb dL_law_358 rfl (lv_at hl 3 rfl) ?_
  refine lv_iconst (pc := 359) (v := 2) hx hb dL_law_359 (by decide) ?_
  refine lv_iadd (pc := 360) hx hb dL_law_360 ?_
  obtain ⟨g2, h⟩ := h
  refine va_sld (pc := 361) hx hb hX hbl hbA I.2.2 g2 dL_law_361 ?_
  refine x_calli (pc := 362) C I hA (x_liftiX [] (wR cI cZ r N) (fun v => (v, N)) (fun v => rfl) rfl (m_X5_setThresholds h)) c_RL_43 wL_0 rfl ⟨Nat.le_of_ble_eq_true rfl, Nat.le_of_ble_eq_true rfl⟩ ⟨rfl, rfl⟩ ⟨Nat.le_of_ble_eq_true rfl, Nat.le_of_ble_eq_true rfl⟩ (As := [.int (xs ((x3 + 1)).toNatClampNeg), .int (xs ((x3 + 2)).toNatClampNeg)]) rfl hl.1 rfl (Nat.le_of_ble_eq_true rfl) dL_law_362 (fun r3 u2 H locs h I => ?_)
  obtain ⟨⟨M4, T5⟩, rfl, h⟩ := h
  refine lv_aload_n (pc := 365) hx hb dL_law_365 rfl (lv_at hl 2 rfl) ?_
  refine lv_aload_n (pc := 366) hx hb dL_law_366 rfl (lv_at hl 0 rfl) ?_
  refine lv_iload_n (pc := 367) hx hb dL_law_367 rfl (lv_at hl 3 rfl) ?_
  refine lv_iconst (pc := 368) (v := 1) hx hb dL_law_368 (by decide) ?_
  refine lv_iadd (pc := 369) hx hb dL_law_369 ?_
  obtain ⟨g6, h⟩ := h
  refine va_sld (pc := 370) hx hb hX hbl hbA I.2.2 g6 dL_law_370 ?_
  refine lv_aload_n (pc := 371) hx hb dL_law_371 rfl (lv_at hl 0 rfl) ?_
  refine lv_iload_n (pc := 372) hx hb dL_law_372 rfl (lv_at hl 3 rfl) ?_
  refine lv_iconst (pc := 373) (v := 2) hx hb dL_law_373 (by decide) ?_
  refine lv_iadd (pc := 374) hx hb dL_law_374 ?_
  obtain ⟨g7, h⟩ := h
  refine va_sld (pc := 375) hx hb hX hbl hbA I.2.2 g7 dL_law_375 ?_
  refine x_calli (pc := 376) C I hA (x_liftiX (wO cI cZ x a b (M4, T5)) [] (fun v => ((M4, T5), v)) (fun v => wL_r) rfl (m_X6_setThresholds h)) c_RL_46 wL_49 rfl ⟨Nat.le_of_ble_eq_true rfl, Nat.le_of_ble_eq_true rfl⟩ ⟨rfl, rfl⟩ ⟨Nat.le_of_ble_eq_true rfl, Nat.le_of_ble_eq_true rfl⟩ (As := [.int (xs ((x3 + 1)).toNatClampNeg), .int (xs ((x3 + 2)).toNatClampNeg)]) rfl hl.1 rfl (Nat.le_of_ble_eq_true rfl) dL_law_376 (fun r8 u2 H locs h I => ?_)
  obtain ⟨N9, rfl, h⟩ := h
  refine lv_icmp_eq (pc := 379) (tgt := 784) hx hb dL_law_379 (by decide) (fun g10 => ?_) (fun g10 => ?_)
  · have h := h.1 g10
    exact hK M4 T5 N9 _ _ _ h I (lv_sub hl [0, 1, 2, 3] rfl)
  · have h := h.2 g10
    refine lv_iconst (pc := 382) (v := 0) hx hb dL_law_382 (by decide) ?_
    exact absurd h id
def V_law_c8 (xs : Nat → Int32) (L : Nat) (K : xM → xM → xM → Prop) (M T N : xM) (x3 : Int32) : Prop := (vp_in (x3 + 1) L ∧ (V_X5_tick M T (xs ((x3 + 1)).toNatClampNeg) (fun r2 (u2 : xM × xM) => (vp_in (x3 + 1) L ∧ (V_X6_tick N (xs ((x3 + 1)).toNatClampNeg) (fun r6 N7 => ((r2 = r6 → (K u2.1 u2.2 N7)) ∧ (¬ r2 = r6 → False))))))))
set_option maxHeartbeats 4000000 in
set_option maxRecDepth 100000 in
theorem k_law_c8 {p : Program} {l : Launch} {e : Env} {s : State} {m : MethodId} {below : List Frame} {meth : Method} {c : Code} {D : va_G} {cI cZ : ClassId} {x : Nat} {a b r : Nat → Nat} {sb L : Nat} {xs : Nat → Int32} {Q : State → Prop} {K : xM → xM → xM → Prop} {x3 : Int32} (C : xC p s m #[Value.ref sb] c code 4 RL D cI cZ) (hX : va_X sb L xs s s.heap) (hbl : sb < s.heap.size) (hK : ∀ (M T N : xM) (H : Heap) (locs : List Loc) (ls : Array Slot), K M T N → xI D (wL cI cZ x a b r ((M, T), N)) (fun q : Nat => s.heap.size ≤ q) s.heap H locs → lv_has ls 4 [(0, .ref sb), (1, .ref x), (2, .ref (r 0)), (3, .int x3)] → W p l e room_1 s m #[Value.ref sb] below meth c H locs 68 6290 Q (F0 m 784 ls [])) {M T N : xM} {H : Heap} {locs : List Loc} {ls : Array Slot} (h : V_law_c8 xs L K M T N x3) (I : xI D (wL cI cZ x a b r ((M, T), N)) (fun q : Nat => s.heap.size ≤ q) s.heap H locs) (hl : lv_has ls 4 [(0, .ref sb), (1, .ref x), (2, .ref (r 0)), (3, .int x3)]) : W p l e room_1 s m #[Value.ref sb] below meth c H locs 68 6290 Q (F0 m 384 ls []) := by
  have hx := C.1.1
  have hb := C.1.2.1
  have hA : ∀ q : Nat, s.heap.size ≤ q → (fun q : Nat => s.heap.size ≤ q) q := fun _ h => h
  have hbA : ¬ (fun q : Nat => s.heap.size ≤ q) sb := Nat.not_le.mpr hbl
  unfold V_law_c8 at h
  refine lv_aload_n (pc := 384) hx hb dL_law_384 rfl (lv_at hl 1 rfl) ?_
  refine lv_aload_n (pc := 385) hx hb dL_law_385 rfl (lv_at hl 0 rfl) ?_
  refine lv_iload_n (pc := 386) hx hb dL_law_386 rfl (lv_at hl 3 rfl) ?_
  refine lv_iconst (pc := 387) (v := 1) hx hb dL_law_387 (by decide) ?_
  refine lv_iadd (pc := 388) hx hb dL_law_388 ?_
  obtain ⟨g1, h⟩ := h
  refine va_sld (pc := 389) hx hb hX hbl hbA I.2.2 g1 dL_law_389 ?_
  refine x_calli (pc := 390) C I hA (x_liftiX [] (wR cI cZ r N) (fun v => (v, N)) (fun v => rfl) rfl (m_X5_tick h)) c_RL_47 wL_0 rfl ⟨Nat.le_of_ble_eq_true rfl, Nat.le_of_ble_eq_true rfl⟩ ⟨rfl, rfl⟩ ⟨Nat.le_of_ble_eq_true rfl, Nat.le_of_ble_eq_true rfl⟩ (As := [.int (xs ((x3 + 1)).toNatClampNeg)]) rfl hl.1 rfl (Nat.le_of_ble_eq_true rfl) dL_law_390 (fun r2 u2 H locs h I => ?_)
  obtain ⟨⟨M3, T4⟩, rfl, h⟩ := h
  refine lv_aload_n (pc := 393) hx hb dL_law_393 rfl (lv_at hl 2 rfl) ?_
  refine lv_aload_n (pc := 394) hx hb dL_law_394 rfl (lv_at hl 0 rfl) ?_
  refine lv_iload_n (pc := 395) hx hb dL_law_395 rfl (lv_at hl 3 rfl) ?_
  refine lv_iconst (pc := 396) (v := 1) hx hb dL_law_396 (by decide) ?_
  refine lv_iadd (pc := 397) hx hb dL_law_397 ?_
  obtain ⟨g5, h⟩ := h
  refine va_sld (pc := 398) hx hb hX hbl hbA I.2.2 g5 dL_law_398 ?_
  refine x_calli (pc := 399) C I hA (x_liftiX (wO cI cZ x a b (M3, T4)) [] (fun v => ((M3, T4), v)) (fun v => wL_r) rfl (m_X6_tick h)) c_RL_50 wL_49 rfl ⟨Nat.le_of_ble_eq_true rfl, Nat.le_of_ble_eq_true rfl⟩ ⟨rfl, rfl⟩ ⟨Nat.le_of_ble_eq_true rfl, Nat.le_of_ble_eq_true rfl⟩ (As := [.int (xs ((x3 + 1)).toNatClampNeg)]) rfl hl.1 rfl (Nat.le_of_ble_eq_true rfl) dL_law_399 (fun r6 u2 H locs h I => ?_)
  obtain ⟨N7, rfl, h⟩ := h
  refine lv_icmp_eq (pc := 402) (tgt := 784) hx hb dL_law_402 (by decide) (fun g8 => ?_) (fun g8 => ?_)
  · have h := h.1 g8
    exact hK M3 T4 N7 _ _ _ h I (lv_sub hl [0, 1, 2, 3] rfl)
  · have h := h.2 g8
    refine lv_iconst (pc := 405) (v := 0) hx hb dL_law_405 (by decide) ?_
    exact absurd h id
def V_law_c9 (xs : Nat → Int32) (L : Nat) (K : xM → xM → xM → Prop) (M T N : xM) (x3 : Int32) : Prop := (V_X5_time M T  (fun r1 (u2 : xM × xM) => (V_X6_time N  (fun r4 N5 => ((r1 = r4 → (K u2.1 u2.2 N5)) ∧ (¬ r1 = r4 → False))))))
set_option maxHeartbeats 4000000 in
set_option maxRecDepth 100000 in
theorem k_law_c9 {p : Program} {l : Launch} {e : Env} {s : State} {m : MethodId} {below : List Frame} {meth : Method} {c : Code} {D : va_G} {cI cZ : ClassId} {x : Nat} {a b r : Nat → Nat} {sb L : Nat} {xs : Nat → Int32} {Q : State → Prop} {K : xM → xM → xM → Prop} {x3 : Int32} (C : xC p s m #[Value.ref sb] c code 4 RL D cI cZ) (hX : va_X sb L xs s s.heap) (hbl : sb < s.heap.size) (hK : ∀ (M T N : xM) (H : Heap) (locs : List Loc) (ls : Array Slot), K M T N → xI D (wL cI cZ x a b r ((M, T), N)) (fun q : Nat => s.heap.size ≤ q) s.heap H locs → lv_has ls 4 [(0, .ref sb), (1, .ref x), (2, .ref (r 0)), (3, .int x3)] → W p l e room_1 s m #[Value.ref sb] below meth c H locs 68 6290 Q (F0 m 784 ls [])) {M T N : xM} {H : Heap} {locs : List Loc} {ls : Array Slot} (h : V_law_c9 xs L K M T N x3) (I : xI D (wL cI cZ x a b r ((M, T), N)) (fun q : Nat => s.heap.size ≤ q) s.heap H locs) (hl : lv_has ls 4 [(0, .ref sb), (1, .ref x), (2, .ref (r 0)), (3, .int x3)]) : W p l e room_1 s m #[Value.ref sb] below meth c H locs 68 6290 Q (F0 m 407 ls []) := by
  have hx := C.1.1
  have hb := C.1.2.1
  have hA : ∀ q : Nat, s.heap.size ≤ q → (fun q : Nat => s.heap.size ≤ q) q := fun _ h => h
  have hbA : ¬ (fun q : Nat => s.heap.size ≤ q) sb := Nat.not_le.mpr hbl
  unfold V_law_c9 at h
  refine lv_aload_n (pc := 407) hx hb dL_law_407 rfl (lv_at hl 1 rfl) ?_
  refine x_calli (pc := 408) C I hA (x_liftiX [] (wR cI cZ r N) (fun v => (v, N)) (fun v => rfl) rfl (m_X5_time h)) c_RL_51 wL_0 rfl ⟨Nat.le_of_ble_eq_true rfl, Nat.le_of_ble_eq_true rfl⟩ ⟨rfl, rfl⟩ ⟨Nat.le_of_ble_eq_true rfl, Nat.le_of_ble_eq_true rfl⟩ (As := []) rfl hl.1 rfl (Nat.le_of_ble_eq_true rfl) dL_law_408 (fun r1 u2 H locs h I => ?_)
  obtain ⟨⟨M2, T3⟩, rfl, h⟩ := h
  refine lv_aload_n (pc := 411) hx hb dL_law_411 rfl (lv_at hl 2 rfl) ?_
  refine x_calli (pc := 412) C I hA (x_liftiX (wO cI cZ x a b (M2, T3)) [] (fun v => ((M2, T3), v)) (fun v => wL_r) rfl (m_X6_time h)) c_RL_55 wL_49 rfl ⟨Nat.le_of_ble_eq_true rfl, Nat.le_of_ble_eq_true rfl⟩ ⟨rfl, rfl⟩ ⟨Nat.le_of_ble_eq_true rfl, Nat.le_of_ble_eq_true rfl⟩ (As := []) rfl hl.1 rfl (Nat.le_of_ble_eq_true rfl) dL_law_412 (fun r4 u2 H locs h I => ?_)
  obtain ⟨N5, rfl, h⟩ := h
  refine lv_icmp_eq (pc := 415) (tgt := 784) hx hb dL_law_415 (by decide) (fun g6 => ?_) (fun g6 => ?_)
  · have h := h.1 g6
    exact hK M2 T3 N5 _ _ _ h I (lv_sub hl [0, 1, 2, 3] rfl)
  · have h := h.2 g6
    refine lv_iconst (pc := 418) (v := 0) hx hb dL_law_418 (by decide) ?_
    exact absurd h id
def V_law_c10 (xs : Nat → Int32) (L : Nat) (K : xM → xM → xM → Prop) (M T N : xM) (x3 : Int32) : Prop := (vp_in (x3 + 1) L ∧ (V_X5_taskState M T (xs ((x3 + 1)).toNatClampNeg) (fun r2 (u2 : xM × xM) => (vp_in (x3 + 1) L ∧ (V_X6_taskState N (xs ((x3 + 1)).toNatClampNeg) (fun r6 N7 => ((r2 = r6 → (K u2.1 u2.2 N7)) ∧ (¬ r2 = r6 → False))))))))
set_option maxHeartbeats 4000000 in
set_option maxRecDepth 100000 in
theorem k_law_c10 {p : Program} {l : Launch} {e : Env} {s : State} {m : MethodId} {below : List Frame} {meth : Method} {c : Code} {D : va_G} {cI cZ : ClassId} {x : Nat} {a b r : Nat → Nat} {sb L : Nat} {xs : Nat → Int32} {Q : State → Prop} {K : xM → xM → xM → Prop} {x3 : Int32} (C : xC p s m #[Value.ref sb] c code 4 RL D cI cZ) (hX : va_X sb L xs s s.heap) (hbl : sb < s.heap.size) (hK : ∀ (M T N : xM) (H : Heap) (locs : List Loc) (ls : Array Slot), K M T N → xI D (wL cI cZ x a b r ((M, T), N)) (fun q : Nat => s.heap.size ≤ q) s.heap H locs → lv_has ls 4 [(0, .ref sb), (1, .ref x), (2, .ref (r 0)), (3, .int x3)] → W p l e room_1 s m #[Value.ref sb] below meth c H locs 68 6290 Q (F0 m 784 ls [])) {M T N : xM} {H : Heap} {locs : List Loc} {ls : Array Slot} (h : V_law_c10 xs L K M T N x3) (I : xI D (wL cI cZ x a b r ((M, T), N)) (fun q : Nat => s.heap.size ≤ q) s.heap H locs) (hl : lv_has ls 4 [(0, .ref sb), (1, .ref x), (2, .ref (r 0)), (3, .int x3)]) : W p l e room_1 s m #[Value.ref sb] below meth c H locs 68 6290 Q (F0 m 420 ls []) := by
  have hx := C.1.1
  have hb := C.1.2.1
  have hA : ∀ q : Nat, s.heap.size ≤ q → (fun q : Nat => s.heap.size ≤ q) q := fun _ h => h
  have hbA : ¬ (fun q : Nat => s.heap.size ≤ q) sb := Nat.not_le.mpr hbl
  unfold V_law_c10 at h
  refine lv_aload_n (pc := 420) hx hb dL_law_420 rfl (lv_at hl 1 rfl) ?_
  refine lv_aload_n (pc := 421) hx hb dL_law_421 rfl (lv_at hl 0 rfl) ?_
  refine lv_iload_n (pc := 422) hx hb dL_law_422 rfl (lv_at hl 3 rfl) ?_
  refine lv_iconst (pc := 423) (v := 1) hx hb dL_law_423 (by decide) ?_
  refine lv_iadd (pc := 424) hx hb dL_law_424 ?_
  obtain ⟨g1, h⟩ := h
  refine va_sld (pc := 425) hx hb hX hbl hbA I.2.2 g1 dL_law_425 ?_
  refine x_calli (pc := 426) C I hA (x_liftiX [] (wR cI cZ r N) (fun v => (v, N)) (fun v => rfl) rfl (m_X5_taskState h)) c_RL_56 wL_0 rfl ⟨Nat.le_of_ble_eq_true rfl, Nat.le_of_ble_eq_true rfl⟩ ⟨rfl, rfl⟩ ⟨Nat.le_of_ble_eq_true rfl, Nat.le_of_ble_eq_true rfl⟩ (As := [.int (xs ((x3 + 1)).toNatClampNeg)]) rfl hl.1 rfl (Nat.le_of_ble_eq_true rfl) dL_law_426 (fun r2 u2 H locs h I => ?_)
  obtain ⟨⟨M3, T4⟩, rfl, h⟩ := h
  refine lv_aload_n (pc := 429) hx hb dL_law_429 rfl (lv_at hl 2 rfl) ?_
  refine lv_aload_n (pc := 430) hx hb dL_law_430 rfl (lv_at hl 0 rfl) ?_
  refine lv_iload_n (pc := 431) hx hb dL_law_431 rfl (lv_at hl 3 rfl) ?_
  refine lv_iconst (pc := 432) (v := 1) hx hb dL_law_432 (by decide) ?_
  refine lv_iadd (pc := 433) hx hb dL_law_433 ?_
  obtain ⟨g5, h⟩ := h
  refine va_sld (pc := 434) hx hb hX hbl hbA I.2.2 g5 dL_law_434 ?_
  refine x_calli (pc := 435) C I hA (x_liftiX (wO cI cZ x a b (M3, T4)) [] (fun v => ((M3, T4), v)) (fun v => wL_r) rfl (m_X6_taskState h)) c_RL_59 wL_49 rfl ⟨Nat.le_of_ble_eq_true rfl, Nat.le_of_ble_eq_true rfl⟩ ⟨rfl, rfl⟩ ⟨Nat.le_of_ble_eq_true rfl, Nat.le_of_ble_eq_true rfl⟩ (As := [.int (xs ((x3 + 1)).toNatClampNeg)]) rfl hl.1 rfl (Nat.le_of_ble_eq_true rfl) dL_law_435 (fun r6 u2 H locs h I => ?_)
  obtain ⟨N7, rfl, h⟩ := h
  refine lv_icmp_eq (pc := 438) (tgt := 784) hx hb dL_law_438 (by decide) (fun g8 => ?_) (fun g8 => ?_)
  · have h := h.1 g8
    exact hK M3 T4 N7 _ _ _ h I (lv_sub hl [0, 1, 2, 3] rfl)
  · have h := h.2 g8
    refine lv_iconst (pc := 441) (v := 0) hx hb dL_law_441 (by decide) ?_
    exact absurd h id
def V_law_c11 (xs : Nat → Int32) (L : Nat) (K : xM → xM → xM → Prop) (M T N : xM) (x3 : Int32) : Prop := (vp_in (x3 + 1) L ∧ (V_X5_committedAttempt M T (xs ((x3 + 1)).toNatClampNeg) (fun r2 (u2 : xM × xM) => (vp_in (x3 + 1) L ∧ (V_X6_committedAttempt N (xs ((x3 + 1)).toNatClampNeg) (fun r6 N7 => ((r2 = r6 → (K u2.1 u2.2 N7)) ∧ (¬ r2 = r6 → False))))))))
set_option maxHeartbeats 4000000 in
set_option maxRecDepth 100000 in
theorem k_law_c11 {p : Program} {l : Launch} {e : Env} {s : State} {m : MethodId} {below : List Frame} {meth : Method} {c : Code} {D : va_G} {cI cZ : ClassId} {x : Nat} {a b r : Nat → Nat} {sb L : Nat} {xs : Nat → Int32} {Q : State → Prop} {K : xM → xM → xM → Prop} {x3 : Int32} (C : xC p s m #[Value.ref sb] c code 4 RL D cI cZ) (hX : va_X sb L xs s s.heap) (hbl : sb < s.heap.size) (hK : ∀ (M T N : xM) (H : Heap) (locs : List Loc) (ls : Array Slot), K M T N → xI D (wL cI cZ x a b r ((M, T), N)) (fun q : Nat => s.heap.size ≤ q) s.heap H locs → lv_has ls 4 [(0, .ref sb), (1, .ref x), (2, .ref (r 0)), (3, .int x3)] → W p l e room_1 s m #[Value.ref sb] below meth c H locs 68 6290 Q (F0 m 784 ls [])) {M T N : xM} {H : Heap} {locs : List Loc} {ls : Array Slot} (h : V_law_c11 xs L K M T N x3) (I : xI D (wL cI cZ x a b r ((M, T), N)) (fun q : Nat => s.heap.size ≤ q) s.heap H locs) (hl : lv_has ls 4 [(0, .ref sb), (1, .ref x), (2, .ref (r 0)), (3, .int x3)]) : W p l e room_1 s m #[Value.ref sb] below meth c H locs 68 6290 Q (F0 m 443 ls []) := by
  have hx := C.1.1
  have hb := C.1.2.1
  have hA : ∀ q : Nat, s.heap.size ≤ q → (fun q : Nat => s.heap.size ≤ q) q := fun _ h => h
  have hbA : ¬ (fun q : Nat => s.heap.size ≤ q) sb := Nat.not_le.mpr hbl
  unfold V_law_c11 at h
  refine lv_aload_n (pc := 443) hx hb dL_law_443 rfl (lv_at hl 1 rfl) ?_
  refine lv_aload_n (pc := 444) hx hb dL_law_444 rfl (lv_at hl 0 rfl) ?_
  refine lv_iload_n (pc := 445) hx hb dL_law_445 rfl (lv_at hl 3 rfl) ?_
  refine lv_iconst (pc := 446) (v := 1) hx hb dL_law_446 (by decide) ?_
  refine lv_iadd (pc := 447) hx hb dL_law_447 ?_
  obtain ⟨g1, h⟩ := h
  refine va_sld (pc := 448) hx hb hX hbl hbA I.2.2 g1 dL_law_448 ?_
  refine x_calli (pc := 449) C I hA (x_liftiX [] (wR cI cZ r N) (fun v => (v, N)) (fun v => rfl) rfl (m_X5_committedAttempt h)) c_RL_60 wL_0 rfl ⟨Nat.le_of_ble_eq_true rfl, Nat.le_of_ble_eq_true rfl⟩ ⟨rfl, rfl⟩ ⟨Nat.le_of_ble_eq_true rfl, Nat.le_of_ble_eq_true rfl⟩ (As := [.int (xs ((x3 + 1)).toNatClampNeg)]) rfl hl.1 rfl (Nat.le_of_ble_eq_true rfl) dL_law_449 (fun r2 u2 H locs h I => ?_)
  obtain ⟨⟨M3, T4⟩, rfl, h⟩ := h
  refine lv_aload_n (pc := 452) hx hb dL_law_452 rfl (lv_at hl 2 rfl) ?_
  refine lv_aload_n (pc := 453) hx hb dL_law_453 rfl (lv_at hl 0 rfl) ?_
  refine lv_iload_n (pc := 454) hx hb dL_law_454 rfl (lv_at hl 3 rfl) ?_
  refine lv_iconst (pc := 455) (v := 1) hx hb dL_law_455 (by decide) ?_
  refine lv_iadd (pc := 456) hx hb dL_law_456 ?_
  obtain ⟨g5, h⟩ := h
  refine va_sld (pc := 457) hx hb hX hbl hbA I.2.2 g5 dL_law_457 ?_
  refine x_calli (pc := 458) C I hA (x_liftiX (wO cI cZ x a b (M3, T4)) [] (fun v => ((M3, T4), v)) (fun v => wL_r) rfl (m_X6_committedAttempt h)) c_RL_63 wL_49 rfl ⟨Nat.le_of_ble_eq_true rfl, Nat.le_of_ble_eq_true rfl⟩ ⟨rfl, rfl⟩ ⟨Nat.le_of_ble_eq_true rfl, Nat.le_of_ble_eq_true rfl⟩ (As := [.int (xs ((x3 + 1)).toNatClampNeg)]) rfl hl.1 rfl (Nat.le_of_ble_eq_true rfl) dL_law_458 (fun r6 u2 H locs h I => ?_)
  obtain ⟨N7, rfl, h⟩ := h
  refine lv_icmp_eq (pc := 461) (tgt := 784) hx hb dL_law_461 (by decide) (fun g8 => ?_) (fun g8 => ?_)
  · have h := h.1 g8
    exact hK M3 T4 N7 _ _ _ h I (lv_sub hl [0, 1, 2, 3] rfl)
  · have h := h.2 g8
    refine lv_iconst (pc := 464) (v := 0) hx hb dL_law_464 (by decide) ?_
    exact absurd h id
def V_law_c12 (xs : Nat → Int32) (L : Nat) (K : xM → xM → xM → Prop) (M T N : xM) (x3 : Int32) : Prop := (vp_in (x3 + 1) L ∧ (V_X5_finishTime M T (xs ((x3 + 1)).toNatClampNeg) (fun r2 (u2 : xM × xM) => (vp_in (x3 + 1) L ∧ (V_X6_finishTime N (xs ((x3 + 1)).toNatClampNeg) (fun r6 N7 => ((r2 = r6 → (K u2.1 u2.2 N7)) ∧ (¬ r2 = r6 → False))))))))
set_option maxHeartbeats 4000000 in
set_option maxRecDepth 100000 in
theorem k_law_c12 {p : Program} {l : Launch} {e : Env} {s : State} {m : MethodId} {below : List Frame} {meth : Method} {c : Code} {D : va_G} {cI cZ : ClassId} {x : Nat} {a b r : Nat → Nat} {sb L : Nat} {xs : Nat → Int32} {Q : State → Prop} {K : xM → xM → xM → Prop} {x3 : Int32} (C : xC p s m #[Value.ref sb] c code 4 RL D cI cZ) (hX : va_X sb L xs s s.heap) (hbl : sb < s.heap.size) (hK : ∀ (M T N : xM) (H : Heap) (locs : List Loc) (ls : Array Slot), K M T N → xI D (wL cI cZ x a b r ((M, T), N)) (fun q : Nat => s.heap.size ≤ q) s.heap H locs → lv_has ls 4 [(0, .ref sb), (1, .ref x), (2, .ref (r 0)), (3, .int x3)] → W p l e room_1 s m #[Value.ref sb] below meth c H locs 68 6290 Q (F0 m 784 ls [])) {M T N : xM} {H : Heap} {locs : List Loc} {ls : Array Slot} (h : V_law_c12 xs L K M T N x3) (I : xI D (wL cI cZ x a b r ((M, T), N)) (fun q : Nat => s.heap.size ≤ q) s.heap H locs) (hl : lv_has ls 4 [(0, .ref sb), (1, .ref x), (2, .ref (r 0)), (3, .int x3)]) : W p l e room_1 s m #[Value.ref sb] below meth c H locs 68 6290 Q (F0 m 466 ls []) := by
  have hx := C.1.1
  have hb := C.1.2.1
  have hA : ∀ q : Nat, s.heap.size ≤ q → (fun q : Nat => s.heap.size ≤ q) q := fun _ h => h
  have hbA : ¬ (fun q : Nat => s.heap.size ≤ q) sb := Nat.not_le.mpr hbl
  unfold V_law_c12 at h
  refine lv_aload_n (pc := 466) hx hb dL_law_466 rfl (lv_at hl 1 rfl) ?_
  refine lv_aload_n (pc := 467) hx hb dL_law_467 rfl (lv_at hl 0 rfl) ?_
  refine lv_iload_n (pc := 468) hx hb dL_law_468 rfl (lv_at hl 3 rfl) ?_
  refine lv_iconst (pc := 469) (v := 1) hx hb dL_law_469 (by decide) ?_
  refine lv_iadd (pc := 470) hx hb dL_law_470 ?_
  obtain ⟨g1, h⟩ := h
  refine va_sld (pc := 471) hx hb hX hbl hbA I.2.2 g1 dL_law_471 ?_
  refine x_calli (pc := 472) C I hA (x_liftiX [] (wR cI cZ r N) (fun v => (v, N)) (fun v => rfl) rfl (m_X5_finishTime h)) c_RL_64 wL_0 rfl ⟨Nat.le_of_ble_eq_true rfl, Nat.le_of_ble_eq_true rfl⟩ ⟨rfl, rfl⟩ ⟨Nat.le_of_ble_eq_true rfl, Nat.le_of_ble_eq_true rfl⟩ (As := [.int (xs ((x3 + 1)).toNatClampNeg)]) rfl hl.1 rfl (Nat.le_of_ble_eq_true rfl) dL_law_472 (fun r2 u2 H locs h I => ?_)
  obtain ⟨⟨M3, T4⟩, rfl, h⟩ := h
  refine lv_aload_n (pc := 475) hx hb dL_law_475 rfl (lv_at hl 2 rfl) ?_
  refine lv_aload_n (pc := 476) hx hb dL_law_476 rfl (lv_at hl 0 rfl) ?_
  refine lv_iload_n (pc := 477) hx hb dL_law_477 rfl (lv_at hl 3 rfl) ?_
  refine lv_iconst (pc := 478) (v := 1) hx hb dL_law_478 (by decide) ?_
  refine lv_iadd (pc := 479) hx hb dL_law_479 ?_
  obtain ⟨g5, h⟩ := h
  refine va_sld (pc := 480) hx hb hX hbl hbA I.2.2 g5 dL_law_480 ?_
  refine x_calli (pc := 481) C I hA (x_liftiX (wO cI cZ x a b (M3, T4)) [] (fun v => ((M3, T4), v)) (fun v => wL_r) rfl (m_X6_finishTime h)) c_RL_67 wL_49 rfl ⟨Nat.le_of_ble_eq_true rfl, Nat.le_of_ble_eq_true rfl⟩ ⟨rfl, rfl⟩ ⟨Nat.le_of_ble_eq_true rfl, Nat.le_of_ble_eq_true rfl⟩ (As := [.int (xs ((x3 + 1)).toNatClampNeg)]) rfl hl.1 rfl (Nat.le_of_ble_eq_true rfl) dL_law_481 (fun r6 u2 H locs h I => ?_)
  obtain ⟨N7, rfl, h⟩ := h
  refine lv_icmp_eq (pc := 484) (tgt := 784) hx hb dL_law_484 (by decide) (fun g8 => ?_) (fun g8 => ?_)
  · have h := h.1 g8
    exact hK M3 T4 N7 _ _ _ h I (lv_sub hl [0, 1, 2, 3] rfl)
  · have h := h.2 g8
    refine lv_iconst (pc := 487) (v := 0) hx hb dL_law_487 (by decide) ?_
    exact absurd h id
def V_law_c13 (xs : Nat → Int32) (L : Nat) (K : xM → xM → xM → Prop) (M T N : xM) (x3 : Int32) : Prop := (V_X5_makespan M T  (fun r1 (u2 : xM × xM) => (V_X6_makespan N  (fun r4 N5 => ((r1 = r4 → (K u2.1 u2.2 N5)) ∧ (¬ r1 = r4 → False))))))
set_option maxHeartbeats 4000000 in
set_option maxRecDepth 100000 in
theorem k_law_c13 {p : Program} {l : Launch} {e : Env} {s : State} {m : MethodId} {below : List Frame} {meth : Method} {c : Code} {D : va_G} {cI cZ : ClassId} {x : Nat} {a b r : Nat → Nat} {sb L : Nat} {xs : Nat → Int32} {Q : State → Prop} {K : xM → xM → xM → Prop} {x3 : Int32} (C : xC p s m #[Value.ref sb] c code 4 RL D cI cZ) (hX : va_X sb L xs s s.heap) (hbl : sb < s.heap.size) (hK : ∀ (M T N : xM) (H : Heap) (locs : List Loc) (ls : Array Slot), K M T N → xI D (wL cI cZ x a b r ((M, T), N)) (fun q : Nat => s.heap.size ≤ q) s.heap H locs → lv_has ls 4 [(0, .ref sb), (1, .ref x), (2, .ref (r 0)), (3, .int x3)] → W p l e room_1 s m #[Value.ref sb] below meth c H locs 68 6290 Q (F0 m 784 ls [])) {M T N : xM} {H : Heap} {locs : List Loc} {ls : Array Slot} (h : V_law_c13 xs L K M T N x3) (I : xI D (wL cI cZ x a b r ((M, T), N)) (fun q : Nat => s.heap.size ≤ q) s.heap H locs) (hl : lv_has ls 4 [(0, .ref sb), (1, .ref x), (2, .ref (r 0)), (3, .int x3)]) : W p l e room_1 s m #[Value.ref sb] below meth c H locs 68 6290 Q (F0 m 489 ls []) := by
  have hx := C.1.1
  have hb := C.1.2.1
  have hA : ∀ q : Nat, s.heap.size ≤ q → (fun q : Nat => s.heap.size ≤ q) q := fun _ h => h
  have hbA : ¬ (fun q : Nat => s.heap.size ≤ q) sb := Nat.not_le.mpr hbl
  unfold V_law_c13 at h
  refine lv_aload_n (pc := 489) hx hb dL_law_489 rfl (lv_at hl 1 rfl) ?_
  refine x_calli (pc := 490) C I hA (x_liftiX [] (wR cI cZ r N) (fun v => (v, N)) (fun v => rfl) rfl (m_X5_makespan h)) c_RL_68 wL_0 rfl ⟨Nat.le_of_ble_eq_true rfl, Nat.le_of_ble_eq_true rfl⟩ ⟨rfl, rfl⟩ ⟨Nat.le_of_ble_eq_true rfl, Nat.le_of_ble_eq_true rfl⟩ (As := []) rfl hl.1 rfl (Nat.le_of_ble_eq_true rfl) dL_law_490 (fun r1 u2 H locs h I => ?_)
  obtain ⟨⟨M2, T3⟩, rfl, h⟩ := h
  refine lv_aload_n (pc := 493) hx hb dL_law_493 rfl (lv_at hl 2 rfl) ?_
  refine x_calli (pc := 494) C I hA (x_liftiX (wO cI cZ x a b (M2, T3)) [] (fun v => ((M2, T3), v)) (fun v => wL_r) rfl (m_X6_makespan h)) c_RL_71 wL_49 rfl ⟨Nat.le_of_ble_eq_true rfl, Nat.le_of_ble_eq_true rfl⟩ ⟨rfl, rfl⟩ ⟨Nat.le_of_ble_eq_true rfl, Nat.le_of_ble_eq_true rfl⟩ (As := []) rfl hl.1 rfl (Nat.le_of_ble_eq_true rfl) dL_law_494 (fun r4 u2 H locs h I => ?_)
  obtain ⟨N5, rfl, h⟩ := h
  refine lv_icmp_eq (pc := 497) (tgt := 784) hx hb dL_law_497 (by decide) (fun g6 => ?_) (fun g6 => ?_)
  · have h := h.1 g6
    exact hK M2 T3 N5 _ _ _ h I (lv_sub hl [0, 1, 2, 3] rfl)
  · have h := h.2 g6
    refine lv_iconst (pc := 500) (v := 0) hx hb dL_law_500 (by decide) ?_
    exact absurd h id
def V_law_c14 (xs : Nat → Int32) (L : Nat) (K : xM → xM → xM → Prop) (M T N : xM) (x3 : Int32) : Prop := (V_X5_attemptCount M T  (fun r1 (u2 : xM × xM) => (V_X6_attemptCount N  (fun r4 N5 => ((r1 = r4 → (K u2.1 u2.2 N5)) ∧ (¬ r1 = r4 → False))))))
set_option maxHeartbeats 4000000 in
set_option maxRecDepth 100000 in
theorem k_law_c14 {p : Program} {l : Launch} {e : Env} {s : State} {m : MethodId} {below : List Frame} {meth : Method} {c : Code} {D : va_G} {cI cZ : ClassId} {x : Nat} {a b r : Nat → Nat} {sb L : Nat} {xs : Nat → Int32} {Q : State → Prop} {K : xM → xM → xM → Prop} {x3 : Int32} (C : xC p s m #[Value.ref sb] c code 4 RL D cI cZ) (hX : va_X sb L xs s s.heap) (hbl : sb < s.heap.size) (hK : ∀ (M T N : xM) (H : Heap) (locs : List Loc) (ls : Array Slot), K M T N → xI D (wL cI cZ x a b r ((M, T), N)) (fun q : Nat => s.heap.size ≤ q) s.heap H locs → lv_has ls 4 [(0, .ref sb), (1, .ref x), (2, .ref (r 0)), (3, .int x3)] → W p l e room_1 s m #[Value.ref sb] below meth c H locs 68 6290 Q (F0 m 784 ls [])) {M T N : xM} {H : Heap} {locs : List Loc} {ls : Array Slot} (h : V_law_c14 xs L K M T N x3) (I : xI D (wL cI cZ x a b r ((M, T), N)) (fun q : Nat => s.heap.size ≤ q) s.heap H locs) (hl : lv_has ls 4 [(0, .ref sb), (1, .ref x), (2, .ref (r 0)), (3, .int x3)]) : W p l e room_1 s m #[Value.ref sb] below meth c H locs 68 6290 Q (F0 m 502 ls []) := by
  have hx := C.1.1
  have hb := C.1.2.1
  have hA : ∀ q : Nat, s.heap.size ≤ q → (fun q : Nat => s.heap.size ≤ q) q := fun _ h => h
  have hbA : ¬ (fun q : Nat => s.heap.size ≤ q) sb := Nat.not_le.mpr hbl
  unfold V_law_c14 at h
  refine lv_aload_n (pc := 502) hx hb dL_law_502 rfl (lv_at hl 1 rfl) ?_
  refine x_calli (pc := 503) C I hA (x_liftiX [] (wR cI cZ r N) (fun v => (v, N)) (fun v => rfl) rfl (m_X5_attemptCount h)) c_RL_72 wL_0 rfl ⟨Nat.le_of_ble_eq_true rfl, Nat.le_of_ble_eq_true rfl⟩ ⟨rfl, rfl⟩ ⟨Nat.le_of_ble_eq_true rfl, Nat.le_of_ble_eq_true rfl⟩ (As := []) rfl hl.1 rfl (Nat.le_of_ble_eq_true rfl) dL_law_503 (fun r1 u2 H locs h I => ?_)
  obtain ⟨⟨M2, T3⟩, rfl, h⟩ := h
  refine lv_aload_n (pc := 506) hx hb dL_law_506 rfl (lv_at hl 2 rfl) ?_
  refine x_calli (pc := 507) C I hA (x_liftiX (wO cI cZ x a b (M2, T3)) [] (fun v => ((M2, T3), v)) (fun v => wL_r) rfl (m_X6_attemptCount h)) c_RL_75 wL_49 rfl ⟨Nat.le_of_ble_eq_true rfl, Nat.le_of_ble_eq_true rfl⟩ ⟨rfl, rfl⟩ ⟨Nat.le_of_ble_eq_true rfl, Nat.le_of_ble_eq_true rfl⟩ (As := []) rfl hl.1 rfl (Nat.le_of_ble_eq_true rfl) dL_law_507 (fun r4 u2 H locs h I => ?_)
  obtain ⟨N5, rfl, h⟩ := h
  refine lv_icmp_eq (pc := 510) (tgt := 784) hx hb dL_law_510 (by decide) (fun g6 => ?_) (fun g6 => ?_)
  · have h := h.1 g6
    exact hK M2 T3 N5 _ _ _ h I (lv_sub hl [0, 1, 2, 3] rfl)
  · have h := h.2 g6
    refine lv_iconst (pc := 513) (v := 0) hx hb dL_law_513 (by decide) ?_
    exact absurd h id
def V_law_c15 (xs : Nat → Int32) (L : Nat) (K : xM → xM → xM → Prop) (M T N : xM) (x3 : Int32) : Prop := (vp_in (x3 + 1) L ∧ (V_X5_attemptTask M T (xs ((x3 + 1)).toNatClampNeg) (fun r2 (u2 : xM × xM) => (vp_in (x3 + 1) L ∧ (V_X6_attemptTask N (xs ((x3 + 1)).toNatClampNeg) (fun r6 N7 => ((r2 = r6 → (K u2.1 u2.2 N7)) ∧ (¬ r2 = r6 → False))))))))
set_option maxHeartbeats 4000000 in
set_option maxRecDepth 100000 in
theorem k_law_c15 {p : Program} {l : Launch} {e : Env} {s : State} {m : MethodId} {below : List Frame} {meth : Method} {c : Code} {D : va_G} {cI cZ : ClassId} {x : Nat} {a b r : Nat → Nat} {sb L : Nat} {xs : Nat → Int32} {Q : State → Prop} {K : xM → xM → xM → Prop} {x3 : Int32} (C : xC p s m #[Value.ref sb] c code 4 RL D cI cZ) (hX : va_X sb L xs s s.heap) (hbl : sb < s.heap.size) (hK : ∀ (M T N : xM) (H : Heap) (locs : List Loc) (ls : Array Slot), K M T N → xI D (wL cI cZ x a b r ((M, T), N)) (fun q : Nat => s.heap.size ≤ q) s.heap H locs → lv_has ls 4 [(0, .ref sb), (1, .ref x), (2, .ref (r 0)), (3, .int x3)] → W p l e room_1 s m #[Value.ref sb] below meth c H locs 68 6290 Q (F0 m 784 ls [])) {M T N : xM} {H : Heap} {locs : List Loc} {ls : Array Slot} (h : V_law_c15 xs L K M T N x3) (I : xI D (wL cI cZ x a b r ((M, T), N)) (fun q : Nat => s.heap.size ≤ q) s.heap H locs) (hl : lv_has ls 4 [(0, .ref sb), (1, .ref x), (2, .ref (r 0)), (3, .int x3)]) : W p l e room_1 s m #[Value.ref sb] below meth c H locs 68 6290 Q (F0 m 515 ls []) := by
  have hx := C.1.1
  have hb := C.1.2.1
  have hA : ∀ q : Nat, s.heap.size ≤ q → (fun q : Nat => s.heap.size ≤ q) q := fun _ h => h
  have hbA : ¬ (fun q : Nat => s.heap.size ≤ q) sb := Nat.not_le.mpr hbl
  unfold V_law_c15 at h
  refine lv_aload_n (pc := 515) hx hb dL_law_515 rfl (lv_at hl 1 rfl) ?_
  refine lv_aload_n (pc := 516) hx hb dL_law_516 rfl (lv_at hl 0 rfl) ?_
  refine lv_iload_n (pc := 517) hx hb dL_law_517 rfl (lv_at hl 3 rfl) ?_
  refine lv_iconst (pc := 518) (v := 1) hx hb dL_law_518 (by decide) ?_
  refine lv_iadd (pc := 519) hx hb dL_law_519 ?_
  obtain ⟨g1, h⟩ := h
  refine va_sld (pc := 520) hx hb hX hbl hbA I.2.2 g1 dL_law_520 ?_
  refine x_calli (pc := 521) C I hA (x_liftiX [] (wR cI cZ r N) (fun v => (v, N)) (fun v => rfl) rfl (m_X5_attemptTask h)) c_RL_76 wL_0 rfl ⟨Nat.le_of_ble_eq_true rfl, Nat.le_of_ble_eq_true rfl⟩ ⟨rfl, rfl⟩ ⟨Nat.le_of_ble_eq_true rfl, Nat.le_of_ble_eq_true rfl⟩ (As := [.int (xs ((x3 + 1)).toNatClampNeg)]) rfl hl.1 rfl (Nat.le_of_ble_eq_true rfl) dL_law_521 (fun r2 u2 H locs h I => ?_)
  obtain ⟨⟨M3, T4⟩, rfl, h⟩ := h
  refine lv_aload_n (pc := 524) hx hb dL_law_524 rfl (lv_at hl 2 rfl) ?_
  refine lv_aload_n (pc := 525) hx hb dL_law_525 rfl (lv_at hl 0 rfl) ?_
  refine lv_iload_n (pc := 526) hx hb dL_law_526 rfl (lv_at hl 3 rfl) ?_
  refine lv_iconst (pc := 527) (v := 1) hx hb dL_law_527 (by decide) ?_
  refine lv_iadd (pc := 528) hx hb dL_law_528 ?_
  obtain ⟨g5, h⟩ := h
  refine va_sld (pc := 529) hx hb hX hbl hbA I.2.2 g5 dL_law_529 ?_
  refine x_calli (pc := 530) C I hA (x_liftiX (wO cI cZ x a b (M3, T4)) [] (fun v => ((M3, T4), v)) (fun v => wL_r) rfl (m_X6_attemptTask h)) c_RL_79 wL_49 rfl ⟨Nat.le_of_ble_eq_true rfl, Nat.le_of_ble_eq_true rfl⟩ ⟨rfl, rfl⟩ ⟨Nat.le_of_ble_eq_true rfl, Nat.le_of_ble_eq_true rfl⟩ (As := [.int (xs ((x3 + 1)).toNatClampNeg)]) rfl hl.1 rfl (Nat.le_of_ble_eq_true rfl) dL_law_530 (fun r6 u2 H locs h I => ?_)
  obtain ⟨N7, rfl, h⟩ := h
  refine lv_icmp_eq (pc := 533) (tgt := 784) hx hb dL_law_533 (by decide) (fun g8 => ?_) (fun g8 => ?_)
  · have h := h.1 g8
    exact hK M3 T4 N7 _ _ _ h I (lv_sub hl [0, 1, 2, 3] rfl)
  · have h := h.2 g8
    refine lv_iconst (pc := 536) (v := 0) hx hb dL_law_536 (by decide) ?_
    exact absurd h id
def V_law_c16 (xs : Nat → Int32) (L : Nat) (K : xM → xM → xM → Prop) (M T N : xM) (x3 : Int32) : Prop := (vp_in (x3 + 1) L ∧ (V_X5_attemptNode M T (xs ((x3 + 1)).toNatClampNeg) (fun r2 (u2 : xM × xM) => (vp_in (x3 + 1) L ∧ (V_X6_attemptNode N (xs ((x3 + 1)).toNatClampNeg) (fun r6 N7 => ((r2 = r6 → (K u2.1 u2.2 N7)) ∧ (¬ r2 = r6 → False))))))))
set_option maxHeartbeats 4000000 in
set_option maxRecDepth 100000 in
theorem k_law_c16 {p : Program} {l : Launch} {e : Env} {s : State} {m : MethodId} {below : List Frame} {meth : Method} {c : Code} {D : va_G} {cI cZ : ClassId} {x : Nat} {a b r : Nat → Nat} {sb L : Nat} {xs : Nat → Int32} {Q : State → Prop} {K : xM → xM → xM → Prop} {x3 : Int32} (C : xC p s m #[Value.ref sb] c code 4 RL D cI cZ) (hX : va_X sb L xs s s.heap) (hbl : sb < s.heap.size) (hK : ∀ (M T N : xM) (H : Heap) (locs : List Loc) (ls : Array Slot), K M T N → xI D (wL cI cZ x a b r ((M, T), N)) (fun q : Nat => s.heap.size ≤ q) s.heap H locs → lv_has ls 4 [(0, .ref sb), (1, .ref x), (2, .ref (r 0)), (3, .int x3)] → W p l e room_1 s m #[Value.ref sb] below meth c H locs 68 6290 Q (F0 m 784 ls [])) {M T N : xM} {H : Heap} {locs : List Loc} {ls : Array Slot} (h : V_law_c16 xs L K M T N x3) (I : xI D (wL cI cZ x a b r ((M, T), N)) (fun q : Nat => s.heap.size ≤ q) s.heap H locs) (hl : lv_has ls 4 [(0, .ref sb), (1, .ref x), (2, .ref (r 0)), (3, .int x3)]) : W p l e room_1 s m #[Value.ref sb] below meth c H locs 68 6290 Q (F0 m 538 ls []) := by
  have hx := C.1.1
  have hb := C.1.2.1
  have hA : ∀ q : Nat, s.heap.size ≤ q → (fun q : Nat => s.heap.size ≤ q) q := fun _ h => h
  have hbA : ¬ (fun q : Nat => s.heap.size ≤ q) sb := Nat.not_le.mpr hbl
  unfold V_law_c16 at h
  refine lv_aload_n (pc := 538) hx hb dL_law_538 rfl (lv_at hl 1 rfl) ?_
  refine lv_aload_n (pc := 539) hx hb dL_law_539 rfl (lv_at hl 0 rfl) ?_
  refine lv_iload_n (pc := 540) hx hb dL_law_540 rfl (lv_at hl 3 rfl) ?_
  refine lv_iconst (pc := 541) (v := 1) hx hb dL_law_541 (by decide) ?_
  refine lv_iadd (pc := 542) hx hb dL_law_542 ?_
  obtain ⟨g1, h⟩ := h
  refine va_sld (pc := 543) hx hb hX hbl hbA I.2.2 g1 dL_law_543 ?_
  refine x_calli (pc := 544) C I hA (x_liftiX [] (wR cI cZ r N) (fun v => (v, N)) (fun v => rfl) rfl (m_X5_attemptNode h)) c_RL_80 wL_0 rfl ⟨Nat.le_of_ble_eq_true rfl, Nat.le_of_ble_eq_true rfl⟩ ⟨rfl, rfl⟩ ⟨Nat.le_of_ble_eq_true rfl, Nat.le_of_ble_eq_true rfl⟩ (As := [.int (xs ((x3 + 1)).toNatClampNeg)]) rfl hl.1 rfl (Nat.le_of_ble_eq_true rfl) dL_law_544 (fun r2 u2 H locs h I => ?_)
  obtain ⟨⟨M3, T4⟩, rfl, h⟩ := h
  refine lv_aload_n (pc := 547) hx hb dL_law_547 rfl (lv_at hl 2 rfl) ?_
  refine lv_aload_n (pc := 548) hx hb dL_law_548 rfl (lv_at hl 0 rfl) ?_
  refine lv_iload_n (pc := 549) hx hb dL_law_549 rfl (lv_at hl 3 rfl) ?_
  refine lv_iconst (pc := 550) (v := 1) hx hb dL_law_550 (by decide) ?_
  refine lv_iadd (pc := 551) hx hb dL_law_551 ?_
  obtain ⟨g5, h⟩ := h
  refine va_sld (pc := 552) hx hb hX hbl hbA I.2.2 g5 dL_law_552 ?_
  refine x_calli (pc := 553) C I hA (x_liftiX (wO cI cZ x a b (M3, T4)) [] (fun v => ((M3, T4), v)) (fun v => wL_r) rfl (m_X6_attemptNode h)) c_RL_83 wL_49 rfl ⟨Nat.le_of_ble_eq_true rfl, Nat.le_of_ble_eq_true rfl⟩ ⟨rfl, rfl⟩ ⟨Nat.le_of_ble_eq_true rfl, Nat.le_of_ble_eq_true rfl⟩ (As := [.int (xs ((x3 + 1)).toNatClampNeg)]) rfl hl.1 rfl (Nat.le_of_ble_eq_true rfl) dL_law_553 (fun r6 u2 H locs h I => ?_)
  obtain ⟨N7, rfl, h⟩ := h
  refine lv_icmp_eq (pc := 556) (tgt := 784) hx hb dL_law_556 (by decide) (fun g8 => ?_) (fun g8 => ?_)
  · have h := h.1 g8
    exact hK M3 T4 N7 _ _ _ h I (lv_sub hl [0, 1, 2, 3] rfl)
  · have h := h.2 g8
    refine lv_iconst (pc := 559) (v := 0) hx hb dL_law_559 (by decide) ?_
    exact absurd h id
def V_law_c17 (xs : Nat → Int32) (L : Nat) (K : xM → xM → xM → Prop) (M T N : xM) (x3 : Int32) : Prop := (vp_in (x3 + 1) L ∧ (V_X5_attemptState M T (xs ((x3 + 1)).toNatClampNeg) (fun r2 (u2 : xM × xM) => (vp_in (x3 + 1) L ∧ (V_X6_attemptState N (xs ((x3 + 1)).toNatClampNeg) (fun r6 N7 => ((r2 = r6 → (K u2.1 u2.2 N7)) ∧ (¬ r2 = r6 → False))))))))
set_option maxHeartbeats 4000000 in
set_option maxRecDepth 100000 in
theorem k_law_c17 {p : Program} {l : Launch} {e : Env} {s : State} {m : MethodId} {below : List Frame} {meth : Method} {c : Code} {D : va_G} {cI cZ : ClassId} {x : Nat} {a b r : Nat → Nat} {sb L : Nat} {xs : Nat → Int32} {Q : State → Prop} {K : xM → xM → xM → Prop} {x3 : Int32} (C : xC p s m #[Value.ref sb] c code 4 RL D cI cZ) (hX : va_X sb L xs s s.heap) (hbl : sb < s.heap.size) (hK : ∀ (M T N : xM) (H : Heap) (locs : List Loc) (ls : Array Slot), K M T N → xI D (wL cI cZ x a b r ((M, T), N)) (fun q : Nat => s.heap.size ≤ q) s.heap H locs → lv_has ls 4 [(0, .ref sb), (1, .ref x), (2, .ref (r 0)), (3, .int x3)] → W p l e room_1 s m #[Value.ref sb] below meth c H locs 68 6290 Q (F0 m 784 ls [])) {M T N : xM} {H : Heap} {locs : List Loc} {ls : Array Slot} (h : V_law_c17 xs L K M T N x3) (I : xI D (wL cI cZ x a b r ((M, T), N)) (fun q : Nat => s.heap.size ≤ q) s.heap H locs) (hl : lv_has ls 4 [(0, .ref sb), (1, .ref x), (2, .ref (r 0)), (3, .int x3)]) : W p l e room_1 s m #[Value.ref sb] below meth c H locs 68 6290 Q (F0 m 561 ls []) := by
  have hx := C.1.1
  have hb := C.1.2.1
  have hA : ∀ q : Nat, s.heap.size ≤ q → (fun q : Nat => s.heap.size ≤ q) q := fun _ h => h
  have hbA : ¬ (fun q : Nat => s.heap.size ≤ q) sb := Nat.not_le.mpr hbl
  unfold V_law_c17 at h
  refine lv_aload_n (pc := 561) hx hb dL_law_561 rfl (lv_at hl 1 rfl) ?_
  refine lv_aload_n (pc := 562) hx hb dL_law_562 rfl (lv_at hl 0 rfl) ?_
  refine lv_iload_n (pc := 563) hx hb dL_law_563 rfl (lv_at hl 3 rfl) ?_
  refine lv_iconst (pc := 564) (v := 1) hx hb dL_law_564 (by decide) ?_
  refine lv_iadd (pc := 565) hx hb dL_law_565 ?_
  obtain ⟨g1, h⟩ := h
  refine va_sld (pc := 566) hx hb hX hbl hbA I.2.2 g1 dL_law_566 ?_
  refine x_calli (pc := 567) C I hA (x_liftiX [] (wR cI cZ r N) (fun v => (v, N)) (fun v => rfl) rfl (m_X5_attemptState h)) c_RL_84 wL_0 rfl ⟨Nat.le_of_ble_eq_true rfl, Nat.le_of_ble_eq_true rfl⟩ ⟨rfl, rfl⟩ ⟨Nat.le_of_ble_eq_true rfl, Nat.le_of_ble_eq_true rfl⟩ (As := [.int (xs ((x3 + 1)).toNatClampNeg)]) rfl hl.1 rfl (Nat.le_of_ble_eq_true rfl) dL_law_567 (fun r2 u2 H locs h I => ?_)
  obtain ⟨⟨M3, T4⟩, rfl, h⟩ := h
  refine lv_aload_n (pc := 570) hx hb dL_law_570 rfl (lv_at hl 2 rfl) ?_
  refine lv_aload_n (pc := 571) hx hb dL_law_571 rfl (lv_at hl 0 rfl) ?_
  refine lv_iload_n (pc := 572) hx hb dL_law_572 rfl (lv_at hl 3 rfl) ?_
  refine lv_iconst (pc := 573) (v := 1) hx hb dL_law_573 (by decide) ?_
  refine lv_iadd (pc := 574) hx hb dL_law_574 ?_
  obtain ⟨g5, h⟩ := h
  refine va_sld (pc := 575) hx hb hX hbl hbA I.2.2 g5 dL_law_575 ?_
  refine x_calli (pc := 576) C I hA (x_liftiX (wO cI cZ x a b (M3, T4)) [] (fun v => ((M3, T4), v)) (fun v => wL_r) rfl (m_X6_attemptState h)) c_RL_87 wL_49 rfl ⟨Nat.le_of_ble_eq_true rfl, Nat.le_of_ble_eq_true rfl⟩ ⟨rfl, rfl⟩ ⟨Nat.le_of_ble_eq_true rfl, Nat.le_of_ble_eq_true rfl⟩ (As := [.int (xs ((x3 + 1)).toNatClampNeg)]) rfl hl.1 rfl (Nat.le_of_ble_eq_true rfl) dL_law_576 (fun r6 u2 H locs h I => ?_)
  obtain ⟨N7, rfl, h⟩ := h
  refine lv_icmp_eq (pc := 579) (tgt := 784) hx hb dL_law_579 (by decide) (fun g8 => ?_) (fun g8 => ?_)
  · have h := h.1 g8
    exact hK M3 T4 N7 _ _ _ h I (lv_sub hl [0, 1, 2, 3] rfl)
  · have h := h.2 g8
    refine lv_iconst (pc := 582) (v := 0) hx hb dL_law_582 (by decide) ?_
    exact absurd h id
def V_law_c18 (xs : Nat → Int32) (L : Nat) (K : xM → xM → xM → Prop) (M T N : xM) (x3 : Int32) : Prop := (vp_in (x3 + 1) L ∧ (V_X5_isSpeculative M T (xs ((x3 + 1)).toNatClampNeg) (fun r2 (u2 : xM × xM) => (vp_in (x3 + 1) L ∧ (V_X6_isSpeculative N (xs ((x3 + 1)).toNatClampNeg) (fun r6 N7 => ((r2 = r6 → (K u2.1 u2.2 N7)) ∧ (¬ r2 = r6 → False))))))))
set_option maxHeartbeats 4000000 in
set_option maxRecDepth 100000 in
theorem k_law_c18 {p : Program} {l : Launch} {e : Env} {s : State} {m : MethodId} {below : List Frame} {meth : Method} {c : Code} {D : va_G} {cI cZ : ClassId} {x : Nat} {a b r : Nat → Nat} {sb L : Nat} {xs : Nat → Int32} {Q : State → Prop} {K : xM → xM → xM → Prop} {x3 : Int32} (C : xC p s m #[Value.ref sb] c code 4 RL D cI cZ) (hX : va_X sb L xs s s.heap) (hbl : sb < s.heap.size) (hK : ∀ (M T N : xM) (H : Heap) (locs : List Loc) (ls : Array Slot), K M T N → xI D (wL cI cZ x a b r ((M, T), N)) (fun q : Nat => s.heap.size ≤ q) s.heap H locs → lv_has ls 4 [(0, .ref sb), (1, .ref x), (2, .ref (r 0)), (3, .int x3)] → W p l e room_1 s m #[Value.ref sb] below meth c H locs 68 6290 Q (F0 m 784 ls [])) {M T N : xM} {H : Heap} {locs : List Loc} {ls : Array Slot} (h : V_law_c18 xs L K M T N x3) (I : xI D (wL cI cZ x a b r ((M, T), N)) (fun q : Nat => s.heap.size ≤ q) s.heap H locs) (hl : lv_has ls 4 [(0, .ref sb), (1, .ref x), (2, .ref (r 0)), (3, .int x3)]) : W p l e room_1 s m #[Value.ref sb] below meth c H locs 68 6290 Q (F0 m 584 ls []) := by
  have hx := C.1.1
  have hb := C.1.2.1
  have hA : ∀ q : Nat, s.heap.size ≤ q → (fun q : Nat => s.heap.size ≤ q) q := fun _ h => h
  have hbA : ¬ (fun q : Nat => s.heap.size ≤ q) sb := Nat.not_le.mpr hbl
  unfold V_law_c18 at h
  refine lv_aload_n (pc := 584) hx hb dL_law_584 rfl (lv_at hl 1 rfl) ?_
  refine lv_aload_n (pc := 585) hx hb dL_law_585 rfl (lv_at hl 0 rfl) ?_
  refine lv_iload_n (pc := 586) hx hb dL_law_586 rfl (lv_at hl 3 rfl) ?_
  refine lv_iconst (pc := 587) (v := 1) hx hb dL_law_587 (by decide) ?_
  refine lv_iadd (pc := 588) hx hb dL_law_588 ?_
  obtain ⟨g1, h⟩ := h
  refine va_sld (pc := 589) hx hb hX hbl hbA I.2.2 g1 dL_law_589 ?_
  refine x_calli (pc := 590) C I hA (x_liftiX [] (wR cI cZ r N) (fun v => (v, N)) (fun v => rfl) rfl (m_X5_isSpeculative h)) c_RL_88 wL_0 rfl ⟨Nat.le_of_ble_eq_true rfl, Nat.le_of_ble_eq_true rfl⟩ ⟨rfl, rfl⟩ ⟨Nat.le_of_ble_eq_true rfl, Nat.le_of_ble_eq_true rfl⟩ (As := [.int (xs ((x3 + 1)).toNatClampNeg)]) rfl hl.1 rfl (Nat.le_of_ble_eq_true rfl) dL_law_590 (fun r2 u2 H locs h I => ?_)
  obtain ⟨⟨M3, T4⟩, rfl, h⟩ := h
  refine lv_aload_n (pc := 593) hx hb dL_law_593 rfl (lv_at hl 2 rfl) ?_
  refine lv_aload_n (pc := 594) hx hb dL_law_594 rfl (lv_at hl 0 rfl) ?_
  refine lv_iload_n (pc := 595) hx hb dL_law_595 rfl (lv_at hl 3 rfl) ?_
  refine lv_iconst (pc := 596) (v := 1) hx hb dL_law_596 (by decide) ?_
  refine lv_iadd (pc := 597) hx hb dL_law_597 ?_
  obtain ⟨g5, h⟩ := h
  refine va_sld (pc := 598) hx hb hX hbl hbA I.2.2 g5 dL_law_598 ?_
  refine x_calli (pc := 599) C I hA (x_liftiX (wO cI cZ x a b (M3, T4)) [] (fun v => ((M3, T4), v)) (fun v => wL_r) rfl (m_X6_isSpeculative h)) c_RL_91 wL_49 rfl ⟨Nat.le_of_ble_eq_true rfl, Nat.le_of_ble_eq_true rfl⟩ ⟨rfl, rfl⟩ ⟨Nat.le_of_ble_eq_true rfl, Nat.le_of_ble_eq_true rfl⟩ (As := [.int (xs ((x3 + 1)).toNatClampNeg)]) rfl hl.1 rfl (Nat.le_of_ble_eq_true rfl) dL_law_599 (fun r6 u2 H locs h I => ?_)
  obtain ⟨N7, rfl, h⟩ := h
  refine lv_icmp_eq (pc := 602) (tgt := 784) hx hb dL_law_602 (by decide) (fun g8 => ?_) (fun g8 => ?_)
  · have h := h.1 g8
    exact hK M3 T4 N7 _ _ _ h I (lv_sub hl [0, 1, 2, 3] rfl)
  · have h := h.2 g8
    refine lv_iconst (pc := 605) (v := 0) hx hb dL_law_605 (by decide) ?_
    exact absurd h id
def V_law_c19 (xs : Nat → Int32) (L : Nat) (K : xM → xM → xM → Prop) (M T N : xM) (x3 : Int32) : Prop := (vp_in (x3 + 1) L ∧ (V_X5_progress M T (xs ((x3 + 1)).toNatClampNeg) (fun r2 (u2 : xM × xM) => (vp_in (x3 + 1) L ∧ (V_X6_progress N (xs ((x3 + 1)).toNatClampNeg) (fun r6 N7 => ((r2 = r6 → (K u2.1 u2.2 N7)) ∧ (¬ r2 = r6 → False))))))))
set_option maxHeartbeats 4000000 in
set_option maxRecDepth 100000 in
theorem k_law_c19 {p : Program} {l : Launch} {e : Env} {s : State} {m : MethodId} {below : List Frame} {meth : Method} {c : Code} {D : va_G} {cI cZ : ClassId} {x : Nat} {a b r : Nat → Nat} {sb L : Nat} {xs : Nat → Int32} {Q : State → Prop} {K : xM → xM → xM → Prop} {x3 : Int32} (C : xC p s m #[Value.ref sb] c code 4 RL D cI cZ) (hX : va_X sb L xs s s.heap) (hbl : sb < s.heap.size) (hK : ∀ (M T N : xM) (H : Heap) (locs : List Loc) (ls : Array Slot), K M T N → xI D (wL cI cZ x a b r ((M, T), N)) (fun q : Nat => s.heap.size ≤ q) s.heap H locs → lv_has ls 4 [(0, .ref sb), (1, .ref x), (2, .ref (r 0)), (3, .int x3)] → W p l e room_1 s m #[Value.ref sb] below meth c H locs 68 6290 Q (F0 m 784 ls [])) {M T N : xM} {H : Heap} {locs : List Loc} {ls : Array Slot} (h : V_law_c19 xs L K M T N x3) (I : xI D (wL cI cZ x a b r ((M, T), N)) (fun q : Nat => s.heap.size ≤ q) s.heap H locs) (hl : lv_has ls 4 [(0, .ref sb), (1, .ref x), (2, .ref (r 0)), (3, .int x3)]) : W p l e room_1 s m #[Value.ref sb] below meth c H locs 68 6290 Q (F0 m 607 ls []) := by
  have hx := C.1.1
  have hb := C.1.2.1
  have hA : ∀ q : Nat, s.heap.size ≤ q → (fun q : Nat => s.heap.size ≤ q) q := fun _ h => h
  have hbA : ¬ (fun q : Nat => s.heap.size ≤ q) sb := Nat.not_le.mpr hbl
  unfold V_law_c19 at h
  refine lv_aload_n (pc := 607) hx hb dL_law_607 rfl (lv_at hl 1 rfl) ?_
  refine lv_aload_n (pc := 608) hx hb dL_law_608 rfl (lv_at hl 0 rfl) ?_
  refine lv_iload_n (pc := 609) hx hb dL_law_609 rfl (lv_at hl 3 rfl) ?_
  refine lv_iconst (pc := 610) (v := 1) hx hb dL_law_610 (by decide) ?_
  refine lv_iadd (pc := 611) hx hb dL_law_611 ?_
  obtain ⟨g1, h⟩ := h
  refine va_sld (pc := 612) hx hb hX hbl hbA I.2.2 g1 dL_law_612 ?_
  refine x_calli (pc := 613) C I hA (x_liftiX [] (wR cI cZ r N) (fun v => (v, N)) (fun v => rfl) rfl (m_X5_progress h)) c_RL_92 wL_0 rfl ⟨Nat.le_of_ble_eq_true rfl, Nat.le_of_ble_eq_true rfl⟩ ⟨rfl, rfl⟩ ⟨Nat.le_of_ble_eq_true rfl, Nat.le_of_ble_eq_true rfl⟩ (As := [.int (xs ((x3 + 1)).toNatClampNeg)]) rfl hl.1 rfl (Nat.le_of_ble_eq_true rfl) dL_law_613 (fun r2 u2 H locs h I => ?_)
  obtain ⟨⟨M3, T4⟩, rfl, h⟩ := h
  refine lv_aload_n (pc := 616) hx hb dL_law_616 rfl (lv_at hl 2 rfl) ?_
  refine lv_aload_n (pc := 617) hx hb dL_law_617 rfl (lv_at hl 0 rfl) ?_
  refine lv_iload_n (pc := 618) hx hb dL_law_618 rfl (lv_at hl 3 rfl) ?_
  refine lv_iconst (pc := 619) (v := 1) hx hb dL_law_619 (by decide) ?_
  refine lv_iadd (pc := 620) hx hb dL_law_620 ?_
  obtain ⟨g5, h⟩ := h
  refine va_sld (pc := 621) hx hb hX hbl hbA I.2.2 g5 dL_law_621 ?_
  refine x_calli (pc := 622) C I hA (x_liftiX (wO cI cZ x a b (M3, T4)) [] (fun v => ((M3, T4), v)) (fun v => wL_r) rfl (m_X6_progress h)) c_RL_95 wL_49 rfl ⟨Nat.le_of_ble_eq_true rfl, Nat.le_of_ble_eq_true rfl⟩ ⟨rfl, rfl⟩ ⟨Nat.le_of_ble_eq_true rfl, Nat.le_of_ble_eq_true rfl⟩ (As := [.int (xs ((x3 + 1)).toNatClampNeg)]) rfl hl.1 rfl (Nat.le_of_ble_eq_true rfl) dL_law_622 (fun r6 u2 H locs h I => ?_)
  obtain ⟨N7, rfl, h⟩ := h
  refine lv_icmp_eq (pc := 625) (tgt := 784) hx hb dL_law_625 (by decide) (fun g8 => ?_) (fun g8 => ?_)
  · have h := h.1 g8
    exact hK M3 T4 N7 _ _ _ h I (lv_sub hl [0, 1, 2, 3] rfl)
  · have h := h.2 g8
    refine lv_iconst (pc := 628) (v := 0) hx hb dL_law_628 (by decide) ?_
    exact absurd h id
def V_law_c20 (xs : Nat → Int32) (L : Nat) (K : xM → xM → xM → Prop) (M T N : xM) (x3 : Int32) : Prop := (vp_in (x3 + 1) L ∧ (V_X5_remainingTime M T (xs ((x3 + 1)).toNatClampNeg) (fun r2 (u2 : xM × xM) => (vp_in (x3 + 1) L ∧ (V_X6_remainingTime N (xs ((x3 + 1)).toNatClampNeg) (fun r6 N7 => ((r2 = r6 → (K u2.1 u2.2 N7)) ∧ (¬ r2 = r6 → False))))))))
set_option maxHeartbeats 4000000 in
set_option maxRecDepth 100000 in
theorem k_law_c20 {p : Program} {l : Launch} {e : Env} {s : State} {m : MethodId} {below : List Frame} {meth : Method} {c : Code} {D : va_G} {cI cZ : ClassId} {x : Nat} {a b r : Nat → Nat} {sb L : Nat} {xs : Nat → Int32} {Q : State → Prop} {K : xM → xM → xM → Prop} {x3 : Int32} (C : xC p s m #[Value.ref sb] c code 4 RL D cI cZ) (hX : va_X sb L xs s s.heap) (hbl : sb < s.heap.size) (hK : ∀ (M T N : xM) (H : Heap) (locs : List Loc) (ls : Array Slot), K M T N → xI D (wL cI cZ x a b r ((M, T), N)) (fun q : Nat => s.heap.size ≤ q) s.heap H locs → lv_has ls 4 [(0, .ref sb), (1, .ref x), (2, .ref (r 0)), (3, .int x3)] → W p l e room_1 s m #[Value.ref sb] below meth c H locs 68 6290 Q (F0 m 784 ls [])) {M T N : xM} {H : Heap} {locs : List Loc} {ls : Array Slot} (h : V_law_c20 xs L K M T N x3) (I : xI D (wL cI cZ x a b r ((M, T), N)) (fun q : Nat => s.heap.size ≤ q) s.heap H locs) (hl : lv_has ls 4 [(0, .ref sb), (1, .ref x), (2, .ref (r 0)), (3, .int x3)]) : W p l e room_1 s m #[Value.ref sb] below meth c H locs 68 6290 Q (F0 m 630 ls []) := by
  have hx := C.1.1
  have hb := C.1.2.1
  have hA : ∀ q : Nat, s.heap.size ≤ q → (fun q : Nat => s.heap.size ≤ q) q := fun _ h => h
  have hbA : ¬ (fun q : Nat => s.heap.size ≤ q) sb := Nat.not_le.mpr hbl
  unfold V_law_c20 at h
  refine lv_aload_n (pc := 630) hx hb dL_law_630 rfl (lv_at hl 1 rfl) ?_
  refine lv_aload_n (pc := 631) hx hb dL_law_631 rfl (lv_at hl 0 rfl) ?_
  refine lv_iload_n (pc := 632) hx hb dL_law_632 rfl (lv_at hl 3 rfl) ?_
  refine lv_iconst (pc := 633) (v := 1) hx hb dL_law_633 (by decide) ?_
  refine lv_iadd (pc := 634) hx hb dL_law_634 ?_
  obtain ⟨g1, h⟩ := h
  refine va_sld (pc := 635) hx hb hX hbl hbA I.2.2 g1 dL_law_635 ?_
  refine x_calli (pc := 636) C I hA (x_liftiX [] (wR cI cZ r N) (fun v => (v, N)) (fun v => rfl) rfl (m_X5_remainingTime h)) c_RL_96 wL_0 rfl ⟨Nat.le_of_ble_eq_true rfl, Nat.le_of_ble_eq_true rfl⟩ ⟨rfl, rfl⟩ ⟨Nat.le_of_ble_eq_true rfl, Nat.le_of_ble_eq_true rfl⟩ (As := [.int (xs ((x3 + 1)).toNatClampNeg)]) rfl hl.1 rfl (Nat.le_of_ble_eq_true rfl) dL_law_636 (fun r2 u2 H locs h I => ?_)
  obtain ⟨⟨M3, T4⟩, rfl, h⟩ := h
  refine lv_aload_n (pc := 639) hx hb dL_law_639 rfl (lv_at hl 2 rfl) ?_
  refine lv_aload_n (pc := 640) hx hb dL_law_640 rfl (lv_at hl 0 rfl) ?_
  refine lv_iload_n (pc := 641) hx hb dL_law_641 rfl (lv_at hl 3 rfl) ?_
  refine lv_iconst (pc := 642) (v := 1) hx hb dL_law_642 (by decide) ?_
  refine lv_iadd (pc := 643) hx hb dL_law_643 ?_
  obtain ⟨g5, h⟩ := h
  refine va_sld (pc := 644) hx hb hX hbl hbA I.2.2 g5 dL_law_644 ?_
  refine x_calli (pc := 645) C I hA (x_liftiX (wO cI cZ x a b (M3, T4)) [] (fun v => ((M3, T4), v)) (fun v => wL_r) rfl (m_X6_remainingTime h)) c_RL_99 wL_49 rfl ⟨Nat.le_of_ble_eq_true rfl, Nat.le_of_ble_eq_true rfl⟩ ⟨rfl, rfl⟩ ⟨Nat.le_of_ble_eq_true rfl, Nat.le_of_ble_eq_true rfl⟩ (As := [.int (xs ((x3 + 1)).toNatClampNeg)]) rfl hl.1 rfl (Nat.le_of_ble_eq_true rfl) dL_law_645 (fun r6 u2 H locs h I => ?_)
  obtain ⟨N7, rfl, h⟩ := h
  refine lv_icmp_eq (pc := 648) (tgt := 784) hx hb dL_law_648 (by decide) (fun g8 => ?_) (fun g8 => ?_)
  · have h := h.1 g8
    exact hK M3 T4 N7 _ _ _ h I (lv_sub hl [0, 1, 2, 3] rfl)
  · have h := h.2 g8
    refine lv_iconst (pc := 651) (v := 0) hx hb dL_law_651 (by decide) ?_
    exact absurd h id
def V_law_c21 (xs : Nat → Int32) (L : Nat) (K : xM → xM → xM → Prop) (M T N : xM) (x3 : Int32) : Prop := (vp_in (x3 + 1) L ∧ (V_X5_nodeScore M T (xs ((x3 + 1)).toNatClampNeg) (fun r2 (u2 : xM × xM) => (vp_in (x3 + 1) L ∧ (V_X6_nodeScore N (xs ((x3 + 1)).toNatClampNeg) (fun r6 N7 => ((r2 = r6 → (K u2.1 u2.2 N7)) ∧ (¬ r2 = r6 → False))))))))
set_option maxHeartbeats 4000000 in
set_option maxRecDepth 100000 in
theorem k_law_c21 {p : Program} {l : Launch} {e : Env} {s : State} {m : MethodId} {below : List Frame} {meth : Method} {c : Code} {D : va_G} {cI cZ : ClassId} {x : Nat} {a b r : Nat → Nat} {sb L : Nat} {xs : Nat → Int32} {Q : State → Prop} {K : xM → xM → xM → Prop} {x3 : Int32} (C : xC p s m #[Value.ref sb] c code 4 RL D cI cZ) (hX : va_X sb L xs s s.heap) (hbl : sb < s.heap.size) (hK : ∀ (M T N : xM) (H : Heap) (locs : List Loc) (ls : Array Slot), K M T N → xI D (wL cI cZ x a b r ((M, T), N)) (fun q : Nat => s.heap.size ≤ q) s.heap H locs → lv_has ls 4 [(0, .ref sb), (1, .ref x), (2, .ref (r 0)), (3, .int x3)] → W p l e room_1 s m #[Value.ref sb] below meth c H locs 68 6290 Q (F0 m 784 ls [])) {M T N : xM} {H : Heap} {locs : List Loc} {ls : Array Slot} (h : V_law_c21 xs L K M T N x3) (I : xI D (wL cI cZ x a b r ((M, T), N)) (fun q : Nat => s.heap.size ≤ q) s.heap H locs) (hl : lv_has ls 4 [(0, .ref sb), (1, .ref x), (2, .ref (r 0)), (3, .int x3)]) : W p l e room_1 s m #[Value.ref sb] below meth c H locs 68 6290 Q (F0 m 653 ls []) := by
  have hx := C.1.1
  have hb := C.1.2.1
  have hA : ∀ q : Nat, s.heap.size ≤ q → (fun q : Nat => s.heap.size ≤ q) q := fun _ h => h
  have hbA : ¬ (fun q : Nat => s.heap.size ≤ q) sb := Nat.not_le.mpr hbl
  unfold V_law_c21 at h
  refine lv_aload_n (pc := 653) hx hb dL_law_653 rfl (lv_at hl 1 rfl) ?_
  refine lv_aload_n (pc := 654) hx hb dL_law_654 rfl (lv_at hl 0 rfl) ?_
  refine lv_iload_n (pc := 655) hx hb dL_law_655 rfl (lv_at hl 3 rfl) ?_
  refine lv_iconst (pc := 656) (v := 1) hx hb dL_law_656 (by decide) ?_
  refine lv_iadd (pc := 657) hx hb dL_law_657 ?_
  obtain ⟨g1, h⟩ := h
  refine va_sld (pc := 658) hx hb hX hbl hbA I.2.2 g1 dL_law_658 ?_
  refine x_calli (pc := 659) C I hA (x_liftiX [] (wR cI cZ r N) (fun v => (v, N)) (fun v => rfl) rfl (m_X5_nodeScore h)) c_RL_100 wL_0 rfl ⟨Nat.le_of_ble_eq_true rfl, Nat.le_of_ble_eq_true rfl⟩ ⟨rfl, rfl⟩ ⟨Nat.le_of_ble_eq_true rfl, Nat.le_of_ble_eq_true rfl⟩ (As := [.int (xs ((x3 + 1)).toNatClampNeg)]) rfl hl.1 rfl (Nat.le_of_ble_eq_true rfl) dL_law_659 (fun r2 u2 H locs h I => ?_)
  obtain ⟨⟨M3, T4⟩, rfl, h⟩ := h
  refine lv_aload_n (pc := 662) hx hb dL_law_662 rfl (lv_at hl 2 rfl) ?_
  refine lv_aload_n (pc := 663) hx hb dL_law_663 rfl (lv_at hl 0 rfl) ?_
  refine lv_iload_n (pc := 664) hx hb dL_law_664 rfl (lv_at hl 3 rfl) ?_
  refine lv_iconst (pc := 665) (v := 1) hx hb dL_law_665 (by decide) ?_
  refine lv_iadd (pc := 666) hx hb dL_law_666 ?_
  obtain ⟨g5, h⟩ := h
  refine va_sld (pc := 667) hx hb hX hbl hbA I.2.2 g5 dL_law_667 ?_
  refine x_calli (pc := 668) C I hA (x_liftiX (wO cI cZ x a b (M3, T4)) [] (fun v => ((M3, T4), v)) (fun v => wL_r) rfl (m_X6_nodeScore h)) c_RL_103 wL_49 rfl ⟨Nat.le_of_ble_eq_true rfl, Nat.le_of_ble_eq_true rfl⟩ ⟨rfl, rfl⟩ ⟨Nat.le_of_ble_eq_true rfl, Nat.le_of_ble_eq_true rfl⟩ (As := [.int (xs ((x3 + 1)).toNatClampNeg)]) rfl hl.1 rfl (Nat.le_of_ble_eq_true rfl) dL_law_668 (fun r6 u2 H locs h I => ?_)
  obtain ⟨N7, rfl, h⟩ := h
  refine lv_icmp_eq (pc := 671) (tgt := 784) hx hb dL_law_671 (by decide) (fun g8 => ?_) (fun g8 => ?_)
  · have h := h.1 g8
    exact hK M3 T4 N7 _ _ _ h I (lv_sub hl [0, 1, 2, 3] rfl)
  · have h := h.2 g8
    refine lv_iconst (pc := 674) (v := 0) hx hb dL_law_674 (by decide) ?_
    exact absurd h id
def V_law_c22 (xs : Nat → Int32) (L : Nat) (K : xM → xM → xM → Prop) (M T N : xM) (x3 : Int32) : Prop := (vp_in (x3 + 1) L ∧ (V_X5_isSlowNode M T (xs ((x3 + 1)).toNatClampNeg) (fun r2 (u2 : xM × xM) => (vp_in (x3 + 1) L ∧ (V_X6_isSlowNode N (xs ((x3 + 1)).toNatClampNeg) (fun r6 N7 => ((r2 = r6 → (K u2.1 u2.2 N7)) ∧ (¬ r2 = r6 → False))))))))
set_option maxHeartbeats 4000000 in
set_option maxRecDepth 100000 in
theorem k_law_c22 {p : Program} {l : Launch} {e : Env} {s : State} {m : MethodId} {below : List Frame} {meth : Method} {c : Code} {D : va_G} {cI cZ : ClassId} {x : Nat} {a b r : Nat → Nat} {sb L : Nat} {xs : Nat → Int32} {Q : State → Prop} {K : xM → xM → xM → Prop} {x3 : Int32} (C : xC p s m #[Value.ref sb] c code 4 RL D cI cZ) (hX : va_X sb L xs s s.heap) (hbl : sb < s.heap.size) (hK : ∀ (M T N : xM) (H : Heap) (locs : List Loc) (ls : Array Slot), K M T N → xI D (wL cI cZ x a b r ((M, T), N)) (fun q : Nat => s.heap.size ≤ q) s.heap H locs → lv_has ls 4 [(0, .ref sb), (1, .ref x), (2, .ref (r 0)), (3, .int x3)] → W p l e room_1 s m #[Value.ref sb] below meth c H locs 68 6290 Q (F0 m 784 ls [])) {M T N : xM} {H : Heap} {locs : List Loc} {ls : Array Slot} (h : V_law_c22 xs L K M T N x3) (I : xI D (wL cI cZ x a b r ((M, T), N)) (fun q : Nat => s.heap.size ≤ q) s.heap H locs) (hl : lv_has ls 4 [(0, .ref sb), (1, .ref x), (2, .ref (r 0)), (3, .int x3)]) : W p l e room_1 s m #[Value.ref sb] below meth c H locs 68 6290 Q (F0 m 676 ls []) := by
  have hx := C.1.1
  have hb := C.1.2.1
  have hA : ∀ q : Nat, s.heap.size ≤ q → (fun q : Nat => s.heap.size ≤ q) q := fun _ h => h
  have hbA : ¬ (fun q : Nat => s.heap.size ≤ q) sb := Nat.not_le.mpr hbl
  unfold V_law_c22 at h
  refine lv_aload_n (pc := 676) hx hb dL_law_676 rfl (lv_at hl 1 rfl) ?_
  refine lv_aload_n (pc := 677) hx hb dL_law_677 rfl (lv_at hl 0 rfl) ?_
  refine lv_iload_n (pc := 678) hx hb dL_law_678 rfl (lv_at hl 3 rfl) ?_
  refine lv_iconst (pc := 679) (v := 1) hx hb dL_law_679 (by decide) ?_
  refine lv_iadd (pc := 680) hx hb dL_law_680 ?_
  obtain ⟨g1, h⟩ := h
  refine va_sld (pc := 681) hx hb hX hbl hbA I.2.2 g1 dL_law_681 ?_
  refine x_calli (pc := 682) C I hA (x_liftiX [] (wR cI cZ r N) (fun v => (v, N)) (fun v => rfl) rfl (m_X5_isSlowNode h)) c_RL_104 wL_0 rfl ⟨Nat.le_of_ble_eq_true rfl, Nat.le_of_ble_eq_true rfl⟩ ⟨rfl, rfl⟩ ⟨Nat.le_of_ble_eq_true rfl, Nat.le_of_ble_eq_true rfl⟩ (As := [.int (xs ((x3 + 1)).toNatClampNeg)]) rfl hl.1 rfl (Nat.le_of_ble_eq_true rfl) dL_law_682 (fun r2 u2 H locs h I => ?_)
  obtain ⟨⟨M3, T4⟩, rfl, h⟩ := h
  refine lv_aload_n (pc := 685) hx hb dL_law_685 rfl (lv_at hl 2 rfl) ?_
  refine lv_aload_n (pc := 686) hx hb dL_law_686 rfl (lv_at hl 0 rfl) ?_
  refine lv_iload_n (pc := 687) hx hb dL_law_687 rfl (lv_at hl 3 rfl) ?_
  refine lv_iconst (pc := 688) (v := 1) hx hb dL_law_688 (by decide) ?_
  refine lv_iadd (pc := 689) hx hb dL_law_689 ?_
  obtain ⟨g5, h⟩ := h
  refine va_sld (pc := 690) hx hb hX hbl hbA I.2.2 g5 dL_law_690 ?_
  refine x_calli (pc := 691) C I hA (x_liftiX (wO cI cZ x a b (M3, T4)) [] (fun v => ((M3, T4), v)) (fun v => wL_r) rfl (m_X6_isSlowNode h)) c_RL_107 wL_49 rfl ⟨Nat.le_of_ble_eq_true rfl, Nat.le_of_ble_eq_true rfl⟩ ⟨rfl, rfl⟩ ⟨Nat.le_of_ble_eq_true rfl, Nat.le_of_ble_eq_true rfl⟩ (As := [.int (xs ((x3 + 1)).toNatClampNeg)]) rfl hl.1 rfl (Nat.le_of_ble_eq_true rfl) dL_law_691 (fun r6 u2 H locs h I => ?_)
  obtain ⟨N7, rfl, h⟩ := h
  refine lv_icmp_eq (pc := 694) (tgt := 784) hx hb dL_law_694 (by decide) (fun g8 => ?_) (fun g8 => ?_)
  · have h := h.1 g8
    exact hK M3 T4 N7 _ _ _ h I (lv_sub hl [0, 1, 2, 3] rfl)
  · have h := h.2 g8
    refine lv_iconst (pc := 697) (v := 0) hx hb dL_law_697 (by decide) ?_
    exact absurd h id
def V_law_c23 (xs : Nat → Int32) (L : Nat) (K : xM → xM → xM → Prop) (M T N : xM) (x3 : Int32) : Prop := (vp_in (x3 + 1) L ∧ (V_X5_runningOn M T (xs ((x3 + 1)).toNatClampNeg) (fun r2 (u2 : xM × xM) => (vp_in (x3 + 1) L ∧ (V_X6_runningOn N (xs ((x3 + 1)).toNatClampNeg) (fun r6 N7 => ((r2 = r6 → (K u2.1 u2.2 N7)) ∧ (¬ r2 = r6 → False))))))))
set_option maxHeartbeats 4000000 in
set_option maxRecDepth 100000 in
theorem k_law_c23 {p : Program} {l : Launch} {e : Env} {s : State} {m : MethodId} {below : List Frame} {meth : Method} {c : Code} {D : va_G} {cI cZ : ClassId} {x : Nat} {a b r : Nat → Nat} {sb L : Nat} {xs : Nat → Int32} {Q : State → Prop} {K : xM → xM → xM → Prop} {x3 : Int32} (C : xC p s m #[Value.ref sb] c code 4 RL D cI cZ) (hX : va_X sb L xs s s.heap) (hbl : sb < s.heap.size) (hK : ∀ (M T N : xM) (H : Heap) (locs : List Loc) (ls : Array Slot), K M T N → xI D (wL cI cZ x a b r ((M, T), N)) (fun q : Nat => s.heap.size ≤ q) s.heap H locs → lv_has ls 4 [(0, .ref sb), (1, .ref x), (2, .ref (r 0)), (3, .int x3)] → W p l e room_1 s m #[Value.ref sb] below meth c H locs 68 6290 Q (F0 m 784 ls [])) {M T N : xM} {H : Heap} {locs : List Loc} {ls : Array Slot} (h : V_law_c23 xs L K M T N x3) (I : xI D (wL cI cZ x a b r ((M, T), N)) (fun q : Nat => s.heap.size ≤ q) s.heap H locs) (hl : lv_has ls 4 [(0, .ref sb), (1, .ref x), (2, .ref (r 0)), (3, .int x3)]) : W p l e room_1 s m #[Value.ref sb] below meth c H locs 68 6290 Q (F0 m 699 ls []) := by
  have hx := C.1.1
  have hb := C.1.2.1
  have hA : ∀ q : Nat, s.heap.size ≤ q → (fun q : Nat => s.heap.size ≤ q) q := fun _ h => h
  have hbA : ¬ (fun q : Nat => s.heap.size ≤ q) sb := Nat.not_le.mpr hbl
  unfold V_law_c23 at h
  refine lv_aload_n (pc := 699) hx hb dL_law_699 rfl (lv_at hl 1 rfl) ?_
  refine lv_aload_n (pc := 700) hx hb dL_law_700 rfl (lv_at hl 0 rfl) ?_
  refine lv_iload_n (pc := 701) hx hb dL_law_701 rfl (lv_at hl 3 rfl) ?_
  refine lv_iconst (pc := 702) (v := 1) hx hb dL_law_702 (by decide) ?_
  refine lv_iadd (pc := 703) hx hb dL_law_703 ?_
  obtain ⟨g1, h⟩ := h
  refine va_sld (pc := 704) hx hb hX hbl hbA I.2.2 g1 dL_law_704 ?_
  refine x_calli (pc := 705) C I hA (x_liftiX [] (wR cI cZ r N) (fun v => (v, N)) (fun v => rfl) rfl (m_X5_runningOn h)) c_RL_108 wL_0 rfl ⟨Nat.le_of_ble_eq_true rfl, Nat.le_of_ble_eq_true rfl⟩ ⟨rfl, rfl⟩ ⟨Nat.le_of_ble_eq_true rfl, Nat.le_of_ble_eq_true rfl⟩ (As := [.int (xs ((x3 + 1)).toNatClampNeg)]) rfl hl.1 rfl (Nat.le_of_ble_eq_true rfl) dL_law_705 (fun r2 u2 H locs h I => ?_)
  obtain ⟨⟨M3, T4⟩, rfl, h⟩ := h
  refine lv_aload_n (pc := 708) hx hb dL_law_708 rfl (lv_at hl 2 rfl) ?_
  refine lv_aload_n (pc := 709) hx hb dL_law_709 rfl (lv_at hl 0 rfl) ?_
  refine lv_iload_n (pc := 710) hx hb dL_law_710 rfl (lv_at hl 3 rfl) ?_
  refine lv_iconst (pc := 711) (v := 1) hx hb dL_law_711 (by decide) ?_
  refine lv_iadd (pc := 712) hx hb dL_law_712 ?_
  obtain ⟨g5, h⟩ := h
  refine va_sld (pc := 713) hx hb hX hbl hbA I.2.2 g5 dL_law_713 ?_
  refine x_calli (pc := 714) C I hA (x_liftiX (wO cI cZ x a b (M3, T4)) [] (fun v => ((M3, T4), v)) (fun v => wL_r) rfl (m_X6_runningOn h)) c_RL_111 wL_49 rfl ⟨Nat.le_of_ble_eq_true rfl, Nat.le_of_ble_eq_true rfl⟩ ⟨rfl, rfl⟩ ⟨Nat.le_of_ble_eq_true rfl, Nat.le_of_ble_eq_true rfl⟩ (As := [.int (xs ((x3 + 1)).toNatClampNeg)]) rfl hl.1 rfl (Nat.le_of_ble_eq_true rfl) dL_law_714 (fun r6 u2 H locs h I => ?_)
  obtain ⟨N7, rfl, h⟩ := h
  refine lv_icmp_eq (pc := 717) (tgt := 784) hx hb dL_law_717 (by decide) (fun g8 => ?_) (fun g8 => ?_)
  · have h := h.1 g8
    exact hK M3 T4 N7 _ _ _ h I (lv_sub hl [0, 1, 2, 3] rfl)
  · have h := h.2 g8
    refine lv_iconst (pc := 720) (v := 0) hx hb dL_law_720 (by decide) ?_
    exact absurd h id
def V_law_c24 (xs : Nat → Int32) (L : Nat) (K : xM → xM → xM → Prop) (M T N : xM) (x3 : Int32) : Prop := (V_X5_straggler M T  (fun r1 (u2 : xM × xM) => (V_X6_straggler N  (fun r4 N5 => ((r1 = r4 → (K u2.1 u2.2 N5)) ∧ (¬ r1 = r4 → False))))))
set_option maxHeartbeats 4000000 in
set_option maxRecDepth 100000 in
theorem k_law_c24 {p : Program} {l : Launch} {e : Env} {s : State} {m : MethodId} {below : List Frame} {meth : Method} {c : Code} {D : va_G} {cI cZ : ClassId} {x : Nat} {a b r : Nat → Nat} {sb L : Nat} {xs : Nat → Int32} {Q : State → Prop} {K : xM → xM → xM → Prop} {x3 : Int32} (C : xC p s m #[Value.ref sb] c code 4 RL D cI cZ) (hX : va_X sb L xs s s.heap) (hbl : sb < s.heap.size) (hK : ∀ (M T N : xM) (H : Heap) (locs : List Loc) (ls : Array Slot), K M T N → xI D (wL cI cZ x a b r ((M, T), N)) (fun q : Nat => s.heap.size ≤ q) s.heap H locs → lv_has ls 4 [(0, .ref sb), (1, .ref x), (2, .ref (r 0)), (3, .int x3)] → W p l e room_1 s m #[Value.ref sb] below meth c H locs 68 6290 Q (F0 m 784 ls [])) {M T N : xM} {H : Heap} {locs : List Loc} {ls : Array Slot} (h : V_law_c24 xs L K M T N x3) (I : xI D (wL cI cZ x a b r ((M, T), N)) (fun q : Nat => s.heap.size ≤ q) s.heap H locs) (hl : lv_has ls 4 [(0, .ref sb), (1, .ref x), (2, .ref (r 0)), (3, .int x3)]) : W p l e room_1 s m #[Value.ref sb] below meth c H locs 68 6290 Q (F0 m 722 ls []) := by
  have hx := C.1.1
  have hb := C.1.2.1
  have hA : ∀ q : Nat, s.heap.size ≤ q → (fun q : Nat => s.heap.size ≤ q) q := fun _ h => h
  have hbA : ¬ (fun q : Nat => s.heap.size ≤ q) sb := Nat.not_le.mpr hbl
  unfold V_law_c24 at h
  refine lv_aload_n (pc := 722) hx hb dL_law_722 rfl (lv_at hl 1 rfl) ?_
  refine x_calli (pc := 723) C I hA (x_liftiX [] (wR cI cZ r N) (fun v => (v, N)) (fun v => rfl) rfl (m_X5_straggler h)) c_RL_112 wL_0 rfl ⟨Nat.le_of_ble_eq_true rfl, Nat.le_of_ble_eq_true rfl⟩ ⟨rfl, rfl⟩ ⟨Nat.le_of_ble_eq_true rfl, Nat.le_of_ble_eq_true rfl⟩ (As := []) rfl hl.1 rfl (Nat.le_of_ble_eq_true rfl) dL_law_723 (fun r1 u2 H locs h I => ?_)
  obtain ⟨⟨M2, T3⟩, rfl, h⟩ := h
  refine lv_aload_n (pc := 726) hx hb dL_law_726 rfl (lv_at hl 2 rfl) ?_
  refine x_calli (pc := 727) C I hA (x_liftiX (wO cI cZ x a b (M2, T3)) [] (fun v => ((M2, T3), v)) (fun v => wL_r) rfl (m_X6_straggler h)) c_RL_115 wL_49 rfl ⟨Nat.le_of_ble_eq_true rfl, Nat.le_of_ble_eq_true rfl⟩ ⟨rfl, rfl⟩ ⟨Nat.le_of_ble_eq_true rfl, Nat.le_of_ble_eq_true rfl⟩ (As := []) rfl hl.1 rfl (Nat.le_of_ble_eq_true rfl) dL_law_727 (fun r4 u2 H locs h I => ?_)
  obtain ⟨N5, rfl, h⟩ := h
  refine lv_icmp_eq (pc := 730) (tgt := 784) hx hb dL_law_730 (by decide) (fun g6 => ?_) (fun g6 => ?_)
  · have h := h.1 g6
    exact hK M2 T3 N5 _ _ _ h I (lv_sub hl [0, 1, 2, 3] rfl)
  · have h := h.2 g6
    refine lv_iconst (pc := 733) (v := 0) hx hb dL_law_733 (by decide) ?_
    exact absurd h id
def V_law_c25 (xs : Nat → Int32) (L : Nat) (K : xM → xM → xM → Prop) (M T N : xM) (x3 : Int32) : Prop := (V_X5_runningSpeculative M T  (fun r1 (u2 : xM × xM) => (V_X6_runningSpeculative N  (fun r4 N5 => ((r1 = r4 → (K u2.1 u2.2 N5)) ∧ (¬ r1 = r4 → False))))))
set_option maxHeartbeats 4000000 in
set_option maxRecDepth 100000 in
theorem k_law_c25 {p : Program} {l : Launch} {e : Env} {s : State} {m : MethodId} {below : List Frame} {meth : Method} {c : Code} {D : va_G} {cI cZ : ClassId} {x : Nat} {a b r : Nat → Nat} {sb L : Nat} {xs : Nat → Int32} {Q : State → Prop} {K : xM → xM → xM → Prop} {x3 : Int32} (C : xC p s m #[Value.ref sb] c code 4 RL D cI cZ) (hX : va_X sb L xs s s.heap) (hbl : sb < s.heap.size) (hK : ∀ (M T N : xM) (H : Heap) (locs : List Loc) (ls : Array Slot), K M T N → xI D (wL cI cZ x a b r ((M, T), N)) (fun q : Nat => s.heap.size ≤ q) s.heap H locs → lv_has ls 4 [(0, .ref sb), (1, .ref x), (2, .ref (r 0)), (3, .int x3)] → W p l e room_1 s m #[Value.ref sb] below meth c H locs 68 6290 Q (F0 m 784 ls [])) {M T N : xM} {H : Heap} {locs : List Loc} {ls : Array Slot} (h : V_law_c25 xs L K M T N x3) (I : xI D (wL cI cZ x a b r ((M, T), N)) (fun q : Nat => s.heap.size ≤ q) s.heap H locs) (hl : lv_has ls 4 [(0, .ref sb), (1, .ref x), (2, .ref (r 0)), (3, .int x3)]) : W p l e room_1 s m #[Value.ref sb] below meth c H locs 68 6290 Q (F0 m 735 ls []) := by
  have hx := C.1.1
  have hb := C.1.2.1
  have hA : ∀ q : Nat, s.heap.size ≤ q → (fun q : Nat => s.heap.size ≤ q) q := fun _ h => h
  have hbA : ¬ (fun q : Nat => s.heap.size ≤ q) sb := Nat.not_le.mpr hbl
  unfold V_law_c25 at h
  refine lv_aload_n (pc := 735) hx hb dL_law_735 rfl (lv_at hl 1 rfl) ?_
  refine x_calli (pc := 736) C I hA (x_liftiX [] (wR cI cZ r N) (fun v => (v, N)) (fun v => rfl) rfl (m_X5_runningSpeculative h)) c_RL_116 wL_0 rfl ⟨Nat.le_of_ble_eq_true rfl, Nat.le_of_ble_eq_true rfl⟩ ⟨rfl, rfl⟩ ⟨Nat.le_of_ble_eq_true rfl, Nat.le_of_ble_eq_true rfl⟩ (As := []) rfl hl.1 rfl (Nat.le_of_ble_eq_true rfl) dL_law_736 (fun r1 u2 H locs h I => ?_)
  obtain ⟨⟨M2, T3⟩, rfl, h⟩ := h
  refine lv_aload_n (pc := 739) hx hb dL_law_739 rfl (lv_at hl 2 rfl) ?_
  refine x_calli (pc := 740) C I hA (x_liftiX (wO cI cZ x a b (M2, T3)) [] (fun v => ((M2, T3), v)) (fun v => wL_r) rfl (m_X6_runningSpeculative h)) c_RL_119 wL_49 rfl ⟨Nat.le_of_ble_eq_true rfl, Nat.le_of_ble_eq_true rfl⟩ ⟨rfl, rfl⟩ ⟨Nat.le_of_ble_eq_true rfl, Nat.le_of_ble_eq_true rfl⟩ (As := []) rfl hl.1 rfl (Nat.le_of_ble_eq_true rfl) dL_law_740 (fun r4 u2 H locs h I => ?_)
  obtain ⟨N5, rfl, h⟩ := h
  refine lv_icmp_eq (pc := 743) (tgt := 784) hx hb dL_law_743 (by decide) (fun g6 => ?_) (fun g6 => ?_)
  · have h := h.1 g6
    exact hK M2 T3 N5 _ _ _ h I (lv_sub hl [0, 1, 2, 3] rfl)
  · have h := h.2 g6
    refine lv_iconst (pc := 746) (v := 0) hx hb dL_law_746 (by decide) ?_
    exact absurd h id
def V_law_c26 (xs : Nat → Int32) (L : Nat) (K : xM → xM → xM → Prop) (M T N : xM) (x3 : Int32) : Prop := (V_X5_wastedWork M T  (fun r1 (u2 : xM × xM) => (V_X6_wastedWork N  (fun r4 N5 => ((r1 = r4 → (K u2.1 u2.2 N5)) ∧ (¬ r1 = r4 → False))))))
set_option maxHeartbeats 4000000 in
set_option maxRecDepth 100000 in
theorem k_law_c26 {p : Program} {l : Launch} {e : Env} {s : State} {m : MethodId} {below : List Frame} {meth : Method} {c : Code} {D : va_G} {cI cZ : ClassId} {x : Nat} {a b r : Nat → Nat} {sb L : Nat} {xs : Nat → Int32} {Q : State → Prop} {K : xM → xM → xM → Prop} {x3 : Int32} (C : xC p s m #[Value.ref sb] c code 4 RL D cI cZ) (hX : va_X sb L xs s s.heap) (hbl : sb < s.heap.size) (hK : ∀ (M T N : xM) (H : Heap) (locs : List Loc) (ls : Array Slot), K M T N → xI D (wL cI cZ x a b r ((M, T), N)) (fun q : Nat => s.heap.size ≤ q) s.heap H locs → lv_has ls 4 [(0, .ref sb), (1, .ref x), (2, .ref (r 0)), (3, .int x3)] → W p l e room_1 s m #[Value.ref sb] below meth c H locs 68 6290 Q (F0 m 784 ls [])) {M T N : xM} {H : Heap} {locs : List Loc} {ls : Array Slot} (h : V_law_c26 xs L K M T N x3) (I : xI D (wL cI cZ x a b r ((M, T), N)) (fun q : Nat => s.heap.size ≤ q) s.heap H locs) (hl : lv_has ls 4 [(0, .ref sb), (1, .ref x), (2, .ref (r 0)), (3, .int x3)]) : W p l e room_1 s m #[Value.ref sb] below meth c H locs 68 6290 Q (F0 m 748 ls []) := by
  have hx := C.1.1
  have hb := C.1.2.1
  have hA : ∀ q : Nat, s.heap.size ≤ q → (fun q : Nat => s.heap.size ≤ q) q := fun _ h => h
  have hbA : ¬ (fun q : Nat => s.heap.size ≤ q) sb := Nat.not_le.mpr hbl
  unfold V_law_c26 at h
  refine lv_aload_n (pc := 748) hx hb dL_law_748 rfl (lv_at hl 1 rfl) ?_
  refine x_calli (pc := 749) C I hA (x_liftiX [] (wR cI cZ r N) (fun v => (v, N)) (fun v => rfl) rfl (m_X5_wastedWork h)) c_RL_120 wL_0 rfl ⟨Nat.le_of_ble_eq_true rfl, Nat.le_of_ble_eq_true rfl⟩ ⟨rfl, rfl⟩ ⟨Nat.le_of_ble_eq_true rfl, Nat.le_of_ble_eq_true rfl⟩ (As := []) rfl hl.1 rfl (Nat.le_of_ble_eq_true rfl) dL_law_749 (fun r1 u2 H locs h I => ?_)
  obtain ⟨⟨M2, T3⟩, rfl, h⟩ := h
  refine lv_aload_n (pc := 752) hx hb dL_law_752 rfl (lv_at hl 2 rfl) ?_
  refine x_calli (pc := 753) C I hA (x_liftiX (wO cI cZ x a b (M2, T3)) [] (fun v => ((M2, T3), v)) (fun v => wL_r) rfl (m_X6_wastedWork h)) c_RL_123 wL_49 rfl ⟨Nat.le_of_ble_eq_true rfl, Nat.le_of_ble_eq_true rfl⟩ ⟨rfl, rfl⟩ ⟨Nat.le_of_ble_eq_true rfl, Nat.le_of_ble_eq_true rfl⟩ (As := []) rfl hl.1 rfl (Nat.le_of_ble_eq_true rfl) dL_law_753 (fun r4 u2 H locs h I => ?_)
  obtain ⟨N5, rfl, h⟩ := h
  refine lv_icmp_eq (pc := 756) (tgt := 784) hx hb dL_law_756 (by decide) (fun g6 => ?_) (fun g6 => ?_)
  · have h := h.1 g6
    exact hK M2 T3 N5 _ _ _ h I (lv_sub hl [0, 1, 2, 3] rfl)
  · have h := h.2 g6
    refine lv_iconst (pc := 759) (v := 0) hx hb dL_law_759 (by decide) ?_
    exact absurd h id
def V_law_c27 (xs : Nat → Int32) (L : Nat) (K : xM → xM → xM → Prop) (M T N : xM) (x3 : Int32) : Prop := (vp_in (x3 + 1) L ∧ (V_X5_simulatedMakespan M T (xs ((x3 + 1)).toNatClampNeg) (fun r2 (u2 : xM × xM) => (vp_in (x3 + 1) L ∧ (V_X6_simulatedMakespan N (xs ((x3 + 1)).toNatClampNeg) (fun r6 N7 => ((r2 = r6 → (K u2.1 u2.2 N7)) ∧ (¬ r2 = r6 → False))))))))
set_option maxHeartbeats 4000000 in
set_option maxRecDepth 100000 in
theorem k_law_c27 {p : Program} {l : Launch} {e : Env} {s : State} {m : MethodId} {below : List Frame} {meth : Method} {c : Code} {D : va_G} {cI cZ : ClassId} {x : Nat} {a b r : Nat → Nat} {sb L : Nat} {xs : Nat → Int32} {Q : State → Prop} {K : xM → xM → xM → Prop} {x3 : Int32} (C : xC p s m #[Value.ref sb] c code 4 RL D cI cZ) (hX : va_X sb L xs s s.heap) (hbl : sb < s.heap.size) (hK : ∀ (M T N : xM) (H : Heap) (locs : List Loc) (ls : Array Slot), K M T N → xI D (wL cI cZ x a b r ((M, T), N)) (fun q : Nat => s.heap.size ≤ q) s.heap H locs → lv_has ls 4 [(0, .ref sb), (1, .ref x), (2, .ref (r 0)), (3, .int x3)] → W p l e room_1 s m #[Value.ref sb] below meth c H locs 68 6290 Q (F0 m 784 ls [])) {M T N : xM} {H : Heap} {locs : List Loc} {ls : Array Slot} (h : V_law_c27 xs L K M T N x3) (I : xI D (wL cI cZ x a b r ((M, T), N)) (fun q : Nat => s.heap.size ≤ q) s.heap H locs) (hl : lv_has ls 4 [(0, .ref sb), (1, .ref x), (2, .ref (r 0)), (3, .int x3)]) : W p l e room_1 s m #[Value.ref sb] below meth c H locs 68 6290 Q (F0 m 761 ls []) := by
  have hx := C.1.1
  have hb := C.1.2.1
  have hA : ∀ q : Nat, s.heap.size ≤ q → (fun q : Nat => s.heap.size ≤ q) q := fun _ h => h
  have hbA : ¬ (fun q : Nat => s.heap.size ≤ q) sb := Nat.not_le.mpr hbl
  unfold V_law_c27 at h
  refine lv_aload_n (pc := 761) hx hb dL_law_761 rfl (lv_at hl 1 rfl) ?_
  refine lv_aload_n (pc := 762) hx hb dL_law_762 rfl (lv_at hl 0 rfl) ?_
  refine lv_iload_n (pc := 763) hx hb dL_law_763 rfl (lv_at hl 3 rfl) ?_
  refine lv_iconst (pc := 764) (v := 1) hx hb dL_law_764 (by decide) ?_
  refine lv_iadd (pc := 765) hx hb dL_law_765 ?_
  obtain ⟨g1, h⟩ := h
  refine va_sld (pc := 766) hx hb hX hbl hbA I.2.2 g1 dL_law_766 ?_
  refine x_calli (pc := 767) C I hA (x_liftiX [] (wR cI cZ r N) (fun v => (v, N)) (fun v => rfl) rfl (m_X5_simulatedMakespan h)) c_RL_124 wL_0 rfl ⟨Nat.le_of_ble_eq_true rfl, Nat.le_of_ble_eq_true rfl⟩ ⟨rfl, rfl⟩ ⟨Nat.le_of_ble_eq_true rfl, Nat.le_of_ble_eq_true rfl⟩ (As := [.int (xs ((x3 + 1)).toNatClampNeg)]) rfl hl.1 rfl (Nat.le_of_ble_eq_true rfl) dL_law_767 (fun r2 u2 H locs h I => ?_)
  obtain ⟨⟨M3, T4⟩, rfl, h⟩ := h
  refine lv_aload_n (pc := 770) hx hb dL_law_770 rfl (lv_at hl 2 rfl) ?_
  refine lv_aload_n (pc := 771) hx hb dL_law_771 rfl (lv_at hl 0 rfl) ?_
  refine lv_iload_n (pc := 772) hx hb dL_law_772 rfl (lv_at hl 3 rfl) ?_
  refine lv_iconst (pc := 773) (v := 1) hx hb dL_law_773 (by decide) ?_
  refine lv_iadd (pc := 774) hx hb dL_law_774 ?_
  obtain ⟨g5, h⟩ := h
  refine va_sld (pc := 775) hx hb hX hbl hbA I.2.2 g5 dL_law_775 ?_
  refine x_calli (pc := 776) C I hA (x_liftiX (wO cI cZ x a b (M3, T4)) [] (fun v => ((M3, T4), v)) (fun v => wL_r) rfl (m_X6_simulatedMakespan h)) c_RL_127 wL_49 rfl ⟨Nat.le_of_ble_eq_true rfl, Nat.le_of_ble_eq_true rfl⟩ ⟨rfl, rfl⟩ ⟨Nat.le_of_ble_eq_true rfl, Nat.le_of_ble_eq_true rfl⟩ (As := [.int (xs ((x3 + 1)).toNatClampNeg)]) rfl hl.1 rfl (Nat.le_of_ble_eq_true rfl) dL_law_776 (fun r6 u2 H locs h I => ?_)
  obtain ⟨N7, rfl, h⟩ := h
  refine lv_icmp_eq (pc := 779) (tgt := 784) hx hb dL_law_779 (by decide) (fun g8 => ?_) (fun g8 => ?_)
  · have h := h.1 g8
    exact hK M3 T4 N7 _ _ _ h I (lv_sub hl [0, 1, 2, 3] rfl)
  · have h := h.2 g8
    refine lv_iconst (pc := 782) (v := 0) hx hb dL_law_782 (by decide) ?_
    exact absurd h id
def V_law (xs : Nat → Int32) (L : Nat) : Nat → xM → xM → xM → Int32 → Prop
  | 0, _, _, _, _ => False
  | n + 1, M, T, N, x3 => ((Int32.ofNat L - 3 < x3 → True) ∧ (¬ Int32.ofNat L - 3 < x3 → (vp_in x3 L ∧ ∀ y : Int32, y = (xs x3.toNatClampNeg &&& 31) → ((y = 0 → V_law_c0 xs L (fun M1 T1 N1 => V_law xs L n M1 T1 N1 (x3 + 3)) M T N x3) ∧ (¬ y = 0 → ((y = 1 → V_law_c1 xs L (fun M1 T1 N1 => V_law xs L n M1 T1 N1 (x3 + 3)) M T N x3) ∧ (¬ y = 1 → ((y = 2 → V_law_c2 xs L (fun M1 T1 N1 => V_law xs L n M1 T1 N1 (x3 + 3)) M T N x3) ∧ (¬ y = 2 → ((y = 3 → V_law_c3 xs L (fun M1 T1 N1 => V_law xs L n M1 T1 N1 (x3 + 3)) M T N x3) ∧ (¬ y = 3 → ((y = 4 → V_law_c4 xs L (fun M1 T1 N1 => V_law xs L n M1 T1 N1 (x3 + 3)) M T N x3) ∧ (¬ y = 4 → ((y = 5 → V_law_c5 xs L (fun M1 T1 N1 => V_law xs L n M1 T1 N1 (x3 + 3)) M T N x3) ∧ (¬ y = 5 → ((y = 6 → V_law_c6 xs L (fun M1 T1 N1 => V_law xs L n M1 T1 N1 (x3 + 3)) M T N x3) ∧ (¬ y = 6 → ((y = 7 → V_law_c7 xs L (fun M1 T1 N1 => V_law xs L n M1 T1 N1 (x3 + 3)) M T N x3) ∧ (¬ y = 7 → ((y = 8 → V_law_c8 xs L (fun M1 T1 N1 => V_law xs L n M1 T1 N1 (x3 + 3)) M T N x3) ∧ (¬ y = 8 → ((y = 9 → V_law_c9 xs L (fun M1 T1 N1 => V_law xs L n M1 T1 N1 (x3 + 3)) M T N x3) ∧ (¬ y = 9 → ((y = 10 → V_law_c10 xs L (fun M1 T1 N1 => V_law xs L n M1 T1 N1 (x3 + 3)) M T N x3) ∧ (¬ y = 10 → ((y = 11 → V_law_c11 xs L (fun M1 T1 N1 => V_law xs L n M1 T1 N1 (x3 + 3)) M T N x3) ∧ (¬ y = 11 → ((y = 12 → V_law_c12 xs L (fun M1 T1 N1 => V_law xs L n M1 T1 N1 (x3 + 3)) M T N x3) ∧ (¬ y = 12 → ((y = 13 → V_law_c13 xs L (fun M1 T1 N1 => V_law xs L n M1 T1 N1 (x3 + 3)) M T N x3) ∧ (¬ y = 13 → ((y = 14 → V_law_c14 xs L (fun M1 T1 N1 => V_law xs L n M1 T1 N1 (x3 + 3)) M T N x3) ∧ (¬ y = 14 → ((y = 15 → V_law_c15 xs L (fun M1 T1 N1 => V_law xs L n M1 T1 N1 (x3 + 3)) M T N x3) ∧ (¬ y = 15 → ((y = 16 → V_law_c16 xs L (fun M1 T1 N1 => V_law xs L n M1 T1 N1 (x3 + 3)) M T N x3) ∧ (¬ y = 16 → ((y = 17 → V_law_c17 xs L (fun M1 T1 N1 => V_law xs L n M1 T1 N1 (x3 + 3)) M T N x3) ∧ (¬ y = 17 → ((y = 18 → V_law_c18 xs L (fun M1 T1 N1 => V_law xs L n M1 T1 N1 (x3 + 3)) M T N x3) ∧ (¬ y = 18 → ((y = 19 → V_law_c19 xs L (fun M1 T1 N1 => V_law xs L n M1 T1 N1 (x3 + 3)) M T N x3) ∧ (¬ y = 19 → ((y = 20 → V_law_c20 xs L (fun M1 T1 N1 => V_law xs L n M1 T1 N1 (x3 + 3)) M T N x3) ∧ (¬ y = 20 → ((y = 21 → V_law_c21 xs L (fun M1 T1 N1 => V_law xs L n M1 T1 N1 (x3 + 3)) M T N x3) ∧ (¬ y = 21 → ((y = 22 → V_law_c22 xs L (fun M1 T1 N1 => V_law xs L n M1 T1 N1 (x3 + 3)) M T N x3) ∧ (¬ y = 22 → ((y = 23 → V_law_c23 xs L (fun M1 T1 N1 => V_law xs L n M1 T1 N1 (x3 + 3)) M T N x3) ∧ (¬ y = 23 → ((y = 24 → V_law_c24 xs L (fun M1 T1 N1 => V_law xs L n M1 T1 N1 (x3 + 3)) M T N x3) ∧ (¬ y = 24 → ((y = 25 → V_law_c25 xs L (fun M1 T1 N1 => V_law xs L n M1 T1 N1 (x3 + 3)) M T N x3) ∧ (¬ y = 25 → ((y = 26 → V_law_c26 xs L (fun M1 T1 N1 => V_law xs L n M1 T1 N1 (x3 + 3)) M T N x3) ∧ (¬ y = 26 → ((y = 27 → V_law_c27 xs L (fun M1 T1 N1 => V_law xs L n M1 T1 N1 (x3 + 3)) M T N x3) ∧ (¬ y = 27 → V_law xs L n M T N (x3 + 3))))))))))))))))))))))))))))))))))))))))))))))))))))))))))))
set_option maxHeartbeats 4000000 in
set_option maxRecDepth 100000 in
theorem k_law {p : Program} {l : Launch} {e : Env} {s : State} {m : MethodId} {below : List Frame} {meth : Method} {c : Code} {D : va_G} {cI cZ : ClassId} {x : Nat} {a b r : Nat → Nat} {sb L : Nat} {xs : Nat → Int32} (C : xC p s m #[Value.ref sb] c code 4 RL D cI cZ) (hX : va_X sb L xs s s.heap) (hbl : sb < s.heap.size) (hr : meth.sig.returnType = ret) (hlocks : meth.locks = false) (n : Nat) : ∀ (M T N : xM) (x3 : Int32) (H : Heap) (locs : List Loc) (ls : Array Slot), V_law xs L n M T N x3 → xI D (wL cI cZ x a b r ((M, T), N)) (fun q : Nat => s.heap.size ≤ q) s.heap H locs → lv_has ls 4 [(0, .ref sb), (1, .ref x), (2, .ref (r 0)), (3, .int x3)] → W p l e room_1 s m #[Value.ref sb] below meth c H locs 68 6290 (lw_Z below #[Value.ref sb] s) (F0 m 18 ls []) := by
  have hx := C.1.1
  have hb := C.1.2.1
  have hbA : ¬ (fun q : Nat => s.heap.size ≤ q) sb := Nat.not_le.mpr hbl
  induction n with
  | zero =>
    intro M T N x3 H locs ls h I hl
    exact absurd h id
  | succ n ih =>
    intro M T N x3 H locs ls h I hl
    rw [V_law] at h
    refine lv_iload_n (pc := 18) hx hb dL_law_18 rfl (lv_at hl 3 rfl) ?_
    refine lv_aload_n (pc := 19) hx hb dL_law_19 rfl (lv_at hl 0 rfl) ?_
    refine va_slen (pc := 20) hx hb hX hbl hbA I.2.2 dL_law_20 ?_
    refine lv_iconst (pc := 21) (v := 3) hx hb dL_law_21 (by decide) ?_
    refine lv_isub (pc := 22) hx hb dL_law_22 ?_
    refine lv_icmp_gt (pc := 23) (tgt := 790) hx hb dL_law_23 (by decide) (fun g0 => ?_) (fun g0 => ?_)
    · refine lv_iconst (pc := 790) (v := 1) hx hb dL_law_790 (by decide) ?_
      refine va_forget (fun q hq => I.2.2.2.2 q hq) ?_
      exact lw_ret hx hb hr hlocks dL_law_791
    · have h := h.2 g0
      obtain ⟨g1, h⟩ := h
      refine lv_aload_n (pc := 26) hx hb dL_law_26 rfl (lv_at hl 0 rfl) ?_
      refine lv_iload_n (pc := 27) hx hb dL_law_27 rfl (lv_at hl 3 rfl) ?_
      refine va_sld (pc := 28) hx hb hX hbl hbA I.2.2 g1 dL_law_28 ?_
      refine lv_bipush (pc := 29) (v := 31) hx hb dL_law_29 (by decide) ?_
      refine lv_iand (pc := 31) hx hb dL_law_31 ?_
      refine lv_topi (fun y ey => ?_)
      have h := h y ey
      have hK : ∀ (M T N : xM) (H : Heap) (locs : List Loc) (ls : Array Slot), V_law xs L n M T N (x3 + 3) → xI D (wL cI cZ x a b r ((M, T), N)) (fun q : Nat => s.heap.size ≤ q) s.heap H locs → lv_has ls 4 [(0, .ref sb), (1, .ref x), (2, .ref (r 0)), (3, .int x3)] → W p l e room_1 s m #[Value.ref sb] below meth c H locs 68 6290 (lw_Z below #[Value.ref sb] s) (F0 m 784 ls []) := by
        intro M T N H locs ls h I hl
        refine lv_iinc (pc := 784) (v := x3 + 3) (lv' := [(3, .int (x3 + 3)), (0, .ref sb), (1, .ref x), (2, .ref (r 0))]) hx hb dL_law_784 hl (k := 3) rfl rfl (by decide) rfl (fun ls hl => ?_)
        refine lv_goto (pc := 787) (tgt := 18) hx hb dL_law_787 (by decide) ?_
        exact ih M T N (x3 + 3) _ _ _ h I (lv_sub hl [1, 2, 3, 0] rfl)
      by_cases f0 : y = 0
      · have h := h.1 f0
        refine lv_tableIn (pc := 32) (tgt := 160) (off := 128) hx hb dL_law_32 (by rw [f0]; decide) (by rw [f0]; decide) (by rw [f0]; rfl) (by decide) ?_
        exact k_law_c0 C hX hbl (K := (fun M1 T1 N1 => V_law xs L n M1 T1 N1 (x3 + 3))) (fun M T N H locs ls h I hl => hK M T N H locs ls h I hl) h I hl
      have h := h.2 f0
      by_cases f1 : y = 1
      · have h := h.1 f1
        refine lv_tableIn (pc := 32) (tgt := 193) (off := 161) hx hb dL_law_32 (by rw [f1]; decide) (by rw [f1]; decide) (by rw [f1]; rfl) (by decide) ?_
        exact k_law_c1 C hX hbl (K := (fun M1 T1 N1 => V_law xs L n M1 T1 N1 (x3 + 3))) (fun M T N H locs ls h I hl => hK M T N H locs ls h I hl) h I hl
      have h := h.2 f1
      by_cases f2 : y = 2
      · have h := h.1 f2
        refine lv_tableIn (pc := 32) (tgt := 226) (off := 194) hx hb dL_law_32 (by rw [f2]; decide) (by rw [f2]; decide) (by rw [f2]; rfl) (by decide) ?_
        exact k_law_c2 C hX hbl (K := (fun M1 T1 N1 => V_law xs L n M1 T1 N1 (x3 + 3))) (fun M T N H locs ls h I hl => hK M T N H locs ls h I hl) h I hl
      have h := h.2 f2
      by_cases f3 : y = 3
      · have h := h.1 f3
        refine lv_tableIn (pc := 32) (tgt := 249) (off := 217) hx hb dL_law_32 (by rw [f3]; decide) (by rw [f3]; decide) (by rw [f3]; rfl) (by decide) ?_
        exact k_law_c3 C hX hbl (K := (fun M1 T1 N1 => V_law xs L n M1 T1 N1 (x3 + 3))) (fun M T N H locs ls h I hl => hK M T N H locs ls h I hl) h I hl
      have h := h.2 f3
      by_cases f4 : y = 4
      · have h := h.1 f4
        refine lv_tableIn (pc := 32) (tgt := 272) (off := 240) hx hb dL_law_32 (by rw [f4]; decide) (by rw [f4]; decide) (by rw [f4]; rfl) (by decide) ?_
        exact k_law_c4 C hX hbl (K := (fun M1 T1 N1 => V_law xs L n M1 T1 N1 (x3 + 3))) (fun M T N H locs ls h I hl => hK M T N H locs ls h I hl) h I hl
      have h := h.2 f4
      by_cases f5 : y = 5
      · have h := h.1 f5
        refine lv_tableIn (pc := 32) (tgt := 295) (off := 263) hx hb dL_law_32 (by rw [f5]; decide) (by rw [f5]; decide) (by rw [f5]; rfl) (by decide) ?_
        exact k_law_c5 C hX hbl (K := (fun M1 T1 N1 => V_law xs L n M1 T1 N1 (x3 + 3))) (fun M T N H locs ls h I hl => hK M T N H locs ls h I hl) h I hl
      have h := h.2 f5
      by_cases f6 : y = 6
      · have h := h.1 f6
        refine lv_tableIn (pc := 32) (tgt := 318) (off := 286) hx hb dL_law_32 (by rw [f6]; decide) (by rw [f6]; decide) (by rw [f6]; rfl) (by decide) ?_
        exact k_law_c6 C hX hbl (K := (fun M1 T1 N1 => V_law xs L n M1 T1 N1 (x3 + 3))) (fun M T N H locs ls h I hl => hK M T N H locs ls h I hl) h I hl
      have h := h.2 f6
      by_cases f7 : y = 7
      · have h := h.1 f7
        refine lv_tableIn (pc := 32) (tgt := 351) (off := 319) hx hb dL_law_32 (by rw [f7]; decide) (by rw [f7]; decide) (by rw [f7]; rfl) (by decide) ?_
        exact k_law_c7 C hX hbl (K := (fun M1 T1 N1 => V_law xs L n M1 T1 N1 (x3 + 3))) (fun M T N H locs ls h I hl => hK M T N H locs ls h I hl) h I hl
      have h := h.2 f7
      by_cases f8 : y = 8
      · have h := h.1 f8
        refine lv_tableIn (pc := 32) (tgt := 384) (off := 352) hx hb dL_law_32 (by rw [f8]; decide) (by rw [f8]; decide) (by rw [f8]; rfl) (by decide) ?_
        exact k_law_c8 C hX hbl (K := (fun M1 T1 N1 => V_law xs L n M1 T1 N1 (x3 + 3))) (fun M T N H locs ls h I hl => hK M T N H locs ls h I hl) h I hl
      have h := h.2 f8
      by_cases f9 : y = 9
      · have h := h.1 f9
        refine lv_tableIn (pc := 32) (tgt := 407) (off := 375) hx hb dL_law_32 (by rw [f9]; decide) (by rw [f9]; decide) (by rw [f9]; rfl) (by decide) ?_
        exact k_law_c9 C hX hbl (K := (fun M1 T1 N1 => V_law xs L n M1 T1 N1 (x3 + 3))) (fun M T N H locs ls h I hl => hK M T N H locs ls h I hl) h I hl
      have h := h.2 f9
      by_cases f10 : y = 10
      · have h := h.1 f10
        refine lv_tableIn (pc := 32) (tgt := 420) (off := 388) hx hb dL_law_32 (by rw [f10]; decide) (by rw [f10]; decide) (by rw [f10]; rfl) (by decide) ?_
        exact k_law_c10 C hX hbl (K := (fun M1 T1 N1 => V_law xs L n M1 T1 N1 (x3 + 3))) (fun M T N H locs ls h I hl => hK M T N H locs ls h I hl) h I hl
      have h := h.2 f10
      by_cases f11 : y = 11
      · have h := h.1 f11
        refine lv_tableIn (pc := 32) (tgt := 443) (off := 411) hx hb dL_law_32 (by rw [f11]; decide) (by rw [f11]; decide) (by rw [f11]; rfl) (by decide) ?_
        exact k_law_c11 C hX hbl (K := (fun M1 T1 N1 => V_law xs L n M1 T1 N1 (x3 + 3))) (fun M T N H locs ls h I hl => hK M T N H locs ls h I hl) h I hl
      have h := h.2 f11
      by_cases f12 : y = 12
      · have h := h.1 f12
        refine lv_tableIn (pc := 32) (tgt := 466) (off := 434) hx hb dL_law_32 (by rw [f12]; decide) (by rw [f12]; decide) (by rw [f12]; rfl) (by decide) ?_
        exact k_law_c12 C hX hbl (K := (fun M1 T1 N1 => V_law xs L n M1 T1 N1 (x3 + 3))) (fun M T N H locs ls h I hl => hK M T N H locs ls h I hl) h I hl
      have h := h.2 f12
      by_cases f13 : y = 13
      · have h := h.1 f13
        refine lv_tableIn (pc := 32) (tgt := 489) (off := 457) hx hb dL_law_32 (by rw [f13]; decide) (by rw [f13]; decide) (by rw [f13]; rfl) (by decide) ?_
        exact k_law_c13 C hX hbl (K := (fun M1 T1 N1 => V_law xs L n M1 T1 N1 (x3 + 3))) (fun M T N H locs ls h I hl => hK M T N H locs ls h I hl) h I hl
      have h := h.2 f13
      by_cases f14 : y = 14
      · have h := h.1 f14
        refine lv_tableIn (pc := 32) (tgt := 502) (off := 470) hx hb dL_law_32 (by rw [f14]; decide) (by rw [f14]; decide) (by rw [f14]; rfl) (by decide) ?_
        exact k_law_c14 C hX hbl (K := (fun M1 T1 N1 => V_law xs L n M1 T1 N1 (x3 + 3))) (fun M T N H locs ls h I hl => hK M T N H locs ls h I hl) h I hl
      have h := h.2 f14
      by_cases f15 : y = 15
      · have h := h.1 f15
        refine lv_tableIn (pc := 32) (tgt := 515) (off := 483) hx hb dL_law_32 (by rw [f15]; decide) (by rw [f15]; decide) (by rw [f15]; rfl) (by decide) ?_
        exact k_law_c15 C hX hbl (K := (fun M1 T1 N1 => V_law xs L n M1 T1 N1 (x3 + 3))) (fun M T N H locs ls h I hl => hK M T N H locs ls h I hl) h I hl
      have h := h.2 f15
      by_cases f16 : y = 16
      · have h := h.1 f16
        refine lv_tableIn (pc := 32) (tgt := 538) (off := 506) hx hb dL_law_32 (by rw [f16]; decide) (by rw [f16]; decide) (by rw [f16]; rfl) (by decide) ?_
        exact k_law_c16 C hX hbl (K := (fun M1 T1 N1 => V_law xs L n M1 T1 N1 (x3 + 3))) (fun M T N H locs ls h I hl => hK M T N H locs ls h I hl) h I hl
      have h := h.2 f16
      by_cases f17 : y = 17
      · have h := h.1 f17
        refine lv_tableIn (pc := 32) (tgt := 561) (off := 529) hx hb dL_law_32 (by rw [f17]; decide) (by rw [f17]; decide) (by rw [f17]; rfl) (by decide) ?_
        exact k_law_c17 C hX hbl (K := (fun M1 T1 N1 => V_law xs L n M1 T1 N1 (x3 + 3))) (fun M T N H locs ls h I hl => hK M T N H locs ls h I hl) h I hl
      have h := h.2 f17
      by_cases f18 : y = 18
      · have h := h.1 f18
        refine lv_tableIn (pc := 32) (tgt := 584) (off := 552) hx hb dL_law_32 (by rw [f18]; decide) (by rw [f18]; decide) (by rw [f18]; rfl) (by decide) ?_
        exact k_law_c18 C hX hbl (K := (fun M1 T1 N1 => V_law xs L n M1 T1 N1 (x3 + 3))) (fun M T N H locs ls h I hl => hK M T N H locs ls h I hl) h I hl
      have h := h.2 f18
      by_cases f19 : y = 19
      · have h := h.1 f19
        refine lv_tableIn (pc := 32) (tgt := 607) (off := 575) hx hb dL_law_32 (by rw [f19]; decide) (by rw [f19]; decide) (by rw [f19]; rfl) (by decide) ?_
        exact k_law_c19 C hX hbl (K := (fun M1 T1 N1 => V_law xs L n M1 T1 N1 (x3 + 3))) (fun M T N H locs ls h I hl => hK M T N H locs ls h I hl) h I hl
      have h := h.2 f19
      by_cases f20 : y = 20
      · have h := h.1 f20
        refine lv_tableIn (pc := 32) (tgt := 630) (off := 598) hx hb dL_law_32 (by rw [f20]; decide) (by rw [f20]; decide) (by rw [f20]; rfl) (by decide) ?_
        exact k_law_c20 C hX hbl (K := (fun M1 T1 N1 => V_law xs L n M1 T1 N1 (x3 + 3))) (fun M T N H locs ls h I hl => hK M T N H locs ls h I hl) h I hl
      have h := h.2 f20
      by_cases f21 : y = 21
      · have h := h.1 f21
        refine lv_tableIn (pc := 32) (tgt := 653) (off := 621) hx hb dL_law_32 (by rw [f21]; decide) (by rw [f21]; decide) (by rw [f21]; rfl) (by decide) ?_
        exact k_law_c21 C hX hbl (K := (fun M1 T1 N1 => V_law xs L n M1 T1 N1 (x3 + 3))) (fun M T N H locs ls h I hl => hK M T N H locs ls h I hl) h I hl
      have h := h.2 f21
      by_cases f22 : y = 22
      · have h := h.1 f22
        refine lv_tableIn (pc := 32) (tgt := 676) (off := 644) hx hb dL_law_32 (by rw [f22]; decide) (by rw [f22]; decide) (by rw [f22]; rfl) (by decide) ?_
        exact k_law_c22 C hX hbl (K := (fun M1 T1 N1 => V_law xs L n M1 T1 N1 (x3 + 3))) (fun M T N H locs ls h I hl => hK M T N H locs ls h I hl) h I hl
      have h := h.2 f22
      by_cases f23 : y = 23
      · have h := h.1 f23
        refine lv_tableIn (pc := 32) (tgt := 699) (off := 667) hx hb dL_law_32 (by rw [f23]; decide) (by rw [f23]; decide) (by rw [f23]; rfl) (by decide) ?_
        exact k_law_c23 C hX hbl (K := (fun M1 T1 N1 => V_law xs L n M1 T1 N1 (x3 + 3))) (fun M T N H locs ls h I hl => hK M T N H locs ls h I hl) h I hl
      have h := h.2 f23
      by_cases f24 : y = 24
      · have h := h.1 f24
        refine lv_tableIn (pc := 32) (tgt := 722) (off := 690) hx hb dL_law_32 (by rw [f24]; decide) (by rw [f24]; decide) (by rw [f24]; rfl) (by decide) ?_
        exact k_law_c24 C hX hbl (K := (fun M1 T1 N1 => V_law xs L n M1 T1 N1 (x3 + 3))) (fun M T N H locs ls h I hl => hK M T N H locs ls h I hl) h I hl
      have h := h.2 f24
      by_cases f25 : y = 25
      · have h := h.1 f25
        refine lv_tableIn (pc := 32) (tgt := 735) (off := 703) hx hb dL_law_32 (by rw [f25]; decide) (by rw [f25]; decide) (by rw [f25]; rfl) (by decide) ?_
        exact k_law_c25 C hX hbl (K := (fun M1 T1 N1 => V_law xs L n M1 T1 N1 (x3 + 3))) (fun M T N H locs ls h I hl => hK M T N H locs ls h I hl) h I hl
      have h := h.2 f25
      by_cases f26 : y = 26
      · have h := h.1 f26
        refine lv_tableIn (pc := 32) (tgt := 748) (off := 716) hx hb dL_law_32 (by rw [f26]; decide) (by rw [f26]; decide) (by rw [f26]; rfl) (by decide) ?_
        exact k_law_c26 C hX hbl (K := (fun M1 T1 N1 => V_law xs L n M1 T1 N1 (x3 + 3))) (fun M T N H locs ls h I hl => hK M T N H locs ls h I hl) h I hl
      have h := h.2 f26
      by_cases f27 : y = 27
      · have h := h.1 f27
        refine lv_tableIn (pc := 32) (tgt := 761) (off := 729) hx hb dL_law_32 (by rw [f27]; decide) (by rw [f27]; decide) (by rw [f27]; rfl) (by decide) ?_
        exact k_law_c27 C hX hbl (K := (fun M1 T1 N1 => V_law xs L n M1 T1 N1 (x3 + 3))) (fun M T N H locs ls h I hl => hK M T N H locs ls h I hl) h I hl
      have h := h.2 f27
      refine lv_tableOut (pc := 32) (tgt := 784) hx hb dL_law_32 ?_ (by decide) (hK M T N _ _ _ h I hl)
      have f0 : ¬ y.toInt = 0 := lv_neT f0 rfl
      have f1 : ¬ y.toInt = 1 := lv_neT f1 rfl
      have f2 : ¬ y.toInt = 2 := lv_neT f2 rfl
      have f3 : ¬ y.toInt = 3 := lv_neT f3 rfl
      have f4 : ¬ y.toInt = 4 := lv_neT f4 rfl
      have f5 : ¬ y.toInt = 5 := lv_neT f5 rfl
      have f6 : ¬ y.toInt = 6 := lv_neT f6 rfl
      have f7 : ¬ y.toInt = 7 := lv_neT f7 rfl
      have f8 : ¬ y.toInt = 8 := lv_neT f8 rfl
      have f9 : ¬ y.toInt = 9 := lv_neT f9 rfl
      have f10 : ¬ y.toInt = 10 := lv_neT f10 rfl
      have f11 : ¬ y.toInt = 11 := lv_neT f11 rfl
      have f12 : ¬ y.toInt = 12 := lv_neT f12 rfl
      have f13 : ¬ y.toInt = 13 := lv_neT f13 rfl
      have f14 : ¬ y.toInt = 14 := lv_neT f14 rfl
      have f15 : ¬ y.toInt = 15 := lv_neT f15 rfl
      have f16 : ¬ y.toInt = 16 := lv_neT f16 rfl
      have f17 : ¬ y.toInt = 17 := lv_neT f17 rfl
      have f18 : ¬ y.toInt = 18 := lv_neT f18 rfl
      have f19 : ¬ y.toInt = 19 := lv_neT f19 rfl
      have f20 : ¬ y.toInt = 20 := lv_neT f20 rfl
      have f21 : ¬ y.toInt = 21 := lv_neT f21 rfl
      have f22 : ¬ y.toInt = 22 := lv_neT f22 rfl
      have f23 : ¬ y.toInt = 23 := lv_neT f23 rfl
      have f24 : ¬ y.toInt = 24 := lv_neT f24 rfl
      have f25 : ¬ y.toInt = 25 := lv_neT f25 rfl
      have f26 : ¬ y.toInt = 26 := lv_neT f26 rfl
      have f27 : ¬ y.toInt = 27 := lv_neT f27 rfl
      omega
