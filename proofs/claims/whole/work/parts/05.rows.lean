/-! Rows of this claim: one memory for a world ('row, column'), a bundle of the heap's facts, an instruction a row, a call a row, the frame rule for a contract. -/
abbrev xM : Type := Nat → Nat → Int32
def x_min (x y : Int32) : Int32 := if y < x then y else x
def x_max (x y : Int32) : Int32 := if x < y then y else x
def xu (M : xM) (k j : Nat) (x : Int32) : xM := fun r => if r = k then upd (M k) j x else M r
/-- the words that every contract takes: its own code, and all the words of the law -/
def xw (y : MethodName) (cc : ByteArray) (n : Nat) (r : Option FieldType) : List Cond := Cond.code y cc n r :: wsL_law
abbrev xT (cI cZ : ClassId) : List (ClassId × FieldType) := [(cI, .int), (cZ, .boolean)]
theorem wsL_good : wsL_law.all goodWord = true := by decide +kernel
theorem x_good {y y2 : MethodName} {b b2 : ByteArray} {n n2 : Nat} {r r2 : Option FieldType} (h : Cond.code y2 b2 n2 r2 ∈ wsL_law) : GoodIn (xw y b n r) (xw y2 b2 n2 r2) := by
  intro w hw
  rcases List.mem_cons.mp hw with rfl | hw
  · exact ⟨List.mem_cons_of_mem _ h, good_of_word (List.all_eq_true.mp wsL_good _ h)⟩
  · exact ⟨List.mem_cons_of_mem _ hw, good_of_word (List.all_eq_true.mp wsL_good _ hw)⟩
theorem x_goodL {y2 : MethodName} {b2 : ByteArray} {n2 : Nat} {r2 : Option FieldType} (h : Cond.code y2 b2 n2 r2 ∈ wsL_law) : GoodIn wsL_law (xw y2 b2 n2 r2) := by
  intro w hw
  rcases List.mem_cons.mp hw with rfl | hw
  · exact ⟨h, good_of_word (List.all_eq_true.mp wsL_good _ h)⟩
  · exact ⟨hw, good_of_word (List.all_eq_true.mp wsL_good _ hw)⟩
/-- what stays in a walk -/
def xC (p : Program) (s : State) (m : MethodId) (args : Array Value) (c : Code) (cc : ByteArray) (nL : Nat) (own : String) (D : va_G) (cI cZ : ClassId) : Prop :=
  (p.tables.exec = Jvm.exec ∧ c.code = cc ∧ c.maxLocals = nL ∧ s.vm.findClass own = some m.cls ∧ ∀ w ∈ wsL_law, w.before args s = true) ∧ va_K D vwCl (xT cI cZ) s
/-- what the heap holds -/
def xI (D : va_G) (ws : va_W) (A : Nat → Prop) (H0 H : Heap) (locs : List Loc) : Prop := va_P D vwCl ws H ∧ va_D A ws ∧ va_S A H0 H locs
def xPre (D : va_G) (cI cZ : ClassId) (ws : va_W) (sz : Nat) (U : State) : Prop := U.heap.size = sz ∧ va_P D vwCl ws U.heap ∧ va_K D vwCl (xT cI cZ) U ∧ va_D (fun _ => True) ws
def xPost {S : Type} (D : va_G) (cI cZ : ClassId) (A : Nat → Prop) (w : S → va_W) (u : S) (t : State) : Prop := va_P D vwCl (w u) t.heap ∧ va_K D vwCl (xT cI cZ) t ∧ va_D A (w u)
/-- contracts: an int (or boolean) comes back; nothing comes back -/
def xMi {S : Type} (l : Launch) (y : MethodName) (cc : ByteArray) (n : Nat) (r : Option FieldType) (rm : Room) (D : va_G) (cI cZ : ClassId) (w : S → va_W) (u : S) (av : List Value) (post : Int32 → S → Prop) : Prop :=
  ∀ sz : Nat, Met l y (xw y cc n r) rm (va_Pc av (xPre D cI cZ (w u) sz)) (va_Qi post (xPost D cI cZ (va_A (w u) sz) w) (va_A (w u) sz)) 0 0 (va_A (w u) sz)
def xMv {S : Type} (l : Launch) (y : MethodName) (cc : ByteArray) (n : Nat) (r : Option FieldType) (rm : Room) (D : va_G) (cI cZ : ClassId) (w : S → va_W) (u : S) (av : List Value) (post : S → Prop) : Prop :=
  ∀ sz : Nat, Met l y (xw y cc n r) rm (va_Pc av (xPre D cI cZ (w u) sz)) (va_Qv post (xPost D cI cZ (va_A (w u) sz) w) (va_A (w u) sz)) 0 0 (va_A (w u) sz)
theorem xPre_blind {D : va_G} {cI cZ : ClassId} {ws : va_W} {sz : Nat} {av : List Value} : FrameBlind (va_Pc av (xPre D cI cZ ws sz)) := by
  intro a U g mk h
  obtain ⟨h0, h1, h2, h3, h4⟩ := h
  exact ⟨h0, h1, h2, va_K.moved (u := U) (U := U.calling g mk a) (Vm.Alike.refl U.vm) h3, h4⟩
section XR
variable {p : Program} {l : Launch} {e : Env} {R : Room} {s : State} {m : MethodId} {args : Array Value} {below : List Frame} {meth : Method} {c : Code} {H : Heap} {locs : List Loc} {cells slots : Nat} {Q : State → Prop}
variable {cc : ByteArray} {nL pc : Nat} {ls : Array Slot} {rest : List Value} {D : va_G} {A : Nat → Prop} {a : Nat} {cI cZ : ClassId} {ws : va_W} {H0 : Heap} {own : String}
theorem x_at (n : Nat) {st : List Value} (h : pc = n) (k : W p l e R s m args below meth c H locs cells slots Q (F0 m n ls st)) : W p l e R s m args below meth c H locs cells slots Q (F0 m pc ls st) := by
  subst h
  exact k
theorem x_get (C : xC p s m args c cc nL own D cI cZ) (I : xI D ws A H0 H locs) {q0 ci N index k : Nat} {Cn ref : String} {T : u_T} {fs : List Value} {v : Value} (he : ws[q0]? = some (a, .inr (ci, fs))) (hc : vwCl[ci]? = some (Cn, T, N)) (hin : ∀ w ∈ u_ws Cn T N, w ∈ wsL_law) (hlink : Cond.fieldLink own index ref (T k).2.1 (T k).2.2.1 ∈ wsL_law) (hk : k < N) (hsame : (T k).1 = ref) (hv : fs[k]? = some v) (hdg : decode cc pc = .ok (.getfield index, 3))
    (kk : W p l e R s m args below meth c H locs cells slots Q (F0 m (pc + 3) ls (v :: rest))) : W p l e R s m args below meth c H locs cells slots Q (F0 m pc ls (.ref a :: rest)) :=
  va_get C.1.1 C.1.2.1 C.1.2.2.2.2 hin C.1.2.2.2.1 C.2 I.1 q0 he hc k hk (C.1.2.2.2.2 _ hlink) (fun x h => by rw [← hsame]; exact h) hv hdg kk
theorem x_puti (C : xC p s m args c cc nL own D cI cZ) (I : xI D ws A H0 H locs) {q0 ci N index k : Nat} {Cn ref : String} {T : u_T} {fs : List Value} {x : Int32} {ws' : va_W} (he : ws[q0]? = some (a, .inr (ci, fs))) (hc : vwCl[ci]? = some (Cn, T, N)) (hin : ∀ w ∈ u_ws Cn T N, w ∈ wsL_law) {ty0 : Nat → FieldType} (hty : ∀ k, k < N → parseFieldDescriptor (T k).2.2.1 = some (ty0 k)) (hnm : ∀ a, a < N → ∀ b, b < N → a ≠ b → (T a).2.1 ≠ (T b).2.1) (hlink : Cond.fieldLink own index ref (T k).2.1 (T k).2.2.1 ∈ wsL_law) (hk : k < N) (hsame : (T k).1 = ref) (hfin : (T k).2.2.2 = false) (hi : ty0 k = .int) (hl : k < fs.length) (hw : ws.set q0 (a, .inr (ci, fs.set k (.int x))) = ws') (hdg : decode cc pc = .ok (.putfield index, 3))
    (kk : ∀ (H1 : Heap) (locs1 : List Loc), xI D ws' A H0 H1 locs1 → W p l e R s m args below meth c H1 locs1 cells slots Q (F0 m (pc + 3) ls rest)) : W p l e R s m args below meth c H locs cells slots Q (F0 m pc ls (.int x :: .ref a :: rest)) :=
  va_put C.1.1 C.1.2.1 C.1.2.2.2.2 hin ty0 hty hnm C.1.2.2.2.1 C.2 I.1 I.2.1 I.2.2 q0 he hc k hk (C.1.2.2.2.2 _ hlink) (fun x h => by rw [← hsame]; exact h) hfin (ty := .int) (by rw [hty k hk, hi]) (vp_nar_int x) rfl hl hdg
    (fun H1 locs1 h1 h2 h3 => kk H1 locs1 (by subst hw; exact ⟨h1, h2, h3⟩))
theorem x_ald (C : xC p s m args c cc nL own D cI cZ) (I : xI D ws A H0 H locs) {q0 n : Nat} {f : Nat → Int32} (he : ws[q0]? = some (a, .inl (cI, n, .inl f))) {i : Int32} (hin : vp_in i n) (hdg : decode cc pc = .ok (.iaload, 1))
    (kk : W p l e R s m args below meth c H locs cells slots Q (F0 m (pc + 1) ls (.int (f i.toNatClampNeg) :: rest))) : W p l e R s m args below meth c H locs cells slots Q (F0 m pc ls (.int i :: .ref a :: rest)) :=
  va_iald C.1.1 C.1.2.1 C.2 I.1 q0 0 he rfl hin hdg kk
theorem x_zld (C : xC p s m args c cc nL own D cI cZ) (I : xI D ws A H0 H locs) {q0 n : Nat} {f : Nat → Int32} (he : ws[q0]? = some (a, .inl (cZ, n, .inl f))) {i : Int32} (hin : vp_in i n) (hdg : decode cc pc = .ok (.baload, 1))
    (kk : W p l e R s m args below meth c H locs cells slots Q (F0 m (pc + 1) ls (.int (f i.toNatClampNeg) :: rest))) : W p l e R s m args below meth c H locs cells slots Q (F0 m pc ls (.int i :: .ref a :: rest)) :=
  va_zald C.1.1 C.1.2.1 C.2 I.1 q0 1 he rfl hin hdg kk
theorem x_ast (C : xC p s m args c cc nL own D cI cZ) (I : xI D ws A H0 H locs) {q0 n : Nat} {f : Nat → Int32} (he : ws[q0]? = some (a, .inl (cI, n, .inl f))) {i x : Int32} (hin : vp_in i n) {ws' : va_W} (hw : ws.set q0 (a, .inl (cI, n, .inl (upd f i.toNatClampNeg x))) = ws') (hdg : decode cc pc = .ok (.iastore, 1))
    (kk : ∀ (H1 : Heap) (locs1 : List Loc), xI D ws' A H0 H1 locs1 → W p l e R s m args below meth c H1 locs1 cells slots Q (F0 m (pc + 1) ls rest)) : W p l e R s m args below meth c H locs cells slots Q (F0 m pc ls (.int x :: .int i :: .ref a :: rest)) :=
  va_iast C.1.1 C.1.2.1 C.2 I.1 I.2.1 I.2.2 q0 0 he rfl hin hdg (fun H1 locs1 h1 h2 h3 => kk H1 locs1 (by subst hw; exact ⟨h1, h2, h3⟩))
theorem x_zst (C : xC p s m args c cc nL own D cI cZ) (I : xI D ws A H0 H locs) {q0 n : Nat} {f : Nat → Int32} (he : ws[q0]? = some (a, .inl (cZ, n, .inl f))) {i x : Int32} (hin : vp_in i n) {ws' : va_W} (hw : ws.set q0 (a, .inl (cZ, n, .inl (upd f i.toNatClampNeg (vp_nar .boolean x)))) = ws') (hdg : decode cc pc = .ok (.bastore, 1))
    (kk : ∀ (H1 : Heap) (locs1 : List Loc), xI D ws' A H0 H1 locs1 → W p l e R s m args below meth c H1 locs1 cells slots Q (F0 m (pc + 1) ls rest)) : W p l e R s m args below meth c H locs cells slots Q (F0 m pc ls (.int x :: .int i :: .ref a :: rest)) :=
  va_zast C.1.1 C.1.2.1 C.2 I.1 I.2.1 I.2.2 q0 1 he rfl hin hdg (fun H1 locs1 h1 h2 h3 => kk H1 locs1 (by subst hw; exact ⟨h1, h2, h3⟩))
theorem x_ldc (C : xC p s m args c cc nL own D cI cZ) {index : Nat} {v : Int32} (hm : Cond.constant own index v ∈ wsL_law) (hdg : decode cc pc = .ok (.ldc index, 2))
    (kk : W p l e R s m args below meth c H locs cells slots Q (F0 m (pc + 2) ls (.int v :: rest))) : W p l e R s m args below meth c H locs cells slots Q (F0 m pc ls rest) :=
  lv_ldc C.1.1 C.1.2.1 C.1.2.2.2.1 (C.1.2.2.2.2 _ hm) hdg kk
theorem x_ldc2 (C : xC p s m args c cc nL own D cI cZ) {index : Nat} {v : Int64} (hm : Cond.constantLong own index v ∈ wsL_law) (hdg : decode cc pc = .ok (.ldc2_w index, 3))
    (kk : W p l e R s m args below meth c H locs cells slots Q (F0 m (pc + 3) ls (.long v :: rest))) : W p l e R s m args below meth c H locs cells slots Q (F0 m pc ls rest) :=
  lv_ldc2 C.1.1 C.1.2.1 C.1.2.2.2.1 (C.1.2.2.2.2 _ hm) hdg kk
/-- what a call asks of the tables -/
def xL (own : String) (index : Nat) (y : MethodName) (bytes : ByteArray) (maxL n : Nat) (ret : Option FieldType) : Prop :=
  Cond.methodLink own index y ∈ wsL_law ∧ Cond.initialized y.cls ∈ wsL_law ∧ Cond.code y bytes maxL ret ∈ wsL_law ∧ (y.cls ≠ "java/lang/invoke/MethodHandle" ∧ y.cls ≠ "java/lang/invoke/VarHandle" ∧ (parseMethodDescriptor y.desc).map (fun d => d.parameters.length) = some n)
def xLV (own : String) (index : Nat) (y : MethodName) (bytes : ByteArray) (maxL n : Nat) (ret : Option FieldType) : Prop := xL own index y bytes maxL n ret ∧ Cond.instanceMethod y ∈ wsL_law ∧ Cond.selects y.cls y y ∈ wsL_law
def xLS (own : String) (index : Nat) (y : MethodName) (bytes : ByteArray) (maxL n : Nat) (ret : Option FieldType) : Prop := xL own index y bytes maxL n ret ∧ Cond.static y ∈ wsL_law
theorem x_callB (C : xC p s m args c cc nL own D cI cZ) {index maxL n : Nat} {y : MethodName} {bytes : ByteArray} {ret : Option FieldType} (hL : xL own index y bytes maxL n ret) {rm : Room} (hR : rm.frames + 1 ≤ R.frames ∧ 8 + (maxL + 11) + rm.locals ≤ R.locals) (hz : rm.cells = 0 ∧ rm.slots = 0) : CallB R s args own index y bytes maxL ret (xw y bytes maxL ret) rm 0 0 n :=
  callB_of n C.1.2.2.2.2 (x_goodL hL.2.2.1) rfl hz.1 hz.2 (C.1.2.2.2.2 _ hL.2.1) (C.1.2.2.2.2 _ hL.1) hL.2.2.2 hR
variable {S : Type} {w : S → va_W} {u : S} {As : List Value} {b index maxL n : Nat} {y : MethodName} {bytes : ByteArray} {ret : Option FieldType} {rm : Room}
theorem x_freed (hA : ∀ q, H0.size ≤ q → A q) (I : xI D ws A H0 H locs) : ∀ q, va_A ws H.size q → A q := by
  intro q h
  rcases h with ⟨k, e, h⟩ | h
  · exact I.2.1.2 k _ h
  · exact hA q (Nat.le_trans I.2.2.1 h)
theorem x_in (C : xC p s m args c cc nL own D cI cZ) (I : xI D ws A H0 H locs) : ∀ U : State, U.heap = H → s.WarmedH U.vm → xPre D cI cZ ws H.size U := fun U hU hW => ⟨by rw [hU], by rw [hU]; exact I.1, va_K.moved hW.alike C.2, I.2.1.weaken (fun _ _ _ _ => trivial)⟩
theorem x_calli (C : xC p s m args c cc nL own D cI cZ) (I : xI D (w u) A H0 H locs) (hA : ∀ q, H0.size ≤ q → A q) {post : Int32 → S → Prop} (hM : xMi l y bytes maxL ret rm D cI cZ w u (.ref b :: As) post) (hL : xLV own index y bytes maxL n ret) {q0 ci N : Nat} {T : u_T} {fs : List Value} (he : (w u)[q0]? = some (b, .inr (ci, fs))) (hc : vwCl[ci]? = some (y.cls, T, N)) (hR : rm.frames + 1 ≤ R.frames ∧ 8 + (maxL + 11) + rm.locals ≤ R.locals) (hz : rm.cells = 0 ∧ rm.slots = 0) (hcs : cells ≤ R.cells ∧ slots ≤ R.slots) (hn : As.length = n) (hl : ls.size = nL) {st0 : List Value} (hst : st0 = As.reverse ++ .ref b :: rest) (hrest : (rest.map fun v => v.category).sum ≤ 8) (hdg : decode cc pc = .ok (.invokevirtual index, 3))
    (kk : ∀ (r : Int32) (u2 : S) (H1 : Heap) (locs1 : List Loc), post r u2 → xI D (w u2) A H0 H1 locs1 → W p l e R s m args below meth c H1 locs1 cells slots Q (F0 m (pc + 3) ls (.int r :: rest))) : W p l e R s m args below meth c H locs cells slots Q (F0 m pc ls st0) := by
  have hF := x_freed hA I
  refine va_calli (va_runV (As := As) (rest := rest) C.1 (hM H.size) ⟨x_callB C hL.1 hR hz, C.1.2.2.2.2 _ hL.2.1, C.1.2.2.2.2 _ hL.2.2⟩ ⟨xPre_blind, va_recv C.2 I.1 hc he, fun U hU hW => ⟨rfl, x_in C I U hU hW⟩⟩ rfl hn hl hst (lv_room hrest) hdg hcs) I.2.2 (fun q _ h => hF q h) hF (fun r u2 t H1 locs1 ht hvm hp hB hz1 hk1 hS => ?_)
  obtain ⟨h1, h2, h3⟩ := hB
  rw [ht] at h1
  exact kk r u2 H1 locs1 hp ⟨h1, h3.weaken (fun _ q _ h => hF _ h), hS⟩
theorem x_callv (C : xC p s m args c cc nL own D cI cZ) (I : xI D (w u) A H0 H locs) (hA : ∀ q, H0.size ≤ q → A q) {post : S → Prop} (hM : xMv l y bytes maxL ret rm D cI cZ w u (.ref b :: As) post) (hL : xLV own index y bytes maxL n ret) {q0 ci N : Nat} {T : u_T} {fs : List Value} (he : (w u)[q0]? = some (b, .inr (ci, fs))) (hc : vwCl[ci]? = some (y.cls, T, N)) (hR : rm.frames + 1 ≤ R.frames ∧ 8 + (maxL + 11) + rm.locals ≤ R.locals) (hz : rm.cells = 0 ∧ rm.slots = 0) (hcs : cells ≤ R.cells ∧ slots ≤ R.slots) (hn : As.length = n) (hl : ls.size = nL) {st0 : List Value} (hst : st0 = As.reverse ++ .ref b :: rest) (hrest : (rest.map fun v => v.category).sum ≤ 8) (hdg : decode cc pc = .ok (.invokevirtual index, 3))
    (kk : ∀ (u2 : S) (H1 : Heap) (locs1 : List Loc), post u2 → xI D (w u2) A H0 H1 locs1 → W p l e R s m args below meth c H1 locs1 cells slots Q (F0 m (pc + 3) ls rest)) : W p l e R s m args below meth c H locs cells slots Q (F0 m pc ls st0) := by
  have hF := x_freed hA I
  refine va_callv (va_runV (As := As) (rest := rest) C.1 (hM H.size) ⟨x_callB C hL.1 hR hz, C.1.2.2.2.2 _ hL.2.1, C.1.2.2.2.2 _ hL.2.2⟩ ⟨xPre_blind, va_recv C.2 I.1 hc he, fun U hU hW => ⟨rfl, x_in C I U hU hW⟩⟩ rfl hn hl hst (lv_room hrest) hdg hcs) I.2.2 (fun q _ h => hF q h) hF (fun u2 t H1 locs1 ht hvm hp hB hz1 hk1 hS => ?_)
  obtain ⟨h1, h2, h3⟩ := hB
  rw [ht] at h1
  exact kk u2 H1 locs1 hp ⟨h1, h3.weaken (fun _ q _ h => hF _ h), hS⟩
theorem x_calls (C : xC p s m args c cc nL own D cI cZ) (I : xI D (w u) A H0 H locs) (hA : ∀ q, H0.size ≤ q → A q) {post : Int32 → S → Prop} (hM : xMi l y bytes maxL ret rm D cI cZ w u As post) (hL : xLS own index y bytes maxL n ret) (hR : rm.frames + 1 ≤ R.frames ∧ 8 + (maxL + 11) + rm.locals ≤ R.locals) (hz : rm.cells = 0 ∧ rm.slots = 0) (hcs : cells ≤ R.cells ∧ slots ≤ R.slots) (hn : As.length = n) (hl : ls.size = nL) {st0 : List Value} (hst : st0 = As.reverse ++ rest) (hrest : (rest.map fun v => v.category).sum ≤ 8) (hdg : decode cc pc = .ok (.invokestatic index, 3))
    (kk : ∀ (r : Int32) (u2 : S) (H1 : Heap) (locs1 : List Loc), post r u2 → xI D (w u2) A H0 H1 locs1 → W p l e R s m args below meth c H1 locs1 cells slots Q (F0 m (pc + 3) ls (.int r :: rest))) : W p l e R s m args below meth c H locs cells slots Q (F0 m pc ls st0) := by
  have hF := x_freed hA I
  refine va_calli (va_runS (As := As) (rest := rest) C.1 (hM H.size) ⟨x_callB C hL.1 hR hz, C.1.2.2.2.2 _ hL.2⟩ ⟨xPre_blind, fun U hU hW => ⟨rfl, x_in C I U hU hW⟩⟩ rfl hn hl hst (lv_room hrest) hdg hcs) I.2.2 (fun q _ h => hF q h) hF (fun r u2 t H1 locs1 ht hvm hp hB hz1 hk1 hS => ?_)
  obtain ⟨h1, h2, h3⟩ := hB
  rw [ht] at h1
  exact kk r u2 H1 locs1 hp ⟨h1, h3.weaken (fun _ q _ h => hF _ h), hS⟩
theorem x_mmin (C : xC p s m args c cc nL own D cI cZ) {index : Nat} (hlink : Cond.methodLink own index Lib.Math.min.name ∈ wsL_law) (hq : Cond.static Lib.Math.min.name ∈ wsL_law ∧ Cond.initialized "java/lang/Math" ∈ wsL_law ∧ Cond.code Lib.Math.min.name Lib.Math.min.code 2 (some .int) ∈ wsL_law) (hl : ls.size = nL) (hframes : 1 ≤ R.frames) (hlocals : (rest.map fun v => v.category).sum + 13 ≤ R.locals) (hcs : cells ≤ R.cells ∧ slots ≤ R.slots) {x y : Int32} (hdg : decode cc pc = .ok (.invokestatic index, 3))
    (kk : W p l e R s m args below meth c H locs cells slots Q (F0 m (pc + 3) ls (.int (x_min x y) :: rest))) : W p l e R s m args below meth c H locs cells slots Q (F0 m pc ls (.int y :: .int x :: rest)) :=
  va_mmin C.1.1 C.1.2.1 (C.1.2.2.1.trans hl.symm) C.1.2.2.2.1 (C.1.2.2.2.2 _ hlink) (C.1.2.2.2.2 _ hq.1) (C.1.2.2.2.2 _ hq.2.1) (C.1.2.2.2.2 _ hq.2.2) hframes hlocals hcs.1 hcs.2 hdg kk
theorem x_mmax (C : xC p s m args c cc nL own D cI cZ) {index : Nat} (hlink : Cond.methodLink own index Lib.Math.max.name ∈ wsL_law) (hq : Cond.static Lib.Math.max.name ∈ wsL_law ∧ Cond.initialized "java/lang/Math" ∈ wsL_law ∧ Cond.code Lib.Math.max.name Lib.Math.max.code 2 (some .int) ∈ wsL_law) (hl : ls.size = nL) (hframes : 1 ≤ R.frames) (hlocals : (rest.map fun v => v.category).sum + 13 ≤ R.locals) (hcs : cells ≤ R.cells ∧ slots ≤ R.slots) {x y : Int32} (hdg : decode cc pc = .ok (.invokestatic index, 3))
    (kk : W p l e R s m args below meth c H locs cells slots Q (F0 m (pc + 3) ls (.int (x_max x y) :: rest))) : W p l e R s m args below meth c H locs cells slots Q (F0 m pc ls (.int y :: .int x :: rest)) :=
  va_mmax C.1.1 C.1.2.1 (C.1.2.2.1.trans hl.symm) C.1.2.2.2.1 (C.1.2.2.2.2 _ hlink) (C.1.2.2.2.2 _ hq.1) (C.1.2.2.2.2 _ hq.2.1) (C.1.2.2.2.2 _ hq.2.2) hframes hlocals hcs.1 hcs.2 hdg kk
/-- ends -/
theorem x_ireti (C : xC p s m args c cc nL own D cI cZ) {post : Int32 → S → Prop} (I : xI D (w u) A s.heap H locs) (hr : meth.sig.returnType = some .int) (hlocks : meth.locks = false) {v : Int32} (hp : post v u) (hdg : decode cc pc = .ok (.ireturn, 1)) : W p l e R s m args below meth c H locs cells slots (MQ below (va_Qi post (xPost D cI cZ A w) A) args s cells slots A) (F0 m pc ls [.int v]) :=
  W.iret C.1.1 C.1.2.1 hr (fun t ht hW => ⟨⟨v, u, rfl, hp, by rw [ht]; exact I.1, va_K.moved hW.alike C.2, I.2.1⟩, I.2.2.F ht⟩) I.2.2.2.2 hdg
theorem x_iretz (C : xC p s m args c cc nL own D cI cZ) {post : Int32 → S → Prop} (I : xI D (w u) A s.heap H locs) (hr : meth.sig.returnType = some .boolean) (hlocks : meth.locks = false) {v : Int32} (hn : narrow .boolean (.int v) = .int v) (hp : post v u) (hdg : decode cc pc = .ok (.ireturn, 1)) : W p l e R s m args below meth c H locs cells slots (MQ below (va_Qi post (xPost D cI cZ A w) A) args s cells slots A) (F0 m pc ls [.int v]) :=
  W.zret C.1.1 C.1.2.1 hr hn (fun t ht hW => ⟨⟨v, u, rfl, hp, by rw [ht]; exact I.1, va_K.moved hW.alike C.2, I.2.1⟩, I.2.2.F ht⟩) I.2.2.2.2 hdg
theorem x_retv (C : xC p s m args c cc nL own D cI cZ) {post : S → Prop} (I : xI D (w u) A s.heap H locs) (hr : meth.sig.returnType = none) (hlocks : meth.locks = false) (hp : post u) (hdg : decode cc pc = .ok (.return_, 1)) : W p l e R s m args below meth c H locs cells slots (MQ below (va_Qv post (xPost D cI cZ A w) A) args s cells slots A) (F0 m pc ls []) :=
  W.vret C.1.1 C.1.2.1 hr (fun t ht hW => ⟨⟨u, rfl, hp, by rw [ht]; exact I.1, va_K.moved hW.alike C.2, I.2.1⟩, I.2.2.F ht⟩) I.2.2.2.2 hdg
end XR
/-- what a walk of a body begins with -/
def xB {S : Type} (l : Launch) (y : MethodName) (cc : ByteArray) (n : Nat) (r : Option FieldType) (rm : Room) (D : va_G) (cI cZ : ClassId) (w : S → va_W) (u : S) (av : List Value) (own : String) (Qc : (Nat → Prop) → Array Value → State → Outcome → State → Prop) : Prop :=
  ∀ (p : Program) (e : Env) (s : State) (m : MethodId) (below : List Frame) (meth : Method) (c : Code) (A : Nat → Prop) (ls : Array Slot), xC p s m av.toArray c cc n own D cI cZ → meth.sig.returnType = r → meth.locks = false → (∀ q : Nat, s.heap.size ≤ q → A q) → xI D (w u) A s.heap s.heap [] → lv_has ls n (lv_args 0 av) →
    W p l e rm s m av.toArray below meth c s.heap [] 0 0 (MQ below (Qc A) av.toArray s 0 0 A) (F0 m 0 ls [])
theorem x_body {S : Type} {l : Launch} {y : MethodName} {cc : ByteArray} {n : Nat} {r : Option FieldType} {rm : Room} {D : va_G} {cI cZ : ClassId} {w : S → va_W} {u : S} {av : List Value} {own : String} {Qc : (Nat → Prop) → Array Value → State → Outcome → State → Prop} (hy : plainName y.cls = true) (ho : y.cls = own) (hav : (lg_sl av).length ≤ n) (h : xB l y cc n r rm D cI cZ w u av own Qc) (sz : Nat) :
    Met l y (xw y cc n r) rm (va_Pc av (xPre D cI cZ (w u) sz)) (Qc (va_A (w u) sz)) 0 0 (va_A (w u) sz) := by
  refine Met.ofW (cc := cc) (maxL := n) (ret := r) hy rfl ?_
  intro p e s m args below meth c s₁ B hml hv
  obtain ⟨rfl, hsz, hP, hK, hD0⟩ := hv
  subst hsz
  have hts := atoms_spec (ws := xw y cc n r) B.pre
  have hown : s.vm.findClass own = some m.cls := by rw [← ho]; exact findClass_of_methodNamed B.named
  have hl := lv_entry av (n := n) hav
  rw [lg_entry_eq]
  exact h p e s m below meth c (va_A (w u) s.heap.size) _ ⟨⟨B.exec, B.bytes, hml, hown, fun w hw => hts w (List.mem_cons_of_mem _ hw)⟩, hK⟩ B.returns B.notSynchronized (fun q h => Or.inr h) ⟨hP, hD0.self, va_S.rf⟩ hl
theorem x_bodyi {S : Type} {l : Launch} {y : MethodName} {cc : ByteArray} {n : Nat} {r : Option FieldType} {rm : Room} {D : va_G} {cI cZ : ClassId} {w : S → va_W} {u : S} {av : List Value} {own : String} {post : Int32 → S → Prop} (hy : plainName y.cls = true) (ho : y.cls = own) (hav : (lg_sl av).length ≤ n) (h : xB l y cc n r rm D cI cZ w u av own (fun A => va_Qi post (xPost D cI cZ A w) A)) : xMi l y cc n r rm D cI cZ w u av post := fun sz => x_body hy ho hav h sz
theorem x_bodyv {S : Type} {l : Launch} {y : MethodName} {cc : ByteArray} {n : Nat} {r : Option FieldType} {rm : Room} {D : va_G} {cI cZ : ClassId} {w : S → va_W} {u : S} {av : List Value} {own : String} {post : S → Prop} (hy : plainName y.cls = true) (ho : y.cls = own) (hav : (lg_sl av).length ≤ n) (h : xB l y cc n r rm D cI cZ w u av own (fun A => va_Qv post (xPost D cI cZ A w) A)) : xMv l y cc n r rm D cI cZ w u av post := fun sz => x_body hy ho hav h sz
/-! the frame rule for a contract: a smaller world's contract in a larger world -/
theorem x_Pl {D : va_G} {a b : va_W} {H : Heap} (h : va_P D vwCl (a ++ b) H) : va_P D vwCl a H := fun k q hk => h k q (by rw [List.getElem?_append_left (List.getElem?_eq_some_iff.mp hk).1]; exact hk)
theorem x_Pr {D : va_G} {a b : va_W} {H : Heap} (h : va_P D vwCl (a ++ b) H) : va_P D vwCl b H := fun k q hk => h (a.length + k) q (by rw [List.getElem?_append_right (by omega)]; rw [show a.length + k - a.length = k by omega]; exact hk)
theorem x_Dl {A : Nat → Prop} {a b : va_W} (h : va_D A (a ++ b)) : va_D A a := by
  have e : ∀ (k : Nat) (q : Nat × va_E), a[k]? = some q → (a ++ b)[k]? = some q := fun k q hk => by rw [List.getElem?_append_left (List.getElem?_eq_some_iff.mp hk).1]; exact hk
  exact ⟨fun i j p q hi hj => h.1 i j p q (e i p hi) (e j q hj), fun k q hk => h.2 k q (e k q hk)⟩
theorem x_Dr {A : Nat → Prop} {a b : va_W} (h : va_D A (a ++ b)) : va_D A b := by
  have e : ∀ (k : Nat) (q : Nat × va_E), b[k]? = some q → (a ++ b)[a.length + k]? = some q := fun k q hk => by rw [List.getElem?_append_right (by omega)]; rw [show a.length + k - a.length = k by omega]; exact hk
  exact ⟨fun i j p q hi hj hpq => by have := h.1 _ _ p q (e i p hi) (e j q hj) hpq; omega, fun k q hk => h.2 _ q (e k q hk)⟩
theorem x_Dx {A : Nat → Prop} {a b : va_W} (h : va_D A (a ++ b)) : ∀ (i j : Nat) (p q : Nat × va_E), a[i]? = some p → b[j]? = some q → p.1 ≠ q.1 := by
  intro i j p q hi hj hpq
  have hil := (List.getElem?_eq_some_iff.mp hi).1
  have := h.1 i (a.length + j) p q (by rw [List.getElem?_append_left hil]; exact hi) (by rw [List.getElem?_append_right (by omega)]; rw [show a.length + j - a.length = j by omega]; exact hj) hpq
  omega
/-- cells apart from a callee's: they stay, and stay apart -/
theorem x_keep {D : va_G} {X w1 w2 : va_W} {sz : Nat} {H H1 : Heap} (hP : va_P D vwCl X H) (hz : H.size = sz) (hx : ∀ (i j : Nat) (p q : Nat × va_E), X[i]? = some p → w1[j]? = some q → p.1 ≠ q.1) (hk : ∀ q : Nat, q < H.size → ¬ va_A w1 sz q → H1[q]? = H[q]?) (hD2 : va_D (va_A w1 sz) w2) : va_P D vwCl X H1 ∧ ∀ (i j : Nat) (p q : Nat × va_E), X[i]? = some p → w2[j]? = some q → p.1 ≠ q.1 := by
  have ap : ∀ (k : Nat) (q : Nat × va_E), X[k]? = some q → q.1 < H.size ∧ ¬ va_A w1 sz q.1 := by
    intro k q hq
    have hl := (hP k q hq).lt
    refine ⟨hl, fun h => ?_⟩
    rcases h with ⟨k2, e, h⟩ | h
    · exact hx k k2 q (q.1, e) hq h rfl
    · omega
  exact ⟨fun k q hq => (hP k q hq).kept (hk q.1 (ap k q hq).1 (ap k q hq).2), fun i j p q hi hj hpq => (ap i p hi).2 (by rw [hpq]; exact hD2.2 j q hj)⟩
theorem x_AA {X w1 Y : va_W} {sz q : Nat} (h : va_A w1 sz q) : va_A (X ++ (w1 ++ Y)) sz q := by
  rcases h with ⟨k, e, h⟩ | h
  · refine Or.inl ⟨X.length + k, e, ?_⟩
    rw [List.getElem?_append_right (by omega), show X.length + k - X.length = k by omega, List.getElem?_append_left (List.getElem?_eq_some_iff.mp h).1]
    exact h
  · exact Or.inr h
theorem x_lift0 {S1 S2 : Type} {D : va_G} {cI cZ : ClassId} {w1 : S1 → va_W} {w : S2 → va_W} {u1 : S1} {u : S2} (X Y : va_W) (inj : S1 → S2) (hw : ∀ v, w (inj v) = X ++ (w1 v ++ Y)) (hu : inj u1 = u) {sz : Nat} {st t : State} (hpre : xPre D cI cZ (w u) sz st) {v : S1} (hB : xPost D cI cZ (va_A (w1 u1) sz) w1 v t) (hF : va_F (va_A (w1 u1) sz) st t) : xPost D cI cZ (va_A (w u) sz) w (inj v) t ∧ va_F (va_A (w u) sz) st t := by
  subst hu
  obtain ⟨hsz, hP, hK, hD⟩ := hpre
  obtain ⟨hP1, hK1, hD1⟩ := hB
  rw [hw] at hP hD ⊢
  have hx1 := x_Dx hD
  have hD' := x_Dr hD
  have hx2 := x_Dx hD'
  have hk : ∀ q : Nat, q < st.heap.size → ¬ va_A (w1 u1) sz q → t.heap[q]? = st.heap[q]? := hF.2
  obtain ⟨a1, a2⟩ := x_keep (w2 := w1 v) (x_Pl hP) hsz (fun i j p q hi hj => hx1 i j p q hi (by rw [List.getElem?_append_left (List.getElem?_eq_some_iff.mp hj).1]; exact hj)) hk hD1
  obtain ⟨b1, b2⟩ := x_keep (w2 := w1 v) (x_Pr (x_Pr hP)) hsz (fun i j p q hi hj => (hx2 j i q p hj hi).symm) hk hD1
  have e1 : va_D (va_A (X ++ (w1 u1 ++ Y)) sz) (w1 v) := hD1.weaken (fun _ _ _ h => x_AA h)
  have e2 : va_D (va_A (X ++ (w1 u1 ++ Y)) sz) X := x_Dl hD.self
  have e3 : va_D (va_A (X ++ (w1 u1 ++ Y)) sz) Y := x_Dr (x_Dr hD.self)
  refine ⟨⟨by rw [hw]; exact a1.app (hP1.app b1), hK1, ?_⟩, hF.1, fun q h1 h2 => hk q h1 (fun h => h2 (x_AA h))⟩
  rw [hw]
  refine e2.app (e1.app e3 (fun i j p q hi hj => (b2 j i q p hj hi).symm)) (fun i j p q hi hj => ?_)
  by_cases hjl : j < (w1 v).length
  · rw [List.getElem?_append_left hjl] at hj
    exact a2 i j p q hi hj
  · rw [List.getElem?_append_right (by omega)] at hj
    refine hx1 i ((w1 u1).length + (j - (w1 v).length)) p q hi ?_
    rw [List.getElem?_append_right (by omega), show (w1 u1).length + (j - (w1 v).length) - (w1 u1).length = j - (w1 v).length by omega]
    exact hj
theorem x_liftP {S1 S2 : Type} {D : va_G} {cI cZ : ClassId} {w1 : S1 → va_W} {w : S2 → va_W} {u1 : S1} {u : S2} (X Y : va_W) (inj : S1 → S2) (hw : ∀ v, w (inj v) = X ++ (w1 v ++ Y)) (hu : inj u1 = u) {sz : Nat} {st : State} (hpre : xPre D cI cZ (w u) sz st) : xPre D cI cZ (w1 u1) sz st := by
  subst hu
  obtain ⟨hsz, hP, hK, hD⟩ := hpre
  rw [hw] at hP hD
  exact ⟨hsz, x_Pl (x_Pr hP), hK, x_Dl (x_Dr hD)⟩
theorem x_lifti {S1 S2 : Type} {l : Launch} {y : MethodName} {cc : ByteArray} {n : Nat} {r : Option FieldType} {rm : Room} {D : va_G} {cI cZ : ClassId} {w1 : S1 → va_W} {w : S2 → va_W} {u1 : S1} {u : S2} {av : List Value} {post : Int32 → S2 → Prop} (X Y : va_W) (inj : S1 → S2) (hw : ∀ v, w (inj v) = X ++ (w1 v ++ Y)) (hu : inj u1 = u) (h : xMi l y cc n r rm D cI cZ w1 u1 av (fun r v => post r (inj v))) : xMi l y cc n r rm D cI cZ w u av post := by
  intro sz
  refine MetFree.mono (h sz) (fun a s hp => ⟨hp.1, x_liftP X Y inj hw hu hp.2⟩) (fun _ _ _ _ _ h => h) (fun a s o t hp hq => ?_)
  obtain ⟨⟨⟨rv, v, ho, hpost, hB⟩, hF⟩, L, hL, hfree⟩ := hq
  obtain ⟨g1, g2⟩ := x_lift0 X Y inj hw hu hp.2 hB hF
  refine ⟨⟨⟨rv, inj v, ho, hpost, g1⟩, g2⟩, L, hL, fun q hq => ?_⟩
  have := hfree q hq
  rw [← hu, hw]
  exact x_AA this
theorem x_liftv {S1 S2 : Type} {l : Launch} {y : MethodName} {cc : ByteArray} {n : Nat} {r : Option FieldType} {rm : Room} {D : va_G} {cI cZ : ClassId} {w1 : S1 → va_W} {w : S2 → va_W} {u1 : S1} {u : S2} {av : List Value} {post : S2 → Prop} (X Y : va_W) (inj : S1 → S2) (hw : ∀ v, w (inj v) = X ++ (w1 v ++ Y)) (hu : inj u1 = u) (h : xMv l y cc n r rm D cI cZ w1 u1 av (fun v => post (inj v))) : xMv l y cc n r rm D cI cZ w u av post := by
  intro sz
  refine MetFree.mono (h sz) (fun a s hp => ⟨hp.1, x_liftP X Y inj hw hu hp.2⟩) (fun _ _ _ _ _ h => h) (fun a s o t hp hq => ?_)
  obtain ⟨⟨⟨v, ho, hpost, hB⟩, hF⟩, L, hL, hfree⟩ := hq
  obtain ⟨g1, g2⟩ := x_lift0 X Y inj hw hu hp.2 hB hF
  refine ⟨⟨⟨inj v, ho, hpost, g1⟩, g2⟩, L, hL, fun q hq => ?_⟩
  have := hfree q hq
  rw [← hu, hw]
  exact x_AA this
