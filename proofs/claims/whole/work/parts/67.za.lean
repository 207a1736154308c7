/-! making objects: the world as a list that grows -/
abbrev GX : Type := Program × Launch × Env × Room × State × MethodId × Array Value × List Frame × Method × Code × va_G × (Nat → ClassId) × (Nat → Prop) × (State → Prop)
def GW (X : GX) (M : MI) (pc : Nat) (ls : Lo) (st : List Value) (ws : va_W) (k n : Nat) : Prop := match X with
  | (p, l, e, R, s, m, args, below, meth, c, G, tc, A, Q) => ∀ (Lx : Array Slot) (H : Heap) (locs : List Loc), lv_has Lx M.2.2.1 ls → va_P G vwCl ws H → va_D A ws → va_S A s.heap H locs → W p l e R s m args below meth c H locs k n Q (F0 m pc Lx st)
def gK (G : va_G) (tc : Nat → ClassId) (U : State) : Prop := wK G tc U ∧ va_AO RX4 U
theorem gK_call {G : va_G} {tc : Nat → ClassId} {U : State} {g : JFrame} {mk : MethodId} {av : Array Value} (h : gK G tc U) : gK G tc (U.calling g mk av) :=
  ⟨⟨va_K.moved (u := U) (U := U.calling g mk av) (Vm.Alike.refl U.vm) h.1.1, va_Nw.same rfl (rfl : U.vm = (U.calling g mk av).vm) h.1.2.1, va_Nw.same rfl (rfl : U.vm = (U.calling g mk av).vm) h.1.2.2.1, va_Nw.same rfl (rfl : U.vm = (U.calling g mk av).vm) h.1.2.2.2⟩, va_AO.moved (u := U) (U := U.calling g mk av) (Vm.Alike.refl U.vm) h.2⟩
theorem va_nd_of {l : List Nat} (h : l.Nodup) : va_nd l = true := by
  induction l with
  | nil => rfl
  | cons a l ih =>
    simp only [va_nd, Bool.and_eq_true, decide_eq_true_eq]
    exact ⟨(List.nodup_cons.mp h).1, ih (List.nodup_cons.mp h).2⟩
theorem gK_warm {G : va_G} {tc : Nat → ClassId} {s U : State} (hW : s.WarmedH U.vm) (h : gK G tc s) : gK G tc U := ⟨wK_warm hW h.1, va_AO.moved hW.alike h.2⟩
def gCx (X : GX) (M : MI) : Prop := match X with
  | (p, l, e, R, s, m, args, below, meth, c, G, tc, A, Q) => p.tables.exec = Jvm.exec ∧ c.code = M.2.1 ∧ c.maxLocals = M.2.2.1 ∧ s.vm.findClass M.1.cls = some m.cls ∧ (∀ w ∈ gw, w.before args s = true) ∧ gK G tc s ∧ (∀ q, s.heap.size ≤ q → A q) ∧ R.frames = M.2.2.2.2 ∧ 38 * M.2.2.2.2 ≤ R.locals ∧ meth.locks = false ∧ meth.sig.returnType = M.2.2.2.1
def gI (X : GX) : Prop := match X with
  | (p, l, e, R, s, m, args, below, meth, c, G, tc, A, Q) => meth.name = "<init>"
def gRm (X : GX) (k n : Nat) : Prop := match X with
  | (p, l, e, R, s, m, args, below, meth, c, G, tc, A, Q) => k ≤ R.cells ∧ n ≤ R.slots
def gLG (X : GX) : Launch × va_G × (Nat → ClassId) := match X with
  | (p, l, e, R, s, m, args, below, meth, c, G, tc, A, Q) => (l, G, tc)
def gTc (X : GX) : Nat → ClassId := (gLG X).2.2
theorem g_al {X : GX} {M : MI} (h : gCx X M) {pc i v : Nat} {f : Fin 4} {ls : Lo} {st : List Value} {ws : va_W} {k n : Nat} (hf : (f : Nat) = i) (hd : decode M.2.1 pc = .ok (.aload_n f, 1)) (hl : ls.lookup i = some (.ref v)) (kk : GW X M (pc + 1) ls (.ref v :: st) ws k n) : GW X M pc ls st ws k n := by
  obtain ⟨p, l, e, R, s, m, args, below, meth, c, G, tc, A, Q⟩ := X
  obtain ⟨hx, hb, hml, hown, hts, ⟨⟨hK, hN3⟩, hO⟩, hA, hf1, hl1, hlk, hrt⟩ := h
  intro Lx H locs hL hP hD hS
  exact lv_aload_n hx hb hd hf (hL.2.2 (i, .ref v) (lk_mem hl)) (kk Lx H locs hL hP hD hS)
theorem g_il {X : GX} {M : MI} (h : gCx X M) {pc i : Nat} {v : Int32} {f : Fin 4} {ls : Lo} {st : List Value} {ws : va_W} {k n : Nat} (hf : (f : Nat) = i) (hd : decode M.2.1 pc = .ok (.iload_n f, 1)) (hl : ls.lookup i = some (.int v)) (kk : GW X M (pc + 1) ls (.int v :: st) ws k n) : GW X M pc ls st ws k n := by
  obtain ⟨p, l, e, R, s, m, args, below, meth, c, G, tc, A, Q⟩ := X
  obtain ⟨hx, hb, hml, hown, hts, ⟨⟨hK, hN3⟩, hO⟩, hA, hf1, hl1, hlk, hrt⟩ := h
  intro Lx H locs hL hP hD hS
  exact lv_iload_n hx hb hd hf (hL.2.2 (i, .int v) (lk_mem hl)) (kk Lx H locs hL hP hD hS)
theorem g_ic {X : GX} {M : MI} (h : gCx X M) {pc : Nat} {v : Int32} {n0 : Int} {ls : Lo} {st : List Value} {ws : va_W} {k n : Nat} (hv : Int32.ofInt n0 = v) (hd : decode M.2.1 pc = .ok (.iconst n0, 1)) (kk : GW X M (pc + 1) ls (.int v :: st) ws k n) : GW X M pc ls st ws k n := by
  obtain ⟨p, l, e, R, s, m, args, below, meth, c, G, tc, A, Q⟩ := X
  obtain ⟨hx, hb, hml, hown, hts, ⟨⟨hK, hN3⟩, hO⟩, hA, hf1, hl1, hlk, hrt⟩ := h
  intro Lx H locs hL hP hD hS
  exact lv_iconst hx hb hd hv (kk Lx H locs hL hP hD hS)
theorem g_bi {X : GX} {M : MI} (h : gCx X M) {pc : Nat} {v : Int32} {n0 : Int} {ls : Lo} {st : List Value} {ws : va_W} {k n : Nat} (hv : (Int8.ofInt n0).toInt32 = v) (hd : decode M.2.1 pc = .ok (.bipush n0, 2)) (kk : GW X M (pc + 2) ls (.int v :: st) ws k n) : GW X M pc ls st ws k n := by
  obtain ⟨p, l, e, R, s, m, args, below, meth, c, G, tc, A, Q⟩ := X
  obtain ⟨hx, hb, hml, hown, hts, ⟨⟨hK, hN3⟩, hO⟩, hA, hf1, hl1, hlk, hrt⟩ := h
  intro Lx H locs hL hP hD hS
  exact lv_bipush hx hb hd hv (kk Lx H locs hL hP hD hS)
theorem g_si {X : GX} {M : MI} (h : gCx X M) {pc : Nat} {v : Int32} {n0 : Int} {ls : Lo} {st : List Value} {ws : va_W} {k n : Nat} (hv : (Int16.ofInt n0).toInt32 = v) (hd : decode M.2.1 pc = .ok (.sipush n0, 3)) (kk : GW X M (pc + 3) ls (.int v :: st) ws k n) : GW X M pc ls st ws k n := by
  obtain ⟨p, l, e, R, s, m, args, below, meth, c, G, tc, A, Q⟩ := X
  obtain ⟨hx, hb, hml, hown, hts, ⟨⟨hK, hN3⟩, hO⟩, hA, hf1, hl1, hlk, hrt⟩ := h
  intro Lx H locs hL hP hD hS
  exact lv_sipush hx hb hd hv (kk Lx H locs hL hP hD hS)
theorem g_d1 {X : GX} {M : MI} (h : gCx X M) {pc : Nat} {ls : Lo} {st : List Value} {ws : va_W} {k n : Nat} (hd : decode M.2.1 pc = .ok (.dconst 1, 1)) (kk : GW X M (pc + 1) ls (.double 4607182418800017408 :: st) ws k n) : GW X M pc ls st ws k n := by
  obtain ⟨p, l, e, R, s, m, args, below, meth, c, G, tc, A, Q⟩ := X
  obtain ⟨hx, hb, hml, hown, hts, ⟨⟨hK, hN3⟩, hO⟩, hA, hf1, hl1, hlk, hrt⟩ := h
  intro Lx H locs hL hP hD hS
  exact lv_dconst1 hx hb hd (kk Lx H locs hL hP hD hS)
theorem g_ld {X : GX} {M : MI} (h : gCx X M) {pc i : Nat} {v : UInt64} {ls : Lo} {st : List Value} {ws : va_W} {k n : Nat} (hw : Cond.constantDouble M.1.cls i v ∈ gw) (hd : decode M.2.1 pc = .ok (.ldc2_w i, 3)) (kk : GW X M (pc + 3) ls (.double v :: st) ws k n) : GW X M pc ls st ws k n := by
  obtain ⟨p, l, e, R, s, m, args, below, meth, c, G, tc, A, Q⟩ := X
  obtain ⟨hx, hb, hml, hown, hts, ⟨⟨hK, hN3⟩, hO⟩, hA, hf1, hl1, hlk, hrt⟩ := h
  intro Lx H locs hL hP hD hS
  exact lv_ldc2d hx hb hown (hts _ hw) hd (kk Lx H locs hL hP hD hS)
theorem g_dup {X : GX} {M : MI} (h : gCx X M) {pc v : Nat} {ls : Lo} {st : List Value} {ws : va_W} {k n : Nat} (hd : decode M.2.1 pc = .ok (.dup, 1)) (kk : GW X M (pc + 1) ls (.ref v :: .ref v :: st) ws k n) : GW X M pc ls (.ref v :: st) ws k n := by
  obtain ⟨p, l, e, R, s, m, args, below, meth, c, G, tc, A, Q⟩ := X
  obtain ⟨hx, hb, hml, hown, hts, ⟨⟨hK, hN3⟩, hO⟩, hA, hf1, hl1, hlk, hrt⟩ := h
  intro Lx H locs hL hP hD hS
  exact lv_dup hx hb hd rfl (kk Lx H locs hL hP hD hS)
theorem g_as {X : GX} {M : MI} (h : gCx X M) {pc i v : Nat} {f : Fin 4} {ls : Lo} {st : List Value} {ws : va_W} {k n : Nat} (hf : (f : Nat) = i) (hd : decode M.2.1 pc = .ok (.astore_n f, 1)) (hi : i < M.2.2.1) (kk : GW X M (pc + 1) (lset1 ls i (.ref v)) st ws k n) : GW X M pc ls (.ref v :: st) ws k n := by
  obtain ⟨p, l, e, R, s, m, args, below, meth, c, G, tc, A, Q⟩ := X
  obtain ⟨hx, hb, hml, hown, hts, ⟨⟨hK, hN3⟩, hO⟩, hA, hf1, hl1, hlk, hrt⟩ := h
  intro Lx H locs hL hP hD hS
  exact lv_astore_n hx hb hd hf hL hi rfl (fun Lx hL => kk Lx H locs hL hP hD hS)
theorem g_asw {X : GX} {M : MI} (h : gCx X M) {pc i v : Nat} {ls : Lo} {st : List Value} {ws : va_W} {k n : Nat} (hd : decode M.2.1 pc = .ok (.astore i, 2)) (hi : i < M.2.2.1) (kk : GW X M (pc + 2) (lset1 ls i (.ref v)) st ws k n) : GW X M pc ls (.ref v :: st) ws k n := by
  obtain ⟨p, l, e, R, s, m, args, below, meth, c, G, tc, A, Q⟩ := X
  obtain ⟨hx, hb, hml, hown, hts, ⟨⟨hK, hN3⟩, hO⟩, hA, hf1, hl1, hlk, hrt⟩ := h
  intro Lx H locs hL hP hD hS
  exact lv_astore hx hb hd hL hi rfl (fun Lx hL => kk Lx H locs hL hP hD hS)
theorem g_is {X : GX} {M : MI} (h : gCx X M) {pc i : Nat} {v : Int32} {f : Fin 4} {ls : Lo} {st : List Value} {ws : va_W} {k n : Nat} (hf : (f : Nat) = i) (hd : decode M.2.1 pc = .ok (.istore_n f, 1)) (hi : i < M.2.2.1) (kk : GW X M (pc + 1) (lset1 ls i (.int v)) st ws k n) : GW X M pc ls (.int v :: st) ws k n := by
  obtain ⟨p, l, e, R, s, m, args, below, meth, c, G, tc, A, Q⟩ := X
  obtain ⟨hx, hb, hml, hown, hts, ⟨⟨hK, hN3⟩, hO⟩, hA, hf1, hl1, hlk, hrt⟩ := h
  intro Lx H locs hL hP hD hS
  exact lv_istore_n hx hb hd hf hL hi rfl (fun Lx hL => kk Lx H locs hL hP hD hS)
theorem g_isw {X : GX} {M : MI} (h : gCx X M) {pc i : Nat} {v : Int32} {ls : Lo} {st : List Value} {ws : va_W} {k n : Nat} (hd : decode M.2.1 pc = .ok (.istore i, 2)) (hi : i < M.2.2.1) (kk : GW X M (pc + 2) (lset1 ls i (.int v)) st ws k n) : GW X M pc ls (.int v :: st) ws k n := by
  obtain ⟨p, l, e, R, s, m, args, below, meth, c, G, tc, A, Q⟩ := X
  obtain ⟨hx, hb, hml, hown, hts, ⟨⟨hK, hN3⟩, hO⟩, hA, hf1, hl1, hlk, hrt⟩ := h
  intro Lx H locs hL hP hD hS
  exact lv_istore hx hb hd hL hi rfl (fun Lx hL => kk Lx H locs hL hP hD hS)
theorem g_obj {X : GX} {M : MI} (h : gCx X M) {pc ix v : Nat} {ls : Lo} {ws : va_W} {k n : Nat} (w1 : Cond.methodLink M.1.cls ix objectInit ∈ gw) (w2 : Cond.instanceMethod objectInit ∈ gw) (w3 : Cond.code objectInit ⟨#[0xb1]⟩ 1 none ∈ gw) (hd1 : 1 ≤ M.2.2.2.2) (hd : decode M.2.1 pc = .ok (.invokespecial ix, 3)) (kk : GW X M (pc + 3) ls [] ws k n) : GW X M pc ls [.ref v] ws k n := by
  obtain ⟨p, l, e, R, s, m, args, below, meth, c, G, tc, A, Q⟩ := X
  obtain ⟨hx, hb, hml, hown, hts, ⟨⟨hK, hN3⟩, hO⟩, hA, hf1, hl1, hlk, hrt⟩ := h
  intro Lx H locs hL hP hD hS
  exact W.objInit hx hb hown (hts _ w1) (hts _ w2) (hts _ w3) rfl (hL.1.trans hml.symm) rfl hd (by rw [hf1]; exact hd1) (by refine Nat.le_trans ?_ hl1; show 0 + 12 ≤ _; omega) (kk Lx H locs hL hP hD hS)
theorem g_put {X : GX} {M : MI} (h : gCx X M) {pc ci q0 a index kf N : Nat} {C : String} {T : u_T} {fs : List Value} {v : Value} {ty : FieldType} {ls : Lo} {st : List Value} {ws : va_W} {k n : Nat} (he : ws[q0]? = some (a, .inr (ci, fs))) (hc : vwCl[ci]? = some (C, T, N)) (hin : ∀ w ∈ u_ws C T N, w ∈ gw) (ty0 : Nat → FieldType) (hty : ∀ k, k < N → parseFieldDescriptor (T k).2.2.1 = some (ty0 k)) (hnm : ∀ a, a < N → ∀ b, b < N → a ≠ b → (T a).2.1 ≠ (T b).2.1) (hk : kf < N) (hw : Cond.fieldLink M.1.cls index (T kf).1 (T kf).2.1 (T kf).2.2.1 ∈ gw) (hfin : (T kf).2.2.2 = false) (hd : parseFieldDescriptor (T kf).2.2.1 = some ty) (hn : narrow ty v = v) (hfit : fits ty v = true) (hl : kf < fs.length)
    (hdg : decode M.2.1 pc = .ok (.putfield index, 3)) (kk : GW X M (pc + 3) ls st (ws.set q0 (a, .inr (ci, fs.set kf v))) k n) : GW X M pc ls (v :: .ref a :: st) ws k n := by
  obtain ⟨p, l, e, R, s, m, args, below, meth, c, G, tc, A, Q⟩ := X
  obtain ⟨hx, hb, hml, hown, hts, ⟨⟨hK, hN3⟩, hO⟩, hA, hf1, hl1, hlk, hrt⟩ := h
  intro Lx H locs hL hP hD hS
  exact va_put hx hb hts hin ty0 hty hnm hown hK hP hD hS q0 he hc kf hk (hts _ hw) (fun _ h9 => h9) hfin hd hn hfit hl hdg (fun H1 locs1 hP1 hD1 hS1 => kk Lx H1 locs1 hL hP1 hD1 hS1)
theorem g_putF {X : GX} {M : MI} (h : gCx X M) (hI : gI X) {pc ci q0 a index kf N : Nat} {C : String} {T : u_T} {fs : List Value} {v : Value} {ty : FieldType} {ls : Lo} {st : List Value} {ws : va_W} {k n : Nat} (he : ws[q0]? = some (a, .inr (ci, fs))) (hc : vwCl[ci]? = some (C, T, N)) (hin : ∀ w ∈ u_ws C T N, w ∈ gw) (ty0 : Nat → FieldType) (hty : ∀ k, k < N → parseFieldDescriptor (T k).2.2.1 = some (ty0 k)) (hnm : ∀ a, a < N → ∀ b, b < N → a ≠ b → (T a).2.1 ≠ (T b).2.1) (hk : kf < N) (hw : Cond.fieldLink M.1.cls index (T kf).1 (T kf).2.1 (T kf).2.2.1 ∈ gw) (hfin : (T kf).2.2.2 = true) (hdecl : (T kf).1 = M.1.cls) (hd : parseFieldDescriptor (T kf).2.2.1 = some ty) (hn : narrow ty v = v) (hfit : fits ty v = true) (hl : kf < fs.length)
    (hdg : decode M.2.1 pc = .ok (.putfield index, 3)) (kk : GW X M (pc + 3) ls st (ws.set q0 (a, .inr (ci, fs.set kf v))) k n) : GW X M pc ls (v :: .ref a :: st) ws k n := by
  obtain ⟨p, l, e, R, s, m, args, below, meth, c, G, tc, A, Q⟩ := X
  obtain ⟨hx, hb, hml, hown, hts, ⟨⟨hK, hN3⟩, hO⟩, hA, hf1, hl1, hlk, hrt⟩ := h
  intro Lx H locs hL hP hD hS
  exact va_putF hx hb hts hin ty0 hty hnm hown hK hP hD hS q0 he hc kf hk (hts _ hw) (fun _ h9 => h9) hfin hI hdecl hd hn hfit hl hdg (fun H1 locs1 hP1 hD1 hS1 => kk Lx H1 locs1 hL hP1 hD1 hS1)
theorem g_get {X : GX} {M : MI} (h : gCx X M) {pc ci q0 a index kf N : Nat} {C : String} {T : u_T} {fs : List Value} {v : Value} {ls : Lo} {st : List Value} {ws : va_W} {k n : Nat} (he : ws[q0]? = some (a, .inr (ci, fs))) (hc : vwCl[ci]? = some (C, T, N)) (hin : ∀ w ∈ u_ws C T N, w ∈ gw) (hk : kf < N) (hw : Cond.fieldLink M.1.cls index (T kf).1 (T kf).2.1 (T kf).2.2.1 ∈ gw) (hv : fs[kf]? = some v) (hdg : decode M.2.1 pc = .ok (.getfield index, 3)) (kk : GW X M (pc + 3) ls (v :: st) ws k n) : GW X M pc ls (.ref a :: st) ws k n := by
  obtain ⟨p, l, e, R, s, m, args, below, meth, c, G, tc, A, Q⟩ := X
  obtain ⟨hx, hb, hml, hown, hts, ⟨⟨hK, hN3⟩, hO⟩, hA, hf1, hl1, hlk, hrt⟩ := h
  intro Lx H locs hL hP hD hS
  exact va_get hx hb hts hin hown hK hP q0 he hc kf hk (hts _ hw) (fun _ h9 => h9) hv hdg (kk Lx H locs hL hP hD hS)
theorem g_newI {X : GX} {M : MI} (h : gCx X M) {pc : Nat} {v : Int32} {N' : Nat} {ls : Lo} {st : List Value} {ws : va_W} {k n : Nat} (w : Cond.arrayClass .int ∈ gw) (hn : ¬ v < 0) (hN : v.toNatClampNeg = N') (hbytes : N' * componentBytes .int ≤ 536870912) (hr : gRm X (k + 1) (n + N')) (hd : decode M.2.1 pc = .ok (.newarray .int, 2)) (kk : ∀ q, GW X M (pc + 2) ls (.ref q :: st) (ws ++ [(q, .inl (gTc X 0, N', .inl (fun _ => 0)))]) (k + 1) (n + N')) : GW X M pc ls (.int v :: st) ws k n := by
  obtain ⟨p, l, e, R, s, m, args, below, meth, c, G, tc, A, Q⟩ := X
  obtain ⟨hx, hb, hml, hown, hts, ⟨⟨hK, hN3⟩, hO⟩, hA, hf1, hl1, hlk, hrt⟩ := h
  intro Lx H locs hL hP hD hS
  refine va_newa (atype := .int) hx hb (hts _ w) (ty := .int) rfl hK hP hD hS hA (N' := N') (a0 := (N', .inl (fun _ => 0))) (fun _ => rfl) hn hN hbytes hr.1 hr.2 hd (fun q cA H1 hK1 hP1 hD1 hS1 => ?_)
  have e1 : cA = tc 0 := Option.some.inj ((hK1.2 4 _ rfl).2.symm.trans (hK.2 0 _ rfl).2)
  subst e1
  exact kk q Lx H1 locs hL hP1 hD1 hS1
theorem g_newD {X : GX} {M : MI} (h : gCx X M) {pc : Nat} {v : Int32} {N' : Nat} {ls : Lo} {st : List Value} {ws : va_W} {k n : Nat} (w : Cond.arrayClass .double ∈ gw) (hn : ¬ v < 0) (hN : v.toNatClampNeg = N') (hbytes : N' * componentBytes .double ≤ 536870912) (hr : gRm X (k + 1) (n + N')) (hd : decode M.2.1 pc = .ok (.newarray .double, 2)) (kk : ∀ q, GW X M (pc + 2) ls (.ref q :: st) (ws ++ [(q, .inl (gTc X 1, N', .inr (.inr (.inr (.inl (fun _ => 0))))))]) (k + 1) (n + N')) : GW X M pc ls (.int v :: st) ws k n := by
  obtain ⟨p, l, e, R, s, m, args, below, meth, c, G, tc, A, Q⟩ := X
  obtain ⟨hx, hb, hml, hown, hts, ⟨⟨hK, hN3⟩, hO⟩, hA, hf1, hl1, hlk, hrt⟩ := h
  intro Lx H locs hL hP hD hS
  refine va_newa (atype := .double) hx hb (hts _ w) (ty := .double) rfl hK hP hD hS hA (N' := N') (a0 := (N', .inr (.inr (.inr (.inl (fun _ => 0)))))) (fun _ => rfl) hn hN hbytes hr.1 hr.2 hd (fun q cA H1 hK1 hP1 hD1 hS1 => ?_)
  have e1 : cA = tc 1 := Option.some.inj ((hK1.2 4 _ rfl).2.symm.trans (hK.2 1 _ rfl).2)
  subst e1
  exact kk q Lx H1 locs hL hP1 hD1 hS1
theorem g_newL {X : GX} {M : MI} (h : gCx X M) {pc : Nat} {v : Int32} {N' : Nat} {ls : Lo} {st : List Value} {ws : va_W} {k n : Nat} (w : Cond.arrayClass .long ∈ gw) (hn : ¬ v < 0) (hN : v.toNatClampNeg = N') (hbytes : N' * componentBytes .long ≤ 536870912) (hr : gRm X (k + 1) (n + N')) (hd : decode M.2.1 pc = .ok (.newarray .long, 2)) (kk : ∀ q, GW X M (pc + 2) ls (.ref q :: st) (ws ++ [(q, .inl (gTc X 2, N', .inr (.inl (fun _ => 0))))]) (k + 1) (n + N')) : GW X M pc ls (.int v :: st) ws k n := by
  obtain ⟨p, l, e, R, s, m, args, below, meth, c, G, tc, A, Q⟩ := X
  obtain ⟨hx, hb, hml, hown, hts, ⟨⟨hK, hN3⟩, hO⟩, hA, hf1, hl1, hlk, hrt⟩ := h
  intro Lx H locs hL hP hD hS
  refine va_newa (atype := .long) hx hb (hts _ w) (ty := .long) rfl hK hP hD hS hA (N' := N') (a0 := (N', .inr (.inl (fun _ => 0)))) (fun _ => rfl) hn hN hbytes hr.1 hr.2 hd (fun q cA H1 hK1 hP1 hD1 hS1 => ?_)
  have e1 : cA = tc 2 := Option.some.inj ((hK1.2 4 _ rfl).2.symm.trans (hK.2 2 _ rfl).2)
  subst e1
  exact kk q Lx H1 locs hL hP1 hD1 hS1
theorem g_newQ {X : GX} {M : MI} (h : gCx X M) {pc index : Nat} {v : Int32} {N' : Nat} {ls : Lo} {st : List Value} {ws : va_W} {k n : Nat} (w : Cond.classLink M.1.cls index RX4 ∈ gw) (hn : ¬ v < 0) (hN : v.toNatClampNeg = N') (hbytes : N' * 4 ≤ 536870912) (hr : gRm X (k + 1) (n + N')) (hd : decode M.2.1 pc = .ok (.anewarray index, 3)) (kk : ∀ q, GW X M (pc + 3) ls (.ref q :: st) (ws ++ [(q, .inl (gTc X 3, N', .inr (.inr (.inr (.inr (fun _ => none))))))]) (k + 1) (n + N')) : GW X M pc ls (.int v :: st) ws k n := by
  obtain ⟨p, l, e, R, s, m, args, below, meth, c, G, tc, A, Q⟩ := X
  obtain ⟨hx, hb, hml, hown, hts, ⟨⟨hK, hN3⟩, hO⟩, hA, hf1, hl1, hlk, hrt⟩ := h
  intro Lx H locs hL hP hD hS
  refine va_newq hx hb hown (hts _ w) hO hK hP hD hS hA hn hN hbytes hr.1 hr.2 hd (fun q cA H1 hK1 hP1 hD1 hS1 => ?_)
  have e1 : cA = tc 3 := by
    obtain ⟨k1, c1, -, -, -, f1⟩ := (hK1.2 4 _ rfl).2
    obtain ⟨k2, c2, -, -, -, f2⟩ := (hK.2 3 _ rfl).2
    exact Option.some.inj (f1.symm.trans f2)
  subst e1
  exact kk q Lx H1 locs hL hP1 hD1 hS1
theorem g_new {X : GX} {M : MI} (h : gCx X M) {pc ci index N : Nat} {C : String} {T : u_T} {fs : List Value} {ls : Lo} {st : List Value} {ws : va_W} {k n : Nat} (hc : vwCl[ci]? = some (C, T, N)) (hin : ∀ w ∈ u_ws C T N, w ∈ gw) (ty0 : Nat → FieldType) (hty : ∀ k, k < N → parseFieldDescriptor (T k).2.2.1 = some (ty0 k)) (hfs : ∀ j, j < N → defaultValue (ty0 j) = vp_V fs j) (w1 : Cond.classLink M.1.cls index C ∈ gw) (w2 : Cond.instantiable C N ∈ gw) (w3 : Cond.initialized C ∈ gw) (hr : gRm X (k + 1) (n + N)) (hd : decode M.2.1 pc = .ok (.new index, 3)) (kk : ∀ q, GW X M (pc + 3) ls (.ref q :: st) (ws ++ [(q, .inr (ci, fs))]) (k + 1) (n + N)) : GW X M pc ls st ws k n := by
  obtain ⟨p, l, e, R, s, m, args, below, meth, c, G, tc, A, Q⟩ := X
  obtain ⟨hx, hb, hml, hown, hts, ⟨⟨hK, hN3⟩, hO⟩, hA, hf1, hl1, hlk, hrt⟩ := h
  intro Lx H locs hL hP hD hS
  exact va_new hx hb hts hin ty0 hty hown (hts _ w1) (hts _ w2) (hts _ w3) hK hP hD hS hA hc hfs hr.1 hr.2 hd (fun q H1 hP1 hD1 hS1 => kk q Lx H1 locs hL hP1 hD1 hS1)
theorem g_dst {X : GX} {M : MI} (h : gCx X M) {pc q0 a N : Nat} {i : Int32} {v : UInt64} {f : Nat → UInt64} {ls : Lo} {st : List Value} {ws : va_W} {k n : Nat} (he : ws[q0]? = some (a, .inl (gTc X 1, N, .inr (.inr (.inr (.inl f)))))) (hi : vp_in i N) {j : Nat} (hj : i.toNatClampNeg = j) (hd : decode M.2.1 pc = .ok (.dastore, 1)) (kk : GW X M (pc + 1) ls st (ws.set q0 (a, .inl (gTc X 1, N, .inr (.inr (.inr (.inl (vf_upd f j v))))))) k n) : GW X M pc ls (.double v :: .int i :: .ref a :: st) ws k n := by
  subst hj
  obtain ⟨p, l, e, R, s, m, args, below, meth, c, G, tc, A, Q⟩ := X
  obtain ⟨hx, hb, hml, hown, hts, ⟨⟨hK, hN3⟩, hO⟩, hA, hf1, hl1, hlk, hrt⟩ := h
  intro Lx H locs hL hP hD hS
  exact va_dast hx hb hK hP hD hS q0 1 he rfl hi hd (fun H1 locs1 hP1 hD1 hS1 => kk Lx H1 locs1 hL hP1 hD1 hS1)
theorem g_qst {X : GX} {M : MI} (h : gCx X M) {pc q0 qk a v N : Nat} {i : Int32} {vs : List Value} {f : Nat → Option Nat} {ls : Lo} {st : List Value} {ws : va_W} {k n : Nat} (he : ws[q0]? = some (a, .inl (gTc X 3, N, .inr (.inr (.inr (.inr f)))))) (hv : ws[qk]? = some (v, .inr (4, vs))) (hi : vp_in i N) {j : Nat} (hj : i.toNatClampNeg = j) (hd : decode M.2.1 pc = .ok (.aastore, 1)) (kk : GW X M (pc + 1) ls st (ws.set q0 (a, .inl (gTc X 3, N, .inr (.inr (.inr (.inr (va_up f j (some v)))))))) k n) : GW X M pc ls (.ref v :: .int i :: .ref a :: st) ws k n := by
  subst hj
  obtain ⟨p, l, e, R, s, m, args, below, meth, c, G, tc, A, Q⟩ := X
  obtain ⟨hx, hb, hml, hown, hts, ⟨⟨hK, hN3⟩, hO⟩, hA, hf1, hl1, hlk, hrt⟩ := h
  intro Lx H locs hL hP hD hS
  exact va_astq hx hb hK hP hD hS q0 3 qk 4 (r := (RX4, TX4, 4)) he rfl hv rfl hi hd (fun H1 locs1 hP1 hD1 hS1 => kk Lx H1 locs1 hL hP1 hD1 hS1)
/-- a constructor's contract: from its own cell alone to a world that post tells -/
def rmC (d mc ms : Nat) : Room := { frames := d, cells := mc, slots := ms, locals := 38 * d }
def CT (Y : Launch × va_G × (Nat → ClassId)) (M : MI) (w0 : va_W) (as : List Value) (mc ms : Nat) (post : va_W → Prop) : Prop := ∀ sz : Nat, Met Y.1 M.1 (wsN M) (rmC M.2.2.2.2 mc ms) (va_Pc as (fun U => U.heap.size = sz ∧ va_P Y.2.1 vwCl w0 U.heap ∧ gK Y.2.1 Y.2.2 U ∧ va_D (fun _ => True) w0)) (fun _ st o t => (∃ ws, post ws ∧ o = .returned none ∧ va_P Y.2.1 vwCl ws t.heap ∧ va_D (va_A w0 sz) ws) ∧ va_F (va_A w0 sz) st t) mc ms (va_A w0 sz)
def gQ (X : GX) (mc ms : Nat) (post : va_W → Prop) : Prop := match X with
  | (p, l, e, R, s, m, args, below, meth, c, G, tc, A, Q) => Q = MQ below (fun _ st o t => (∃ ws, post ws ∧ o = .returned none ∧ va_P G vwCl ws t.heap ∧ va_D A ws) ∧ va_F A st t) args s mc ms A ∧ R.cells = mc ∧ R.slots = ms
set_option maxHeartbeats 1000000 in
theorem CT_of {Y : Launch × va_G × (Nat → ClassId)} {M : MI} {w0 : va_W} {as : List Value} {mc ms : Nat} {post : va_W → Prop} (hy : plainName M.1.cls = true) (hn : (lg_sl as).length ≤ M.2.2.1)
    (body : ∀ (X : GX), gCx X M → gLG X = Y → gQ X mc ms post → (M.1.name = "<init>" → gI X) → GW X M 0 (lv_args 0 as) [] w0 0 0) : CT Y M w0 as mc ms post := by
  intro sz
  obtain ⟨l, G, tc⟩ := Y
  refine Met.ofW (cc := M.2.1) (maxL := M.2.2.1) (ret := M.2.2.2.1) hy rfl ?_
  intro p e s m args below meth c s₁ B hml hv
  obtain ⟨rfl, hsz, hP, hK, hD0⟩ := hv
  have hts := atoms_spec (ws := wsN M) B.pre
  subst hsz
  have hD := hD0.self (sz := s.heap.size)
  have hcx : gCx (p, l, e, rmC M.2.2.2.2 mc ms, s, m, as.toArray, below, meth, c, G, tc, va_A w0 s.heap.size, MQ below (fun _ st o t => (∃ ws, post ws ∧ o = .returned none ∧ va_P G vwCl ws t.heap ∧ va_D (va_A w0 s.heap.size) ws) ∧ va_F (va_A w0 s.heap.size) st t) as.toArray s mc ms (va_A w0 s.heap.size)) M :=
    ⟨B.exec, B.bytes, hml, findClass_of_methodNamed B.named, fun w hw => hts w (List.mem_cons_of_mem _ hw), hK, fun q h => Or.inr h, rfl, Nat.le_refl _, B.notSynchronized, B.returns⟩
  have hl := lv_entry as (n := M.2.2.1) hn
  show W p l e (rmC M.2.2.2.2 mc ms) s m _ below meth c s.heap [] 0 0 _ (entryFrame m as.toArray M.2.2.1)
  rw [lg_entry_eq]
  exact body _ hcx rfl ⟨rfl, rfl, rfl⟩ (fun q => (name_of_methodNamed B.named B.method).1.trans q) _ s.heap [] hl hP hD va_S.rf
theorem g_rm {X : GX} {mc ms k n : Nat} {post : va_W → Prop} (h : gQ X mc ms post) (h1 : k ≤ mc) (h2 : n ≤ ms) : gRm X k n := by
  obtain ⟨p, l, e, R, s, m, args, below, meth, c, G, tc, A, Q⟩ := X
  obtain ⟨-, rfl, rfl⟩ := h
  exact ⟨h1, h2⟩
theorem g_ret {X : GX} {M : MI} (h : gCx X M) {mc ms : Nat} {post : va_W → Prop} (hQ : gQ X mc ms post) {pc : Nat} {ls : Lo} {ws : va_W} {k n : Nat} (hr : M.2.2.2.1 = none) (hp : post ws) (hk : k ≤ mc ∧ n ≤ ms) (hd : decode M.2.1 pc = .ok (.return_, 1)) : GW X M pc ls [] ws k n := by
  obtain ⟨p, l, e, R, s, m, args, below, meth, c, G, tc, A, Q⟩ := X
  obtain ⟨hx, hb, hml, hown, hts, ⟨⟨hK, hN3⟩, hO⟩, hA, hf1, hl1, hlk, hrt⟩ := h
  obtain ⟨rfl, -, -⟩ := hQ
  intro Lx H locs hL hP hD hS
  refine W.widen (k := mc) (n := ms) hk.1 hk.2 ?_
  exact W.vret hx hb (hrt.trans hr) (fun t ht hW => ⟨⟨ws, hp, rfl, by rw [ht]; exact hP, hD⟩, hS.F ht⟩) hS.2.2 hd hlk
set_option maxHeartbeats 1000000 in
/-- 'invokespecial <init>' on an object just made -/
theorem g_init {X : GX} {M M2 : MI} (h : gCx X M) {pc ix mc ms q : Nat} {e0 : va_E} {post : va_W → Prop} {ls : Lo} {st : List Value} {pre : va_W} {k n : Nat} (hM : CT (gLG X) M2 [(q, e0)] [.ref q] mc ms post) (w1 : Cond.methodLink M.1.cls ix M2.1 ∈ gw) (w2 : Cond.instanceMethod M2.1 ∈ gw) (w4 : Cond.initialized M2.1.cls ∈ gw) (w5 : Cond.code M2.1 M2.2.1 M2.2.2.1 M2.2.2.2.1 ∈ gw) (hret : M2.2.2.2.1 = none) (hnm : M2.1.name = "<init>")
    (hy : M2.1.cls ≠ "java/lang/invoke/MethodHandle" ∧ M2.1.cls ≠ "java/lang/invoke/VarHandle" ∧ (parseMethodDescriptor M2.1.desc).map (fun d => d.parameters.length) = some 0) (hR : M2.2.2.2.2 + 1 ≤ M.2.2.2.2 ∧ 19 + M2.2.2.1 + 38 * M2.2.2.2.2 ≤ 38 * M.2.2.2.2) (hr : gRm X (k + mc) (n + ms)) (hcat : (st.map Value.category).sum ≤ 8) (hd : decode M.2.1 pc = .ok (.invokespecial ix, 3)) (kk : ∀ w1, post w1 → GW X M (pc + 3) ls st (pre ++ w1) (k + mc) (n + ms)) : GW X M pc ls (.ref q :: st) (pre ++ [(q, e0)]) k n := by
  obtain ⟨p, l, e, R, s, m, args, below, meth, c, G, tc, A, Q⟩ := X
  obtain ⟨hx, hb, hml, hown, hts, hgK, hA, hf1, hl1, hlk, hrt⟩ := h
  obtain ⟨y2, c2, L2, r2, d2⟩ := M2
  dsimp only at hret hnm hy hR w1 w2 w4 w5
  subst hret
  intro Lx H locs hL hP hD hS
  have hPc : va_P G vwCl [(q, e0)] H := fun i x hx2 => hP (pre.length + i) x (by rw [List.getElem?_append_right (by omega), Nat.add_sub_cancel_left]; exact hx2)
  have hDc : va_D A [(q, e0)] := ⟨fun i j a b ha hb2 _ => by
      have h1 := (List.getElem?_eq_some_iff.mp ha).1
      have h2 := (List.getElem?_eq_some_iff.mp hb2).1
      simp at h1 h2
      omega, fun i x hx2 => hD.2 (pre.length + i) x (by rw [List.getElem?_append_right (by omega), Nat.add_sub_cancel_left]; exact hx2)⟩
  have hFc : ∀ z, va_A [(q, e0)] H.size z → A z := by
    intro z hz
    rcases hz with ⟨i, E, hz⟩ | hz
    · exact hDc.2 i (z, E) hz
    · exact hA z (Nat.le_trans hS.1 hz)
  have hGd : GoodIn gw (wsN (y2, c2, L2, none, d2)) := by
    apply gw_in
    intro w hw
    simp only [wsN, List.mem_cons] at hw
    rcases hw with rfl | hw
    · exact w5
    · exact hw
  have run : va_Run p l e R s m args below meth c H locs k n mc ms (F0 m pc Lx (.ref q :: st)) st (fun st o t => (∃ ws, post ws ∧ o = .returned none ∧ va_P G vwCl ws t.heap ∧ va_D (va_A [(q, e0)] H.size) ws) ∧ va_F (va_A [(q, e0)] H.size) st t) (va_A [(q, e0)] H.size) :=
    va_runI (Ts := gw) (own := M.1.cls) (b := q) (As := []) (rest := st) (index := ix) (nL := M.2.2.1) (bytes := c2) (maxL := L2) (n := 0) ⟨hx, hb, hml, hown, hts⟩ (hM H.size) (cwI 0 hts hGd rfl rfl rfl (hts _ w4) (hts _ w1) (hts _ w2) hnm ⟨hy.1, hy.2.1, hy.2.2⟩ ⟨by rw [hf1]; exact hR.1, by refine Nat.le_trans ?_ hl1; have := hR.2; show 8 + (L2 + 11) + 38 * d2 ≤ _; omega⟩) ⟨fun a U g mk z => by obtain ⟨z0, z1, zP, zK, zD⟩ := z; exact ⟨z0, z1, zP, gK_call zK, zD⟩, fun U hU hW => ⟨rfl, by rw [hU], by rw [hU]; exact hPc, gK_warm hW hgK, hDc.weaken (fun _ _ _ _ => trivial)⟩⟩ rfl rfl hL.1 rfl (lv_room hcat) hd hr
  intro T hT X
  obtain ⟨v, st₀, t, T', L, h0, X', hL2, e1, e2, ⟨⟨w1', hPo, hv, hP1, hD1⟩, hz, hk⟩, stp⟩ := run T hT X
  cases hv
  rw [h0] at hz hk
  obtain ⟨hP2, hD2⟩ := va_join (wr := pre) (wc := [(q, e0)]) (w1 := w1') (H1 := T'.heap) hP hD [pre.length] (List.range pre.length) (by simp) (by
    apply List.ext_getElem?
    intro i
    rw [List.getElem?_map, List.getElem?_map]
    rcases Nat.lt_or_ge i pre.length with z | z
    · rw [List.getElem?_range z]
      show some ((pre ++ [(q, e0)])[i]?) = _
      rw [List.getElem?_append_left z, List.getElem?_eq_getElem z]; rfl
    · rw [List.getElem?_eq_none (by simpa using z), List.getElem?_eq_none z]; rfl) (va_nd_of List.nodup_range) (fun i hi hj => by
    have := List.mem_range.mp hi
    rw [List.mem_singleton.mp hj] at this
    omega) (fun z h1 h2 => by rw [e1]; exact hk z h1 h2) hFc (by rw [e1]; exact hP1) hD1
  obtain ⟨t2, a1, b1⟩ := kk w1' hPo Lx T'.heap (locs ++ L) hL hP2 hD2 ⟨Nat.le_trans hS.1 (by rw [e1]; exact hz), fun z h1 h2 => by rw [e1, hk z (Nat.lt_of_lt_of_le h1 hS.1) (fun y => h2 (hFc z y))]; exact hS.2.1 z h1 h2, fun z hz2 => by
      rcases List.mem_append.mp hz2 with y | y
      · exact hS.2.2 z y
      · exact hFc _ (hL2 z y)⟩ T' rfl X'
  exact ⟨t2, stp t2 a1, b1⟩

theorem g_ist {X : GX} {M : MI} (h : gCx X M) {pc q0 a N : Nat} {i v : Int32} {f : Nat → Int32} {ls : Lo} {st : List Value} {ws : va_W} {k n : Nat} (he : ws[q0]? = some (a, .inl (gTc X 0, N, .inl f))) (hi : vp_in i N) {j : Nat} (hj : i.toNatClampNeg = j) (hd : decode M.2.1 pc = .ok (.iastore, 1)) (kk : GW X M (pc + 1) ls st (ws.set q0 (a, .inl (gTc X 0, N, .inl (vf_upd f j v)))) k n) : GW X M pc ls (.int v :: .int i :: .ref a :: st) ws k n := by
  subst hj
  obtain ⟨p, l, e, R, s, m, args, below, meth, c, G, tc, A, Q⟩ := X
  obtain ⟨hx, hb, hml, hown, hts, ⟨⟨hK, hN3⟩, hO⟩, hA, hf1, hl1, hlk, hrt⟩ := h
  intro Lx H locs hL hP hD hS
  exact va_iast hx hb hK hP hD hS q0 0 he rfl hi hd (fun H1 locs1 hP1 hD1 hS1 => kk Lx H1 locs1 hL hP1 hD1 hS1)
theorem g_alen {X : GX} {M : MI} (h : gCx X M) {pc q0 a : Nat} {x : vp_A} {v : Int32} {ls : Lo} {st : List Value} {ws : va_W} {k n : Nat} (he : ws[q0]? = some (a, .inl (gTc X 0, x))) (hv : Int32.ofNat x.1 = v) (hd : decode M.2.1 pc = .ok (.arraylength, 1)) (kk : GW X M (pc + 1) ls (.int v :: st) ws k n) : GW X M pc ls (.ref a :: st) ws k n := by
  obtain ⟨p, l, e, R, s, m, args, below, meth, c, G, tc, A, Q⟩ := X
  obtain ⟨hx, hb, hml, hown, hts, ⟨⟨hK, hN3⟩, hO⟩, hA, hf1, hl1, hlk, hrt⟩ := h
  intro Lx H locs hL hP hD hS
  exact va_alen hx hb hK hP q0 0 he rfl hv hd (kk Lx H locs hL hP hD hS)
theorem g_geT {X : GX} {M : MI} (h : gCx X M) {pc tgt : Nat} {off : Int} {a b : Int32} {ls : Lo} {st : List Value} {ws : va_W} {k n : Nat} (hq : b ≤ a) (hd : decode M.2.1 pc = .ok (.if_icmp .ge off, 3)) (ht : (pc : Int) + off = (tgt : Int)) (kk : GW X M tgt ls st ws k n) : GW X M pc ls (.int b :: .int a :: st) ws k n := by
  obtain ⟨p, l, e, R, s, m, args, below, meth, c, G, tc, A, Q⟩ := X
  obtain ⟨hx, hb, hml, hown, hts, ⟨⟨hK, hN3⟩, hO⟩, hA, hf1, hl1, hlk, hrt⟩ := h
  intro Lx H locs hL hP hD hS
  exact lv_icmp_ge hx hb hd ht (fun _ => kk Lx H locs hL hP hD hS) (fun q => absurd hq q)
theorem g_geF {X : GX} {M : MI} (h : gCx X M) {pc tgt : Nat} {off : Int} {a b : Int32} {ls : Lo} {st : List Value} {ws : va_W} {k n : Nat} (hq : ¬ b ≤ a) (hd : decode M.2.1 pc = .ok (.if_icmp .ge off, 3)) (ht : (pc : Int) + off = (tgt : Int)) (kk : GW X M (pc + 3) ls st ws k n) : GW X M pc ls (.int b :: .int a :: st) ws k n := by
  obtain ⟨p, l, e, R, s, m, args, below, meth, c, G, tc, A, Q⟩ := X
  obtain ⟨hx, hb, hml, hown, hts, ⟨⟨hK, hN3⟩, hO⟩, hA, hf1, hl1, hlk, hrt⟩ := h
  intro Lx H locs hL hP hD hS
  exact lv_icmp_ge hx hb hd ht (fun q => absurd q hq) (fun _ => kk Lx H locs hL hP hD hS)
theorem g_go {X : GX} {M : MI} (h : gCx X M) {pc tgt : Nat} {off : Int} {ls : Lo} {st : List Value} {ws : va_W} {k n : Nat} (hd : decode M.2.1 pc = .ok (.goto off, 3)) (ht : (pc : Int) + off = (tgt : Int)) (kk : GW X M tgt ls st ws k n) : GW X M pc ls st ws k n := by
  obtain ⟨p, l, e, R, s, m, args, below, meth, c, G, tc, A, Q⟩ := X
  obtain ⟨hx, hb, hml, hown, hts, ⟨⟨hK, hN3⟩, hO⟩, hA, hf1, hl1, hlk, hrt⟩ := h
  intro Lx H locs hL hP hD hS
  exact lv_goto hx hb hd ht (kk Lx H locs hL hP hD hS)
theorem g_iinc {X : GX} {M : MI} (h : gCx X M) {pc i : Nat} {d : Int} {v v' : Int32} {ls : Lo} {st : List Value} {ws : va_W} {k n : Nat} (hl : ls.lookup i = some (.int v)) (hv : v + Int32.ofInt d = v') (hi : i < M.2.2.1) (hd : decode M.2.1 pc = .ok (.iinc i d, 3)) (kk : GW X M (pc + 3) (lset1 ls i (.int v')) st ws k n) : GW X M pc ls st ws k n := by
  obtain ⟨p, l, e, R, s, m, args, below, meth, c, G, tc, A, Q⟩ := X
  obtain ⟨hx, hb, hml, hown, hts, ⟨⟨hK, hN3⟩, hO⟩, hA, hf1, hl1, hlk, hrt⟩ := h
  intro Lx H locs hL hP hD hS
  obtain ⟨j, hj⟩ := List.getElem?_of_mem (lk_mem hl)
  exact lv_iinc hx hb hd hL hj hv hi rfl (fun Lx hL => kk Lx H locs hL hP hD hS)
set_option maxHeartbeats 1000000 in
/-- a static call over the whole world -/
theorem g_stat {X : GX} {M M2 : MI} (h : gCx X M) {pc ix nA : Nat} {as : List Value} {post : va_W → Prop} {ls : Lo} {st : List Value} {ws : va_W} {k n : Nat} (hM : CT (gLG X) M2 ws as 0 0 post) (w1 : Cond.methodLink M.1.cls ix M2.1 ∈ gw) (w2 : Cond.static M2.1 ∈ gw) (w4 : Cond.initialized M2.1.cls ∈ gw) (w5 : Cond.code M2.1 M2.2.1 M2.2.2.1 M2.2.2.2.1 ∈ gw)
    (hy : M2.1.cls ≠ "java/lang/invoke/MethodHandle" ∧ M2.1.cls ≠ "java/lang/invoke/VarHandle" ∧ (parseMethodDescriptor M2.1.desc).map (fun d => d.parameters.length) = some nA) (hR : M2.2.2.2.2 + 1 ≤ M.2.2.2.2 ∧ 19 + M2.2.2.1 + 38 * M2.2.2.2.2 ≤ 38 * M.2.2.2.2) (hlen : as.length = nA) (hr : gRm X k n) (hcat : (st.map Value.category).sum ≤ 8) (hd : decode M.2.1 pc = .ok (.invokestatic ix, 3)) (kk : ∀ w1, post w1 → GW X M (pc + 3) ls st w1 k n) : GW X M pc ls (as.reverse ++ st) ws k n := by
  obtain ⟨p, l, e, R, s, m, args, below, meth, c, G, tc, A, Q⟩ := X
  obtain ⟨hx, hb, hml, hown, hts, hgK, hA, hf1, hl1, hlk, hrt⟩ := h
  intro Lx H locs hL hP hD hS
  have hFc : ∀ z, va_A ws H.size z → A z := by
    intro z hz
    rcases hz with ⟨i, E, hz⟩ | hz
    · exact hD.2 i (z, E) hz
    · exact hA z (Nat.le_trans hS.1 hz)
  have hGd : GoodIn gw (va_wsS M.1.cls ix M2.1 (wsN M2)) := by
    apply gw_in
    intro w hw
    simp only [va_wsS, wsN, List.cons_append, List.nil_append, List.mem_cons] at hw
    rcases hw with rfl | rfl | rfl | rfl | hw
    · exact w1
    · exact w2
    · exact w4
    · exact w5
    · exact hw
  have run : va_Run p l e R s m args below meth c H locs k n 0 0 (F0 m pc Lx (as.reverse ++ st)) st (fun st o t => (∃ w2, post w2 ∧ o = .returned none ∧ va_P G vwCl w2 t.heap ∧ va_D (va_A ws H.size) w2) ∧ va_F (va_A ws H.size) st t) (va_A ws H.size) :=
    va_runS (Ts := gw) (own := M.1.cls) (As := as) (rest := st) (index := ix) (nL := M.2.2.1) (bytes := M2.2.1) (maxL := M2.2.2.1) (ret := M2.2.2.2.1) (n := nA) ⟨hx, hb, hml, hown, hts⟩ (hM H.size) (va_cwS nA hts hGd rfl rfl rfl ⟨hy.1, hy.2.1, hy.2.2⟩ ⟨by rw [hf1]; exact hR.1, by refine Nat.le_trans ?_ hl1; have := hR.2; show 8 + (M2.2.2.1 + 11) + 38 * M2.2.2.2.2 ≤ _; omega⟩) ⟨fun a U g mk z => by obtain ⟨z0, z1, zP, zK, zD⟩ := z; exact ⟨z0, z1, zP, gK_call zK, zD⟩, fun U hU hW => ⟨rfl, by rw [hU], by rw [hU]; exact hP, gK_warm hW hgK, hD.weaken (fun _ _ _ _ => trivial)⟩⟩ rfl hlen hL.1 rfl (lv_room hcat) hd hr
  intro T hT X
  obtain ⟨v, st₀, t, T', L, h0, X', hL2, e1, e2, ⟨⟨w1', hPo, hv, hP1, hD1⟩, hz, hk⟩, stp⟩ := run T hT X
  cases hv
  rw [h0] at hz hk
  obtain ⟨t2, a1, b1⟩ := kk w1' hPo Lx T'.heap (locs ++ L) hL (by rw [e1]; exact hP1) ⟨hD1.1, fun i q hq => hFc _ (hD1.2 i q hq)⟩ ⟨Nat.le_trans hS.1 (by rw [e1]; exact hz), fun z h1 h2 => by rw [e1, hk z (Nat.lt_of_lt_of_le h1 hS.1) (fun y => h2 (hFc z y))]; exact hS.2.1 z h1 h2, fun z hz2 => by
      rcases List.mem_append.mp hz2 with y | y
      · exact hS.2.2 z y
      · exact hFc _ (hL2 z y)⟩ T' rfl X'
  exact ⟨t2, stp t2 a1, b1⟩
