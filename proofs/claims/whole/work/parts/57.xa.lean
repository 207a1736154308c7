/-! methods with handlers: their contracts; the law's own rows -/
def wsH (M : MI) (hh : List (Nat × Nat × Nat × Nat)) : List Cond := .codeWith M.1 M.2.1 M.2.2.1 M.2.2.2.1 hh :: gw
def nC (U : State) : Prop := va_Nc "java/lang/IllegalStateException" "java/lang/IllegalArgumentException" U
theorem nC_warm {s U : State} (hW : s.WarmedH U.vm) (h : nC s) : nC U := va_Nc.moved hW.alike h
def hPc (Y : Kx) (args : List Value) (x : Hp) (sz : Nat) : Array Value → State → Prop := fun av U => tP Y args x sz av U ∧ nC U
theorem hPc_blind {Y : Kx} {args : List Value} {x : Hp} {sz : Nat} : FrameBlind (hPc Y args x sz) := by
  intro av U g mk q
  exact ⟨tP_blind av U g mk q.1, va_Nc.moved (u := U) (U := U.calling g mk av) (Vm.Alike.refl U.vm) q.2⟩
/-- a method with handlers: it returns; at most one new object -/
def sL (Y : Kx) (M : MI) (hh : List (Nat × Nat × Nat × Nat)) (args : List Value) (x : Hp) (P : Po) : Prop := ∀ sz : Nat, vx_Met Y.1 M.1 (wsH M hh) (rmT M.2.2.2.2) (hPc Y args x sz) (sQ Y (va_A (wd Y.2.2.1 Y.2.2.2 x) sz) P) (fun _ _ _ => False) 1 6 (va_A (wd Y.2.2.1 Y.2.2.2 x) sz)
def hCx (X : Ctx) (hh : List (Nat × Nat × Nat × Nat)) : Prop := match X with
  | (p, l, e, R, s, m, args, below, meth, c, G, a, tc, A, H0, cells, slots, Q) => l.stackTraces = false ∧ tK s ∧ tZ A s s.heap ∧ nC s ∧ H0 = s.heap ∧ c.exceptionTable.toList = tableOf hh ∧ cells + 1 ≤ R.cells ∧ slots + 6 ≤ R.slots
def xc (X : Ctx) (k n : Nat) : Ctx := match X with
  | (p, l, e, R, s, m, args, below, meth, c, G, a, tc, A, H0, _, _, Q) => (p, l, e, R, s, m, args, below, meth, c, G, a, tc, A, H0, k, n, Q)
def cC (X : Ctx) : Nat := match X with
  | (_, _, _, _, _, _, _, _, _, _, _, _, _, _, _, cells, _, _) => cells
def sC (X : Ctx) : Nat := match X with
  | (_, _, _, _, _, _, _, _, _, _, _, _, _, _, _, _, slots, _) => slots
def rmOK (X : Ctx) (k n : Nat) : Prop := match X with
  | (_, _, _, R, _, _, _, _, _, _, _, _, _, _, _, _, _, _) => k ≤ R.cells ∧ n ≤ R.slots
def retL (X : Ctx) (P : Po) : Prop := match X with
  | (p, l, e, R, s, m, args, below, meth, c, G, a, tc, A, H0, cells, slots, Q) => cells = 0 ∧ slots = 0 ∧ H0 = s.heap ∧ Q = vx_MQ below (sQ (l, G, a, tc) A P) (fun _ _ _ => False) args s 1 6 A
set_option maxHeartbeats 1000000 in
theorem sL_ok {Y : Kx} {M : MI} {hh : List (Nat × Nat × Nat × Nat)} {as : List Value} {x : Hp} {P : Po} (hy : plainName M.1.cls = true) (hn : (lg_sl as).length ≤ M.2.2.1)
    (body : ∀ X : Ctx, sCx X M → xk X = Y → retP X P → SW X M 0 (lv_args 0 as) [] x) : sL Y M hh as x P := by
  intro sz
  obtain ⟨l, G, a, tc⟩ := Y
  refine vx_ofWH (cc := M.2.1) (maxL := M.2.2.1) (ret := M.2.2.2.1) (hh := hh) hy rfl ?_
  intro p e s m args below meth c s₁ B hml hv
  obtain ⟨⟨⟨rfl, hsz, hP, hK, hD0⟩, htK, htZ⟩, hnC⟩ := hv
  have hts := atoms_spec (ws := wsH M hh) B.pre
  subst hsz
  have hD := hD0.self (sz := s.heap.size)
  have hcx : sCx (p, l, e, rmT M.2.2.2.2, s, m, (as.map (rv a)).toArray, below, meth, c, G, a, tc, va_A (wd a tc x) s.heap.size, s.heap, 1, 6, MQ below (sQ (l, G, a, tc) (va_A (wd a tc x) s.heap.size) P) (as.map (rv a)).toArray s 1 6 (va_A (wd a tc x) s.heap.size)) M :=
    ⟨B.exec, B.bytes, hml, findClass_of_methodNamed B.named, fun w hw => hts w (List.mem_cons_of_mem _ hw), hK, fun q h => Or.inr h, Nat.le_refl _, Nat.le_refl _, rfl, Nat.le_refl _, B.notSynchronized, B.returns⟩
  have hl := lv_entry (as.map (rv a)) (n := M.2.2.1) (by rw [sl_len]; exact hn)
  rw [lm_args] at hl
  show W p l e (rmT M.2.2.2.2) s m _ below meth c s.heap [] 0 0 _ (entryFrame m (as.map (rv a)).toArray M.2.2.1)
  rw [lg_entry_eq]
  refine vx_ret ?_
  refine W.widen (k := 1) (n := 6) (by omega) (by omega) ?_
  exact body _ hcx rfl ⟨rfl, rfl⟩ _ s.heap [] hl hP hD va_S.rf
set_option maxHeartbeats 1000000 in
theorem sL_thr {Y : Kx} {M : MI} {hh : List (Nat × Nat × Nat × Nat)} {as : List Value} {x : Hp} {P : Po} (hfl : Y.1.stackTraces = false) (hy : plainName M.1.cls = true) (hn : (lg_sl as).length ≤ M.2.2.1)
    (body : ∀ X : Ctx, sCx X M → hCx X hh → xk X = Y → retL X P → SW X M 0 (lv_args 0 as) [] x) : sL Y M hh as x P := by
  intro sz
  obtain ⟨l, G, a, tc⟩ := Y
  refine vx_ofWH (cc := M.2.1) (maxL := M.2.2.1) (ret := M.2.2.2.1) (hh := hh) hy rfl ?_
  intro p e s m args below meth c s₁ B hml hv
  obtain ⟨⟨⟨rfl, hsz, hP, hK, hD0⟩, htK, htZ⟩, hnC⟩ := hv
  have hts := atoms_spec (ws := wsH M hh) B.pre
  subst hsz
  have hD := hD0.self (sz := s.heap.size)
  have hcx : sCx (p, l, e, rmT M.2.2.2.2, s, m, (as.map (rv a)).toArray, below, meth, c, G, a, tc, va_A (wd a tc x) s.heap.size, s.heap, 0, 0, vx_MQ below (sQ (l, G, a, tc) (va_A (wd a tc x) s.heap.size) P) (fun _ _ _ => False) (as.map (rv a)).toArray s 1 6 (va_A (wd a tc x) s.heap.size)) M :=
    ⟨B.exec, B.bytes, hml, findClass_of_methodNamed B.named, fun w hw => hts w (List.mem_cons_of_mem _ hw), hK, fun q h => Or.inr h, Nat.zero_le _, Nat.zero_le _, rfl, Nat.le_refl _, B.notSynchronized, B.returns⟩
  have hl := lv_entry (as.map (rv a)) (n := M.2.2.1) (by rw [sl_len]; exact hn)
  rw [lm_args] at hl
  show W p l e (rmT M.2.2.2.2) s m _ below meth c s.heap [] 0 0 _ (entryFrame m (as.map (rv a)).toArray M.2.2.1)
  rw [lg_entry_eq]
  exact body _ hcx ⟨hfl, htK, htZ, hnC, rfl, vx_table (x := M.1) B (hts _ List.mem_cons_self), Nat.le_refl _, Nat.le_refl _⟩ rfl ⟨rfl, rfl, rfl, rfl⟩ _ s.heap [] hl hP hD va_S.rf
set_option maxHeartbeats 1000000 in
/-- a call that throws E, caught here: behind the handler's store -/
theorem sw_catch {X : Ctx} {M M2 : MI} (h : sCx X M) {hh : List (Nat × Nat × Nat × Nat)} (ht : hCx X hh) {pc ix n i ci N : Nat} {ls : Lo} {bs st rest : List Value} {x : Hp} {ks : List Nat} {T : u_T} {E : String} (hM : sT (xk X) M2 (.ref i :: bs) x E) (w1 : Cond.methodLink M.1.cls ix M2.1 ∈ gw) (w2 : Cond.instanceMethod M2.1 ∈ gw) (w3 : Cond.selects M2.1.cls M2.1 M2.1 ∈ gw) (w4 : Cond.initialized M2.1.cls ∈ gw) (w5 : Cond.code M2.1 M2.2.1 M2.2.2.1 M2.2.2.2.1 ∈ gw)
    (hy : M2.1.cls ≠ "java/lang/invoke/MethodHandle" ∧ M2.1.cls ≠ "java/lang/invoke/VarHandle" ∧ (parseMethodDescriptor M2.1.desc).map (fun d => d.parameters.length) = some n) (hR : M2.2.2.2.2 + 1 ≤ M.2.2.2.2 ∧ 19 + M2.2.2.1 + 38 * M2.2.2.2.2 ≤ 38 * M.2.2.2.2)
    (hd : decode M.2.1 pc = .ok (.invokevirtual ix, 3)) (hst : st = (Value.ref i :: bs).reverse ++ rest) (hlen : bs.length = n) (hsh : shp i = .inr (ci, ks)) (hci : vwCl[ci]? = some (M2.1.cls, T, N)) (hcat : (rest.map Value.category).sum ≤ 8)
    (pre : List ExceptionTableEntry) (z : ExceptionTableEntry) (suf : List ExceptionTableEntry) (hsplit : tableOf hh = pre ++ z :: suf) (hpass : ∀ y ∈ pre, y.catchType ≠ 0 ∧ Cond.classLink M.1.cls y.catchType "java/lang/IllegalArgumentException" ∈ gw ∧ E = "java/lang/IllegalStateException") (hcov : covers z pc = true) (h0 : z.catchType ≠ 0) (hlink : Cond.classLink M.1.cls z.catchType E ∈ gw) (hE : E ∈ exL)
    {kl np : Nat} (hda : (decode M.2.1 z.handlerPc = .ok (.astore kl, 2) ∧ np = z.handlerPc + 2) ∨ (∃ f : Fin 4, (f : Nat) = kl ∧ decode M.2.1 z.handlerPc = .ok (.astore_n f, 1) ∧ np = z.handlerPc + 1)) (hkl : kl < M.2.2.1) (k : SW (xc X (cC X + 1) (sC X + 6)) M np [] [] x) : SW X M pc ls st x := by
  obtain ⟨p, l, e, R, s, m, args, below, meth, c, G, a, tc, A, H0, cells, slots, Q⟩ := X
  obtain ⟨hx, hb, hml, hown, hts, ⟨hK, hN⟩, hA, hc1, hs1, hf1, hl1, hlk, hrt⟩ := h
  obtain ⟨t1, tk, tz, tn, rfl, texc, tc1, tc2⟩ := ht
  intro Lx H locs hl hP hD hS
  subst hst
  have hi : i < 96 := shp_ltR hsh
  have he : (wd a tc x)[i]? = some (a i, .inr (ci, ks.mapIdx (fun k r => fkv a x i k r))) := by rw [wd_get hi, ent_o hsh]
  have hf : ∀ q, va_A (wd a tc x) H.size q → A q := by
    intro q h
    rcases h with ⟨i, E, h⟩ | h
    · exact hD.2 i (q, E) h
    · exact hA q (Nat.le_trans hS.1 h)
  have hGd : GoodIn gw (wsV M.1.cls ix M2.1.cls M2.1 (wsN M2)) := by
    apply gw_in
    intro w hw
    simp only [wsV, wsN, List.cons_append, List.nil_append, List.mem_cons] at hw
    rcases hw with rfl | rfl | rfl | rfl | rfl | hw
    · exact w1
    · exact w2
    · exact w3
    · exact w4
    · exact w5
    · exact hw
  have tzH : tZ (va_A (wd a tc x) H.size) s H := tZ_narrow (tZ_kept tz (fun q h1 h2 => hS.2.1 q h1 h2)) hf
  have run : vx_Run p l e R s m args below meth c H locs cells slots 1 6 (F0 m pc Lx (((Value.ref i :: bs).reverse ++ rest).map (rv a))) (rest.map (rv a)) (fun _ _ _ => False) (tQ (l, G, a, tc) (va_A (wd a tc x) H.size) E x) (va_A (wd a tc x) H.size) := by
    refine vx_runV (Ts := gw) (own := M.1.cls) (C := M2.1.cls) (b := a i) (As := bs.map (rv a)) (index := ix) (nL := M.2.2.1) (bytes := M2.2.1) (maxL := M2.2.2.1) (ret := M2.2.2.2.1) (n := n) ⟨hx, hb, hml, hown, hts⟩ (hM H.size) (cwV n hts hGd rfl rfl rfl ⟨rfl, hy.1, hy.2.1, hy.2.2⟩ ⟨by rw [hf1]; exact hR.1, by refine Nat.le_trans ?_ hl1; have := hR.2; show 8 + (M2.2.2.1 + 11) + 38 * M2.2.2.2.2 ≤ _; omega⟩) ⟨tP_blind, va_recv hK hP hci he, fun U hU hW => ⟨⟨rfl, by rw [hU], by rw [hU]; exact hP, wK_warm hW ⟨hK, hN⟩, hD.weaken (fun _ _ _ _ => trivial)⟩, tK_warm hW tk, by rw [hU]; exact tZ_moved hW.alike tzH⟩⟩ rfl (by simpa using hlen) hl.1 ?_ ?_ hd ⟨tc1, tc2⟩
    · show ((Value.ref i :: bs).reverse ++ rest).map (rv a) = _
      simp [rv]
    · exact lv_room (by rw [cat_rv]; exact hcat)
  intro T hT X0
  rcases run T hT X0 with ⟨v, st₀, t, T', L, -, -, -, -, -, hq, -⟩ | ⟨q, st₀, t, T', L, E2, ce, h0', X', hL, e1, e2, ⟨rfl, hP1, hD1, hz, hk⟩, hce, hcv, hcl, st⟩
  · exact hq.elim
  · rw [h0'] at hz hk
    dsimp only at hP1 hD1
    have hP' : va_P G vwCl (wd a tc x) T'.heap := by rw [e1]; exact hP1
    have hD' : va_D A (wd a tc x) := hD1.weaken (fun _ q _ h => hf q.1 h)
    have hS' : va_S A s.heap T'.heap (locs ++ L) := ⟨Nat.le_trans hS.1 (by rw [e1]; exact hz), fun q h1 h2 => by rw [e1, hk q (Nat.lt_of_lt_of_le h1 hS.1) (fun z => h2 (hf q z))]; exact hS.2.1 q h1 h2, fun q hq => by
      rcases List.mem_append.mp hq with h | h
      · exact hS.2.2 q h
      · exact hf _ (hL q h)⟩
    have kk : W p l e R s m args below meth c T'.heap (locs ++ L) (cells + 1) (slots + 6) Q (F0 m z.handlerPc Lx [.ref q]) := by
      rcases hda with ⟨hda, rfl⟩ | ⟨f, hfk, hda, rfl⟩
      · exact lv_astore hx hb hda hl hkl rfl (fun Lx2 hl2 => k Lx2 T'.heap (locs ++ L) (lv_sub hl2 [] rfl) hP' hD' hS')
      · exact lv_astore_n hx hb hda hfk hl hkl rfl (fun Lx2 hl2 => k Lx2 T'.heap (locs ++ L) (lv_sub hl2 [] rfl) hP' hD' hS')
    obtain ⟨t2, s2, q2⟩ := vx_catch (own := M.1.cls) (name := E2) (E := E2) (rest := rest.map (rv a)) hown pre z suf (texc.trans hsplit) (fun y hy2 => Or.inr ⟨(hpass y hy2).1, "java/lang/IllegalArgumentException", hts _ (hpass y hy2).2.1, by rw [(hpass y hy2).2.2]; exact tn⟩) hcov h0 (hts _ hlink) (bT_at tk _ (List.mem_append_left _ (List.mem_map.mpr ⟨E2, hE, rfl⟩))) (show T'.heap[q]? = some ce by rw [e1]; exact hce) hcv hcl kk T' rfl X'
    exact ⟨t2, st.trans s2, q2⟩
theorem ret_L {X : Ctx} {M : MI} (h : sCx X M) {P : Po} (hR : retL X P) {pc : Nat} {ls : Lo} {v : Int32} {x : Hp} (hr : M.2.2.2.1 = some .int) (hp : P (some (.int v)) x) (hd : decode M.2.1 pc = .ok (.ireturn, 1)) : SW (xc X (cC X + 1) (sC X + 6)) M pc ls [.int v] x := by
  obtain ⟨p, l, e, R, s, m, args, below, meth, c, G, a, tc, A, H0, cells, slots, Q⟩ := X
  obtain ⟨hx, hb, hml, hown, hts, ⟨hK, hN⟩, hA, hc1, hs1, hf1, hl1, hlk, hrt⟩ := h
  obtain ⟨rfl, rfl, rfl, rfl⟩ := hR
  intro Lx H locs hl hP hD hS
  refine vx_ret ?_
  exact W.zret (v := v) hx hb (hrt.trans hr) rfl (fun t ht hW => ⟨⟨_, x, hp, rfl, by rw [ht]; exact hP, hD⟩, hS.F ht⟩) hS.2.2 hd hlk
theorem sw_ci {X : Ctx} {M : MI} (h : sCx X M) {pc : Nat} {n : Int} {v : Int32} {x : Hp} (hv : Int32.ofInt n = v) (hd : decode M.2.1 pc = .ok (.iconst n, 1)) (k : SW (xc X (cC X + 1) (sC X + 6)) M (pc + 1) [] [.int v] x) : SW (xc X (cC X + 1) (sC X + 6)) M pc [] [] x := by
  obtain ⟨p, l, e, R, s, m, args, below, meth, c, G, a, tc, A, H0, cells, slots, Q⟩ := X
  obtain ⟨hx, hb, hml, hown, hts, ⟨hK, hN⟩, hA, hc1, hs1, hf1, hl1, hlk, hrt⟩ := h
  intro Lx H locs hl hP hD hS
  exact lv_iconst hx hb hd hv (k Lx H locs hl hP hD hS)
/-- a run that does not throw -/
theorem run_of {p : Program} {l : Launch} {e : Env} {R : Room} {s : State} {m : MethodId} {args : Array Value} {below : List Frame} {meth : Method} {c : Code} {H : Heap} {locs : List Loc} {cells slots mc ms : Nat} {g : JFrame} {rest : List Value} {Qa : State → Outcome → State → Prop} {free : Addr → Prop} (h : vx_Run p l e R s m args below meth c H locs cells slots mc ms g rest Qa (fun _ _ _ => False) free) : va_Run p l e R s m args below meth c H locs cells slots mc ms g rest Qa free := by
  intro T hT X
  rcases h T hT X with r | ⟨q, st₀, t, T', L, E, ce, h0, X', hL, e1, e2, hx, -⟩
  · exact r
  · exact hx.elim
theorem call_onL {p : Program} {l : Launch} {e : Env} {R : Room} {s : State} {m : MethodId} {args : Array Value} {below : List Frame} {meth : Method} {c : Code} {G : va_G} {a : Nat → Nat} {tc : Nat → ClassId} {A : Nat → Prop} {H0 H : Heap} {cells slots : Nat} {Q : State → Prop} {M : MI} {pc : Nat} {ls : Lo} {rest : List Value} {x : Hp} {P : Po} {Lx : Array Slot} {locs : List Loc} {st0 : List Value} {av : Array Value}
    (hA : ∀ q, H0.size ≤ q → A q) (hl : lv_has Lx M.2.2.1 (lm a ls)) (hD : va_D A (wd a tc x)) (hS : va_S A H0 H locs)
    (hr : va_Run p l e R s m args below meth c H locs cells slots 1 6 (F0 m pc Lx st0) (rest.map (rv a)) (sQ (l, G, a, tc) (va_A (wd a tc x) H.size) P av) (va_A (wd a tc x) H.size))
    (k : ∀ r x', P r x' → SW (p, l, e, R, s, m, args, below, meth, c, G, a, tc, A, H0, cells + 1, slots + 6, Q) M (pc + 3) ls (r.toList ++ rest) x') : W p l e R s m args below meth c H locs cells slots Q (F0 m pc Lx st0) := by
  have hf : ∀ q, va_A (wd a tc x) H.size q → A q := by
    intro q h
    rcases h with ⟨i, E, h⟩ | h
    · exact hD.2 i (q, E) h
    · exact hA q (Nat.le_trans hS.1 h)
  intro T hT X
  obtain ⟨v, st₀, t, T', L, h0, X', hL, e1, e2, ⟨⟨r, x', hPr, hv, hP1, hD1⟩, hz, hk⟩, st⟩ := hr T hT X
  cases hv
  rw [h0] at hz hk
  dsimp only at hP1 hD1
  have k2 := k r x' hPr Lx T'.heap (locs ++ L) hl (by rw [e1]; exact hP1) (hD1.weaken (fun _ q _ h => hf q.1 h))
    ⟨Nat.le_trans hS.1 (by rw [e1]; exact hz), fun q h1 h2 => by rw [e1, hk q (Nat.lt_of_lt_of_le h1 hS.1) (fun z => h2 (hf q z))]; exact hS.2.1 q h1 h2, fun q hq => by
      rcases List.mem_append.mp hq with h | h
      · exact hS.2.2 q h
      · exact hf _ (hL q h)⟩
  obtain ⟨t2, a1, b1⟩ := k2 T' rfl X'
  refine ⟨t2, st t2 ?_, b1⟩
  have e5 : (Option.map (rv a) r).toList ++ rest.map (rv a) = (r.toList ++ rest).map (rv a) := tl_rv a r rest
  show Steps p.tables e below (T'.setTop (F0 m (pc + 3) Lx ((Option.map (rv a) r).toList ++ rest.map (rv a)))) t2
  rw [e5]
  exact a1
/-- what the law's walk knows besides: its script, and what throwing needs -/
def lCx (X : Ctx) (b L : Nat) (xs : Nat → Int32) : Prop := match X with
  | (p, l, e, R, s, m, args, below, meth, c, G, a, tc, A, H0, cells, slots, Q) => a 96 = b ∧ va_X b L xs s s.heap ∧ b < s.heap.size ∧ ¬ A b ∧ H0 = s.heap ∧ l.stackTraces = false ∧ tK s ∧ tZ A s s.heap ∧ nC s
theorem sw_sld {X : Ctx} {M : MI} (h : sCx X M) {b L : Nat} {xs : Nat → Int32} (hL : lCx X b L xs) {pc : Nat} (hd : decode M.2.1 pc = .ok (.iaload, 1)) {ls : Lo} {r : List Value} {x : Hp} {j : Int32} (hj : vp_in j L) (k : SW X M (pc + 1) ls (.int (xs j.toNatClampNeg) :: r) x) : SW X M pc ls (.int j :: .ref 96 :: r) x := by
  obtain ⟨p, l, e, R, s, m, args, below, meth, c, G, a, tc, A, H0, cells, slots, Q⟩ := X
  obtain ⟨hx, hb, hml, hown, hts, ⟨hK, hN⟩, hA, hc1, hs1, hf1, hl1, hlk, hrt⟩ := h
  obtain ⟨l1, l2, l3, l4, rfl, -⟩ := hL
  intro Lx H locs hl hP hD hS
  show W p l e R s m args below meth c H locs cells slots Q (F0 m pc Lx (.int j :: .ref (a 96) :: r.map (rv a)))
  rw [l1]
  exact va_sld hx hb l2 l3 l4 hS hj hd (k Lx H locs hl hP hD hS)
theorem sw_slen {X : Ctx} {M : MI} (h : sCx X M) {b L : Nat} {xs : Nat → Int32} (hL : lCx X b L xs) {pc : Nat} (hd : decode M.2.1 pc = .ok (.arraylength, 1)) {ls : Lo} {r : List Value} {x : Hp} (k : SW X M (pc + 1) ls (.int (nI L) :: r) x) : SW X M pc ls (.ref 96 :: r) x := by
  obtain ⟨p, l, e, R, s, m, args, below, meth, c, G, a, tc, A, H0, cells, slots, Q⟩ := X
  obtain ⟨hx, hb, hml, hown, hts, ⟨hK, hN⟩, hA, hc1, hs1, hf1, hl1, hlk, hrt⟩ := h
  obtain ⟨l1, l2, l3, l4, rfl, -⟩ := hL
  intro Lx H locs hl hP hD hS
  show W p l e R s m args below meth c H locs cells slots Q (F0 m pc Lx (.ref (a 96) :: r.map (rv a)))
  rw [l1]
  exact va_slen hx hb l2 l3 l4 hS hd (k Lx H locs hl hP hD hS)
set_option maxHeartbeats 1000000 in
/-- the law calls a method of its own -/
theorem sw_csL {X : Ctx} {M M2 : MI} (h : sCx X M) {b L : Nat} {xs : Nat → Int32} (hL : lCx X b L xs) {hh : List (Nat × Nat × Nat × Nat)} {pc ix n : Nat} {ls : Lo} {as st rest : List Value} {x : Hp} {P : Po} (hM : sL (xk X) M2 hh as x P) (w1 : Cond.methodLink M.1.cls ix M2.1 ∈ gw) (w2 : Cond.static M2.1 ∈ gw) (w4 : Cond.initialized M2.1.cls ∈ gw) (w5 : Cond.codeWith M2.1 M2.2.1 M2.2.2.1 M2.2.2.2.1 hh ∈ gw)
    (hy : M2.1.cls ≠ "java/lang/invoke/MethodHandle" ∧ M2.1.cls ≠ "java/lang/invoke/VarHandle" ∧ (parseMethodDescriptor M2.1.desc).map (fun d => d.parameters.length) = some n) (hR : M2.2.2.2.2 + 1 ≤ M.2.2.2.2 ∧ 19 + M2.2.2.1 + 38 * M2.2.2.2.2 ≤ 38 * M.2.2.2.2)
    (hd : decode M.2.1 pc = .ok (.invokestatic ix, 3)) (hst : st = as.reverse ++ rest) (hlen : as.length = n) (hcat : (rest.map Value.category).sum ≤ 8) (hroom : rmOK X (cC X + 1) (sC X + 6)) (k : ∀ r x', P r x' → SW (xc X (cC X + 1) (sC X + 6)) M (pc + 3) ls (r.toList ++ rest) x') : SW X M pc ls st x := by
  obtain ⟨p, l, e, R, s, m, args, below, meth, c, G, a, tc, A, H0, cells, slots, Q⟩ := X
  obtain ⟨hx, hb, hml, hown, hts, ⟨hK, hN⟩, hA, hc1, hs1, hf1, hl1, hlk, hrt⟩ := h
  obtain ⟨l1, l2, l3, l4, rfl, t1, tk, tz, tn⟩ := hL
  obtain ⟨tc1, tc2⟩ := hroom
  intro Lx H locs hl hP hD hS
  subst hst
  have hf : ∀ q, va_A (wd a tc x) H.size q → A q := by
    intro q h
    rcases h with ⟨i, E, h⟩ | h
    · exact hD.2 i (q, E) h
    · exact hA q (Nat.le_trans hS.1 h)
  have hGd : GoodIn gw (va_wsS M.1.cls ix M2.1 (wsH M2 hh)) := by
    apply gw_in
    intro w hw
    simp only [va_wsS, wsH, List.cons_append, List.nil_append, List.mem_cons] at hw
    rcases hw with rfl | rfl | rfl | rfl | hw
    · exact w1
    · exact w2
    · exact w4
    · exact w5
    · exact hw
  have tzH : tZ (va_A (wd a tc x) H.size) s H := tZ_narrow (tZ_kept tz (fun q h1 h2 => hS.2.1 q h1 h2)) hf
  refine call_onL (G := G) (tc := tc) (x := x) (P := P) (rest := rest) (M := M) (av := (as.map (rv a)).toArray) hA hl hD hS ?_ k
  refine run_of (vx_runSX (hh := hh) (Ts := gw) (own := M.1.cls) (As := as.map (rv a)) (index := ix) (bytes := M2.2.1) (maxL := M2.2.2.1) (ret := M2.2.2.2.1) (n := n) ⟨hx, hb, hml, hown, hts⟩ (hM H.size) (vx_cwSW n hts hGd rfl rfl rfl ⟨hy.1, hy.2.1, hy.2.2⟩ ⟨by rw [hf1]; exact hR.1, by refine Nat.le_trans ?_ hl1; have := hR.2; show 8 + (M2.2.2.1 + 11) + 38 * M2.2.2.2.2 ≤ _; omega⟩) ⟨hPc_blind, fun U hU hW => ⟨⟨⟨rfl, by rw [hU], by rw [hU]; exact hP, wK_warm hW ⟨hK, hN⟩, hD.weaken (fun _ _ _ _ => trivial)⟩, tK_warm hW tk, by rw [hU]; exact tZ_moved hW.alike tzH⟩, nC_warm hW tn⟩⟩ rfl (by simpa using hlen) hl.1 ?_ ?_ hd ⟨tc1, tc2⟩)
  · show (as.reverse ++ rest).map (rv a) = _
    simp
  · exact lv_room (by rw [cat_rv]; exact hcat)
theorem SW_widen {X : Ctx} {M : MI} {pc : Nat} {ls : Lo} {st : List Value} {x : Hp} {k n : Nat} (h1 : cC X ≤ k) (h2 : sC X ≤ n) (h : SW (xc X k n) M pc ls st x) : SW X M pc ls st x := by
  obtain ⟨p, l, e, R, s, m, args, below, meth, c, G, a, tc, A, H0, cells, slots, Q⟩ := X
  intro Lx H locs hl hP hD hS
  exact W.widen h1 h2 (h Lx H locs hl hP hD hS)
