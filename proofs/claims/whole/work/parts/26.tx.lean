/-! throwing: what the launch's tables and the heap must show for it; contracts of methods that throw -/
def exL : List String := ["java/lang/IllegalArgumentException", "java/lang/IllegalStateException", "java/lang/IndexOutOfBoundsException"]
def exN : List String := ["java/lang/RuntimeException", "java/lang/Exception"]
def deL : List MethodName := [⟨"java/lang/RuntimeException", "<init>", "()V"⟩, ⟨"java/lang/RuntimeException", "<init>", "(Ljava/lang/String;)V"⟩, ⟨"java/lang/Exception", "<init>", "()V"⟩, ⟨"java/lang/Exception", "<init>", "(Ljava/lang/String;)V"⟩, ⟨"java/lang/Throwable", "<init>", "()V"⟩, ⟨"java/lang/Throwable", "<init>", "(Ljava/lang/String;)V"⟩]
def strL : List (Nat × String) := [(40, "the voltage is out of range"), (295, "the impedance is out of range"), (73, "there is no such bus"), (77, "there is no room for another line"), (84, "there is no such bus with a load"), (86, "the load is out of range"), (297, "there is no such line or relay"), (186, "the percentage is out of range"), (107, "the pickup current is out of range"), (109, "there is no such curve"), (111, "the number of time steps is out of range"), (129, "the instantaneous pickup is out of range"), (134, "the number of shots is out of range"), (152, "the current is out of range"), (164, "the required margin is out of range"), (169, "the relay has no upstream relay"), (183, "there is no such violation"), (197, "the duration is out of range"), (299, "there is no such event"), (234, "there is no saved state")]
def tK (U : State) : Prop := (∀ E ∈ exL, va_Nw (.castable E E) U) ∧ (∀ d ∈ deL, va_Nw (.declares d) U) ∧ ∀ q ∈ strL, ∃ sa : Nat, vk_R RX6 q.1 q.2 sa U
def tZ (A : Nat → Prop) (U : State) (H : Heap) : Prop := vx_Zq Bundle.tN "UNASSIGNED_STACK" Bundle.steD A U H ∧ vx_Zq Bundle.tN "SUPPRESSED_SENTINEL" Bundle.listD A U H
theorem tK_warm {s U : State} (hW : s.WarmedH U.vm) (h : tK s) : tK U := ⟨fun E hE => va_Nw.warmC hW (h.1 E hE), fun d hd => va_Nw.warmD hW (h.2.1 d hd), fun q hq => by
  obtain ⟨sa, hs⟩ := h.2.2 q hq
  exact ⟨sa, vk_R.warm hW hs⟩⟩
theorem tK_same {s U : State} (hv : s.vm = U.vm) (h : tK s) : tK U := ⟨fun E hE => va_Nw.same rfl hv (h.1 E hE), fun d hd => va_Nw.same rfl hv (h.2.1 d hd), fun q hq => by
  obtain ⟨sa, hs⟩ := h.2.2 q hq
  exact ⟨sa, vk_R.same hv.symm hs⟩⟩
theorem tZ_moved {A : Nat → Prop} {u U : State} {H : Heap} (hvm : u.vm.Alike U.vm) (h : tZ A u H) : tZ A U H := ⟨vx_Zq.moved hvm h.1, vx_Zq.moved hvm h.2⟩
theorem tZ_narrow {A B : Nat → Prop} {U : State} {H : Heap} (h : tZ A U H) (k : ∀ q, B q → A q) : tZ B U H := ⟨vx_Zq.narrow h.1 k, vx_Zq.narrow h.2 k⟩
theorem tZ_kept {A : Nat → Prop} {U : State} {H H1 : Heap} (h : tZ A U H) (hq : ∀ a : Nat, a < H.size → ¬ A a → H1[a]? = H[a]?) : tZ A U H1 := ⟨vx_Zq.kept h.1 hq, vx_Zq.kept h.2 hq⟩
/-- the words of a throw of E by FeederProtection through the entry ic -/
def bT : List Cond := exL.map (fun E => Cond.castable E E) ++ deL.map Cond.declares
theorem bT_at {s : State} {args : Array Value} (h : tK s) : ∀ w ∈ bT, w.before args s = true := by
  intro w hw
  rcases List.mem_append.mp hw with q | q
  · obtain ⟨E, hE, rfl⟩ := List.mem_map.mp q
    exact va_Nw.use rfl (h.1 E hE)
  · obtain ⟨d, hd, rfl⟩ := List.mem_map.mp q
    exact va_Nw.use rfl (h.2.1 d hd)
set_option maxRecDepth 20000 in
theorem at_good_42 : ∀ w ∈ (vx_atS RX6 42 "java/lang/IllegalArgumentException" exN).filter goodWord, w ∈ lw_tbl := by decide +kernel
set_option maxRecDepth 20000 in
theorem at_rest_42 : ∀ w ∈ (vx_atS RX6 42 "java/lang/IllegalArgumentException" exN).filter (fun w => !goodWord w), w ∈ bT := by decide +kernel
theorem at_all_42 {s : State} {args : Array Value} (hts : ∀ w ∈ gw, w.before args s = true) (h : tK s) : ∀ w ∈ vx_atS RX6 42 "java/lang/IllegalArgumentException" exN, w.before args s = true :=
  vx_hat (fun w hw => hts w (gw_of (at_good_42 w hw) (List.mem_filter.mp hw).2)) at_rest_42 (bT_at h)
set_option maxRecDepth 20000 in
theorem at_good_79 : ∀ w ∈ (vx_atS RX6 79 "java/lang/IllegalStateException" exN).filter goodWord, w ∈ lw_tbl := by decide +kernel
set_option maxRecDepth 20000 in
theorem at_rest_79 : ∀ w ∈ (vx_atS RX6 79 "java/lang/IllegalStateException" exN).filter (fun w => !goodWord w), w ∈ bT := by decide +kernel
theorem at_all_79 {s : State} {args : Array Value} (hts : ∀ w ∈ gw, w.before args s = true) (h : tK s) : ∀ w ∈ vx_atS RX6 79 "java/lang/IllegalStateException" exN, w.before args s = true :=
  vx_hat (fun w hw => hts w (gw_of (at_good_79 w hw) (List.mem_filter.mp hw).2)) at_rest_79 (bT_at h)
set_option maxRecDepth 20000 in
theorem at_good_185 : ∀ w ∈ (vx_atS RX6 185 "java/lang/IndexOutOfBoundsException" exN).filter goodWord, w ∈ lw_tbl := by decide +kernel
set_option maxRecDepth 20000 in
theorem at_rest_185 : ∀ w ∈ (vx_atS RX6 185 "java/lang/IndexOutOfBoundsException" exN).filter (fun w => !goodWord w), w ∈ bT := by decide +kernel
theorem at_all_185 {s : State} {args : Array Value} (hts : ∀ w ∈ gw, w.before args s = true) (h : tK s) : ∀ w ∈ vx_atS RX6 185 "java/lang/IndexOutOfBoundsException" exN, w.before args s = true :=
  vx_hat (fun w hw => hts w (gw_of (at_good_185 w hw) (List.mem_filter.mp hw).2)) at_rest_185 (bT_at h)
theorem cl_42 : Cond.classLink RX6 38 "java/lang/IllegalArgumentException" ∈ gw := gw_t (List.mem_of_getElem? (i := 371) (by decide +kernel)) (by decide +kernel)
theorem in_42 : Cond.initialized "java/lang/IllegalArgumentException" ∈ gw := gw_t (List.mem_of_getElem? (i := 13) (by decide +kernel)) (by decide +kernel)
set_option maxRecDepth 20000 in
theorem go_42 : ∀ w ∈ Cond.classLink RX6 38 "java/lang/IllegalArgumentException" :: Cond.initialized "java/lang/IllegalArgumentException" :: vx_atS RX6 42 "java/lang/IllegalArgumentException" exN, vx_ot w = true := by decide +kernel
theorem cl_79 : Cond.classLink RX6 75 "java/lang/IllegalStateException" ∈ gw := gw_t (List.mem_of_getElem? (i := 457) (by decide +kernel)) (by decide +kernel)
theorem in_79 : Cond.initialized "java/lang/IllegalStateException" ∈ gw := gw_t (List.mem_of_getElem? (i := 16) (by decide +kernel)) (by decide +kernel)
set_option maxRecDepth 20000 in
theorem go_79 : ∀ w ∈ Cond.classLink RX6 75 "java/lang/IllegalStateException" :: Cond.initialized "java/lang/IllegalStateException" :: vx_atS RX6 79 "java/lang/IllegalStateException" exN, vx_ot w = true := by decide +kernel
theorem cl_185 : Cond.classLink RX6 181 "java/lang/IndexOutOfBoundsException" ∈ gw := gw_t (List.mem_of_getElem? (i := 622) (by decide +kernel)) (by decide +kernel)
theorem in_185 : Cond.initialized "java/lang/IndexOutOfBoundsException" ∈ gw := gw_t (List.mem_of_getElem? (i := 17) (by decide +kernel)) (by decide +kernel)
set_option maxRecDepth 20000 in
theorem go_185 : ∀ w ∈ Cond.classLink RX6 181 "java/lang/IndexOutOfBoundsException" :: Cond.initialized "java/lang/IndexOutOfBoundsException" :: vx_atS RX6 185 "java/lang/IndexOutOfBoundsException" exN, vx_ot w = true := by decide +kernel
def rmT (d : Nat) : Room := { frames := d, cells := 1, slots := 6, locals := 38 * d }
def tQ (Y : Kx) (A : Nat → Prop) (E : String) (x : Hp) : String → State → State → Prop := fun E2 st t => E2 = E ∧ va_P Y.2.1 vwCl (wd Y.2.2.1 Y.2.2.2 x) t.heap ∧ va_D A (wd Y.2.2.1 Y.2.2.2 x) ∧ va_F A st t
def tP (Y : Kx) (args : List Value) (x : Hp) (sz : Nat) : Array Value → State → Prop := fun av U => sP Y args x sz av U ∧ tK U ∧ tZ (va_A (wd Y.2.2.1 Y.2.2.2 x) sz) U U.heap
/-- from x with these arguments the method throws E, nothing changed -/
def sT (Y : Kx) (M : MI) (args : List Value) (x : Hp) (E : String) : Prop := ∀ sz : Nat, vx_Met Y.1 M.1 (wsN M) (rmT M.2.2.2.2) (tP Y args x sz) (fun _ _ _ _ => False) (tQ Y (va_A (wd Y.2.2.1 Y.2.2.2 x) sz) E x) 1 6 (va_A (wd Y.2.2.1 Y.2.2.2 x) sz)
theorem tP_blind {Y : Kx} {args : List Value} {x : Hp} {sz : Nat} : FrameBlind (tP Y args x sz) := by
  intro av U g mk q
  obtain ⟨q1, q2, q3⟩ := q
  exact ⟨sP_blind av U g mk q1, tK_same (rfl : U.vm = (U.calling g mk av).vm) q2, tZ_moved (u := U) (U := U.calling g mk av) (Vm.Alike.refl U.vm) q3⟩
/-- what a throwing walk knows besides, and what it owes -/
def tCx (X : Ctx) : Prop := match X with
  | (p, l, e, R, s, m, args, below, meth, c, G, a, tc, A, H0, cells, slots, Q) => l.stackTraces = false ∧ tK s ∧ tZ A s s.heap ∧ H0 = s.heap ∧ (∀ x ∈ c.exceptionTable.toList, False) ∧ cells + 1 ≤ R.cells ∧ slots + 6 ≤ R.slots
def retT (X : Ctx) (E : String) (x : Hp) : Prop := match X with
  | (p, l, e, R, s, m, args, below, meth, c, G, a, tc, A, H0, cells, slots, Q) => cells = 0 ∧ slots = 0 ∧ Q = vx_MQ below (fun _ _ _ _ => False) (tQ (l, G, a, tc) A E x) args s 1 6 A
set_option maxHeartbeats 1000000 in
theorem sT_of {Y : Kx} {M : MI} {as : List Value} {x : Hp} {E : String} (hfl : Y.1.stackTraces = false) (hy : plainName M.1.cls = true) (hn : (lg_sl as).length ≤ M.2.2.1)
    (body : ∀ X : Ctx, sCx X M → tCx X → xk X = Y → retT X E x → SW X M 0 (lv_args 0 as) [] x) : sT Y M as x E := by
  intro sz
  obtain ⟨l, G, a, tc⟩ := Y
  refine vx_ofW (cc := M.2.1) (maxL := M.2.2.1) (ret := M.2.2.2.1) hy rfl ?_
  intro p e s m args below meth c s₁ B hml ht hv
  obtain ⟨⟨rfl, hsz, hP, hK, hD0⟩, htK, htZ⟩ := hv
  have hts := atoms_spec (ws := wsN M) B.pre
  subst hsz
  have hD := hD0.self (sz := s.heap.size)
  have hcx : sCx (p, l, e, rmT M.2.2.2.2, s, m, (as.map (rv a)).toArray, below, meth, c, G, a, tc, va_A (wd a tc x) s.heap.size, s.heap, 0, 0, vx_MQ below (fun _ _ _ _ => False) (tQ (l, G, a, tc) (va_A (wd a tc x) s.heap.size) E x) (as.map (rv a)).toArray s 1 6 (va_A (wd a tc x) s.heap.size)) M :=
    ⟨B.exec, B.bytes, hml, findClass_of_methodNamed B.named, fun w hw => hts w (List.mem_cons_of_mem _ hw), hK, fun q h => Or.inr h, Nat.zero_le _, Nat.zero_le _, rfl, Nat.le_refl _, B.notSynchronized, B.returns⟩
  have hl := lv_entry (as.map (rv a)) (n := M.2.2.1) (by rw [sl_len]; exact hn)
  rw [lm_args] at hl
  show W p l e (rmT M.2.2.2.2) s m _ below meth c s.heap [] 0 0 _ (entryFrame m (as.map (rv a)).toArray M.2.2.1)
  rw [lg_entry_eq]
  exact body _ hcx ⟨hfl, htK, htZ, rfl, ht, Nat.le_refl _, Nat.le_refl _⟩ rfl ⟨rfl, rfl, rfl⟩ _ s.heap [] hl hP hD va_S.rf
theorem P_kept {G : va_G} {ws : va_W} {H H1 : Heap} (hP : va_P G vwCl ws H) (hk : ∀ q : Nat, q < H.size → H1[q]? = H[q]?) : va_P G vwCl ws H1 := fun k q hq => (hP k q hq).kept (hk _ (hP k q hq).lt)
/-- 'throw new E(text)' -/
theorem sw_throwS {X : Ctx} {M : MI} (h : sCx X M) (ht : tCx X) {pc ik is ic : Nat} {E text : String} {ls : Lo} {x : Hp} (hM6 : M.1.cls = RX6) (hE : Bundle.fit E = true) (hk : Cond.classLink RX6 ik E ∈ gw) (hini : Cond.initialized E ∈ gw) (hstr : (is, text) ∈ strL) (hat : ∀ (s : State) (args : Array Value), (∀ w ∈ gw, w.before args s = true) → tK s → ∀ w ∈ vx_atS RX6 ic E exN, w.before args s = true) (hgo : ∀ w ∈ Cond.classLink RX6 ik E :: Cond.initialized E :: vx_atS RX6 ic E exN, vx_ot w = true) (hd6 : 6 ≤ M.2.2.2.2)
    (d0 : decode M.2.1 pc = .ok (.new ik, 3)) (d3 : decode M.2.1 (pc + 3) = .ok (.dup, 1)) (d4 : decode M.2.1 (pc + 4) = .ok (.ldc is, 2)) (d6 : decode M.2.1 (pc + 6) = .ok (.invokespecial ic, 3)) (d9 : decode M.2.1 (pc + 9) = .ok (.athrow, 1)) (hR : retT X E x) : SW X M pc ls [] x := by
  obtain ⟨p, l, e, R, s, m, args, below, meth, c, G, a, tc, A, H0, cells, slots, Q⟩ := X
  obtain ⟨hx, hb, hml, hown, hts, ⟨hK, hN⟩, hA, hc1, hs1, hf1, hl1, hlk, hrt⟩ := h
  obtain ⟨t1, tk, tz, rfl, texc, tc1, tc2⟩ := ht
  obtain ⟨rfl, rfl, rfl⟩ := hR
  obtain ⟨sa, hsa⟩ := tk.2.2 _ hstr
  intro Lx H locs hl hP hD hS
  rw [hM6] at hown
  refine vx_throwS (rest := []) (sa := sa) (names := exN) hx hb t1 hown hE (by decide +kernel) (hts _ hk) (hts _ hini) hsa (hat s args hts tk) hgo tz.1 tz.2 hS (hl.1.trans hml.symm) d0 d3 d4 d6 d9 (fun x hx => (texc x hx).elim) ?_ ?_ tc1 tc2 hlk ?_ hS.2.2 (Nat.le_refl _) (Nat.le_refl _)
  · rw [hf1]
    show 2 + 3 < _
    omega
  · refine Nat.le_trans ?_ hl1
    show 0 + (13 * (2 + 1) + 43) ≤ _
    omega
  · intro t _ hsz hkp
    exact ⟨rfl, P_kept hP hkp, hD, Nat.le_trans hS.1 hsz, fun q h1 h2 => (hkp q (Nat.lt_of_lt_of_le h1 hS.1)).trans (hS.2.1 q h1 h2)⟩
/-- 'throw new E(text)' -/
theorem sw_throwSW {X : Ctx} {M : MI} (h : sCx X M) (ht : tCx X) {pc ik is ic : Nat} {E text : String} {ls : Lo} {x : Hp} (hM6 : M.1.cls = RX6) (hE : Bundle.fit E = true) (hk : Cond.classLink RX6 ik E ∈ gw) (hini : Cond.initialized E ∈ gw) (hstr : (is, text) ∈ strL) (hat : ∀ (s : State) (args : Array Value), (∀ w ∈ gw, w.before args s = true) → tK s → ∀ w ∈ vx_atS RX6 ic E exN, w.before args s = true) (hgo : ∀ w ∈ Cond.classLink RX6 ik E :: Cond.initialized E :: vx_atS RX6 ic E exN, vx_ot w = true) (hd6 : 6 ≤ M.2.2.2.2)
    (d0 : decode M.2.1 pc = .ok (.new ik, 3)) (d3 : decode M.2.1 (pc + 3) = .ok (.dup, 1)) (d4 : decode M.2.1 (pc + 4) = .ok (.ldc_w is, 3)) (d6 : decode M.2.1 (pc + 7) = .ok (.invokespecial ic, 3)) (d9 : decode M.2.1 (pc + 10) = .ok (.athrow, 1)) (hR : retT X E x) : SW X M pc ls [] x := by
  obtain ⟨p, l, e, R, s, m, args, below, meth, c, G, a, tc, A, H0, cells, slots, Q⟩ := X
  obtain ⟨hx, hb, hml, hown, hts, ⟨hK, hN⟩, hA, hc1, hs1, hf1, hl1, hlk, hrt⟩ := h
  obtain ⟨t1, tk, tz, rfl, texc, tc1, tc2⟩ := ht
  obtain ⟨rfl, rfl, rfl⟩ := hR
  obtain ⟨sa, hsa⟩ := tk.2.2 _ hstr
  intro Lx H locs hl hP hD hS
  rw [hM6] at hown
  refine vx_throwSW (rest := []) (sa := sa) (names := exN) hx hb t1 hown hE (by decide +kernel) (hts _ hk) (hts _ hini) hsa (hat s args hts tk) hgo tz.1 tz.2 hS (hl.1.trans hml.symm) d0 d3 d4 d6 d9 (fun x hx => (texc x hx).elim) ?_ ?_ tc1 tc2 hlk ?_ hS.2.2 (Nat.le_refl _) (Nat.le_refl _)
  · rw [hf1]
    show 2 + 3 < _
    omega
  · refine Nat.le_trans ?_ hl1
    show 0 + (13 * (2 + 1) + 43) ≤ _
    omega
  · intro t _ hsz hkp
    exact ⟨rfl, P_kept hP hkp, hD, Nat.le_trans hS.1 hsz, fun q h1 h2 => (hkp q (Nat.lt_of_lt_of_le h1 hS.1)).trans (hS.2.1 q h1 h2)⟩
/-- behind a callee that throws: it goes on to the caller -/
theorem thr_on {p : Program} {l : Launch} {e : Env} {R : Room} {s : State} {m : MethodId} {args : Array Value} {below : List Frame} {meth : Method} {c : Code} {G : va_G} {a : Nat → Nat} {tc : Nat → ClassId} {A : Nat → Prop} {H : Heap} {pc : Nat} {rest : List Value} {x : Hp} {E : String} {Lx : Array Slot} {locs : List Loc} {st0 : List Value} {av : Array Value} {Qf : State → Outcome → State → Prop}
    (hA : ∀ q, s.heap.size ≤ q → A q) (hD : va_D A (wd a tc x)) (hS : va_S A s.heap H locs) (hlk : meth.locks = false) (hex : ∀ z ∈ c.exceptionTable.toList, False) (hQf : ∀ st o t, ¬ Qf st o t)
    (hr : vx_Run p l e R s m args below meth c H locs 0 0 1 6 (F0 m pc Lx st0) rest Qf (tQ (l, G, a, tc) (va_A (wd a tc x) H.size) E x) (va_A (wd a tc x) H.size)) : W p l e R s m args below meth c H locs 0 0 (vx_MQ below (fun _ _ _ _ => False) (tQ (l, G, a, tc) A E x) args s 1 6 A) (F0 m pc Lx st0) := by
  have hf : ∀ q, va_A (wd a tc x) H.size q → A q := by
    intro q h
    rcases h with ⟨i, E, h⟩ | h
    · exact hD.2 i (q, E) h
    · exact hA q (Nat.le_trans hS.1 h)
  intro T hT X
  rcases hr T hT X with ⟨v, st₀, t, T', L, -, -, -, -, -, hq, -⟩ | ⟨q, st₀, t, T', L, E2, ce, h0, X', hL, e1, e2, ⟨rfl, hP1, hD1, hz, hk⟩, hce, hcv, hcl, st⟩
  · exact absurd hq (hQf _ _ _)
  · rw [h0] at hz hk
    dsimp only at hP1 hD1
    obtain ⟨t2, s2, q2⟩ := vx_out (Qc := fun _ _ _ _ => False) (XC := tQ (l, G, a, tc) A E2 x) (pc := pc) (ls := Lx) (rest := rest) (mc := 1) (ms := 6) (free := A) (fun z hz => (hex z hz).elim) hlk (show t.heap[q]? = some ce from hce) hcv hcl (fun u hu _ => ⟨rfl, by rw [hu]; exact hP1, hD1.weaken (fun _ q _ h => hf q.1 h), by rw [hu]; exact Nat.le_trans hS.1 hz, fun z h1 h2 => by rw [hu, hk z (Nat.lt_of_lt_of_le h1 hS.1) (fun y => h2 (hf z y))]; exact hS.2.1 z h1 h2⟩) (fun z hz => (List.mem_append.mp hz).elim (hS.2.2 z) (fun y => hf _ (hL z y))) (Nat.le_refl _) (Nat.le_refl _) T' e1 X'
    exact ⟨t2, st.trans s2, q2⟩
theorem sw_tV {X : Ctx} {M M2 : MI} (h : sCx X M) (ht : tCx X) {pc ix n i ci N : Nat} {ls : Lo} {bs st rest : List Value} {x : Hp} {ks : List Nat} {T : u_T} {E : String} (hM : sT (xk X) M2 (.ref i :: bs) x E) (w1 : Cond.methodLink M.1.cls ix M2.1 ∈ gw) (w2 : Cond.instanceMethod M2.1 ∈ gw) (w3 : Cond.selects M2.1.cls M2.1 M2.1 ∈ gw) (w4 : Cond.initialized M2.1.cls ∈ gw) (w5 : Cond.code M2.1 M2.2.1 M2.2.2.1 M2.2.2.2.1 ∈ gw)
    (hy : M2.1.cls ≠ "java/lang/invoke/MethodHandle" ∧ M2.1.cls ≠ "java/lang/invoke/VarHandle" ∧ (parseMethodDescriptor M2.1.desc).map (fun d => d.parameters.length) = some n) (hR : M2.2.2.2.2 + 1 ≤ M.2.2.2.2 ∧ 19 + M2.2.2.1 + 38 * M2.2.2.2.2 ≤ 38 * M.2.2.2.2)
    (hd : decode M.2.1 pc = .ok (.invokevirtual ix, 3)) (hst : st = (Value.ref i :: bs).reverse ++ rest) (hlen : bs.length = n) (hsh : shp i = .inr (ci, ks)) (hci : vwCl[ci]? = some (M2.1.cls, T, N)) (hcat : (rest.map Value.category).sum ≤ 8) (hRt : retT X E x) : SW X M pc ls st x := by
  obtain ⟨p, l, e, R, s, m, args, below, meth, c, G, a, tc, A, H0, cells, slots, Q⟩ := X
  obtain ⟨hx, hb, hml, hown, hts, ⟨hK, hN⟩, hA, hc1, hs1, hf1, hl1, hlk, hrt⟩ := h
  obtain ⟨t1, tk, tz, rfl, texc, tc1, tc2⟩ := ht
  obtain ⟨rfl, rfl, rfl⟩ := hRt
  intro Lx H locs hl hP hD hS
  subst hst
  have hi : i < 96 := shp_ltR hsh
  have he : (wd a tc x)[i]? = some (a i, .inr (ci, ks.mapIdx (fun k r => fkv a x i k r))) := by rw [wd_get hi, ent_o hsh]
  have hf : ∀ q, va_A (wd a tc x) H.size q → A q := by
    intro q h
    rcases h with ⟨i, E, h⟩ | h
    · exact hD.2 i (q, E) h
    · exact hA q (Nat.le_trans hS.1 h)
  have hGd : GoodIn gw (wsV M.1.cls ix M2.1.cls M2.1 (wsN M2)) := by
    apply gw_in
    intro w hw
    simp only [wsV, wsN, List.cons_append, List.nil_append, List.mem_cons] at hw
    rcases hw with rfl | rfl | rfl | rfl | rfl | hw
    · exact w1
    · exact w2
    · exact w3
    · exact w4
    · exact w5
    · exact hw
  have tzH : tZ (va_A (wd a tc x) H.size) s H := tZ_narrow (tZ_kept tz (fun q h1 h2 => hS.2.1 q h1 h2)) hf
  refine thr_on (Qf := fun _ _ _ => False) (av := args) (rest := rest.map (rv a)) hA hD hS hlk texc (fun _ _ _ h => h) ?_
  refine vx_runV (Ts := gw) (own := M.1.cls) (C := M2.1.cls) (b := a i) (As := bs.map (rv a)) (index := ix) (nL := M.2.2.1) (bytes := M2.2.1) (maxL := M2.2.2.1) (ret := M2.2.2.2.1) (n := n) ⟨hx, hb, hml, hown, hts⟩ (hM H.size) (cwV n hts hGd rfl rfl rfl ⟨rfl, hy.1, hy.2.1, hy.2.2⟩ ⟨by rw [hf1]; exact hR.1, by refine Nat.le_trans ?_ hl1; have := hR.2; show 8 + (M2.2.2.1 + 11) + 38 * M2.2.2.2.2 ≤ _; omega⟩) ⟨tP_blind, va_recv hK hP hci he, fun U hU hW => ⟨⟨rfl, by rw [hU], by rw [hU]; exact hP, wK_warm hW ⟨hK, hN⟩, hD.weaken (fun _ _ _ _ => trivial)⟩, tK_warm hW tk, by rw [hU]; exact tZ_moved hW.alike tzH⟩⟩ rfl (by simpa using hlen) hl.1 ?_ ?_ hd ⟨tc1, tc2⟩
  · show ((Value.ref i :: bs).reverse ++ rest).map (rv a) = _
    simp [rv]
  · exact lv_room (by rw [cat_rv]; exact hcat)
theorem sw_tS {X : Ctx} {M M2 : MI} (h : sCx X M) (ht : tCx X) {pc ix n : Nat} {ls : Lo} {as st rest : List Value} {x : Hp} {E : String} (hM : sT (xk X) M2 as x E) (w1 : Cond.methodLink M.1.cls ix M2.1 ∈ gw) (w2 : Cond.static M2.1 ∈ gw) (w4 : Cond.initialized M2.1.cls ∈ gw) (w5 : Cond.code M2.1 M2.2.1 M2.2.2.1 M2.2.2.2.1 ∈ gw)
    (hy : M2.1.cls ≠ "java/lang/invoke/MethodHandle" ∧ M2.1.cls ≠ "java/lang/invoke/VarHandle" ∧ (parseMethodDescriptor M2.1.desc).map (fun d => d.parameters.length) = some n) (hR : M2.2.2.2.2 + 1 ≤ M.2.2.2.2 ∧ 19 + M2.2.2.1 + 38 * M2.2.2.2.2 ≤ 38 * M.2.2.2.2)
    (hd : decode M.2.1 pc = .ok (.invokestatic ix, 3)) (hst : st = as.reverse ++ rest) (hlen : as.length = n) (hcat : (rest.map Value.category).sum ≤ 8) (hRt : retT X E x) (hcls : M2.1.cls = M.1.cls) : SW X M pc ls st x := by
  obtain ⟨p, l, e, R, s, m, args, below, meth, c, G, a, tc, A, H0, cells, slots, Q⟩ := X
  obtain ⟨hx, hb, hml, hown, hts, ⟨hK, hN⟩, hA, hc1, hs1, hf1, hl1, hlk, hrt⟩ := h
  obtain ⟨t1, tk, tz, rfl, texc, tc1, tc2⟩ := ht
  obtain ⟨rfl, rfl, rfl⟩ := hRt
  intro Lx H locs hl hP hD hS
  subst hst
  have hf : ∀ q, va_A (wd a tc x) H.size q → A q := by
    intro q h
    rcases h with ⟨i, E, h⟩ | h
    · exact hD.2 i (q, E) h
    · exact hA q (Nat.le_trans hS.1 h)
  have hGd : GoodIn gw (wsS M.1.cls ix M2.1 (wsN M2)) := by
    apply gw_in
    intro w hw
    simp only [wsS, wsN, List.cons_append, List.nil_append, List.mem_cons] at hw
    rcases hw with rfl | rfl | rfl | rfl | hw
    · exact w1
    · exact w2
    · rw [← hcls]; exact w4
    · exact w5
    · exact hw
  have tzH : tZ (va_A (wd a tc x) H.size) s H := tZ_narrow (tZ_kept tz (fun q h1 h2 => hS.2.1 q h1 h2)) hf
  refine thr_on (Qf := fun _ _ _ => False) (av := args) (rest := rest.map (rv a)) hA hD hS hlk texc (fun _ _ _ h => h) ?_
  refine vx_runS (Ts := gw) (own := M.1.cls) (As := as.map (rv a)) (index := ix) (nL := M.2.2.1) (bytes := M2.2.1) (maxL := M2.2.2.1) (ret := M2.2.2.2.1) (n := n) ⟨hx, hb, hml, hown, hts⟩ (hM H.size) (cwS n hts hGd rfl rfl rfl ⟨hcls, hy.1, hy.2.1, hy.2.2⟩ ⟨by rw [hf1]; exact hR.1, by refine Nat.le_trans ?_ hl1; have := hR.2; show 8 + (M2.2.2.1 + 11) + 38 * M2.2.2.2.2 ≤ _; omega⟩) ⟨tP_blind, fun U hU hW => ⟨⟨rfl, by rw [hU], by rw [hU]; exact hP, wK_warm hW ⟨hK, hN⟩, hD.weaken (fun _ _ _ _ => trivial)⟩, tK_warm hW tk, by rw [hU]; exact tZ_moved hW.alike tzH⟩⟩ rfl (by simpa using hlen) hl.1 ?_ ?_ hd ⟨tc1, tc2⟩
  · show (as.reverse ++ rest).map (rv a) = _
    simp
  · exact lv_room (by rw [cat_rv]; exact hcat)
