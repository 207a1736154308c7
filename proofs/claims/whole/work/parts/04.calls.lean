/-! rows with a condition: places of arrays, numbers that are no NaN, divisors; calls; ends -/
abbrev E1 : Type := (F1 × Nat) ⊕ (B1 × Nat × Nat) ⊕ (Nat × Nat × Nat × MI) ⊕ (Int × List Nat × Nat)
abbrev Kx : Type := Launch × va_G × (Nat → Nat) × (Nat → ClassId)
def xk (X : Ctx) : Kx := match X with
  | (p, l, e, R, s, m, args, below, meth, c, G, a, tc, A, H0, cells, slots, Q) => (l, G, a, tc)
def ok_iaload (X : Ctx) (M : MI) (pc pc' : Nat) : Prop := ∀ (ls : Lo) (r : List Value) (x : Hp) (i n : Nat) (j : Int32), shp i = .inl (0, n) → vp_in j n → SW X M pc' ls (.int (x.1 i j.toNatClampNeg) :: r) x → SW X M pc ls (.int j :: .ref i :: r) x
theorem so_iaload {X : Ctx} {M : MI} (h : sCx X M) {pc : Nat} (hd : decode M.2.1 pc = .ok (.iaload, 1)) : ok_iaload X M pc (pc + 1) := by
  obtain ⟨p, l, e, R, s, m, args, below, meth, c, G, a, tc, A, H0, cells, slots, Q⟩ := X
  obtain ⟨hx, hb, hml, hown, hts, ⟨hK, hN⟩, hA, hc1, hs1, hf1, hl1, hlk, hrt⟩ := h
  intro ls r x i n j hsh hj k Lx H locs hl hP hD hS
  have hi : i < 96 := shp_lt hsh (by rintro rfl; exact hj (Or.inr (Nat.zero_le _)))
  have hw := wd_get (a := a) (tc := tc) (x := x) hi
  rw [ent_i hsh] at hw
  exact va_iald hx hb hK hP i 0 hw rfl hj hd (k Lx H locs hl hP hD hS)
def ok_daload (X : Ctx) (M : MI) (pc pc' : Nat) : Prop := ∀ (ls : Lo) (r : List Value) (x : Hp) (i n : Nat) (j : Int32), shp i = .inl (1, n) → vp_in j n → SW X M pc' ls (.double (x.2.1 i j.toNatClampNeg) :: r) x → SW X M pc ls (.int j :: .ref i :: r) x
theorem so_daload {X : Ctx} {M : MI} (h : sCx X M) {pc : Nat} (hd : decode M.2.1 pc = .ok (.daload, 1)) : ok_daload X M pc (pc + 1) := by
  obtain ⟨p, l, e, R, s, m, args, below, meth, c, G, a, tc, A, H0, cells, slots, Q⟩ := X
  obtain ⟨hx, hb, hml, hown, hts, ⟨hK, hN⟩, hA, hc1, hs1, hf1, hl1, hlk, hrt⟩ := h
  intro ls r x i n j hsh hj k Lx H locs hl hP hD hS
  have hi : i < 96 := shp_lt hsh (by rintro rfl; exact hj (Or.inr (Nat.zero_le _)))
  have hw := wd_get (a := a) (tc := tc) (x := x) hi
  rw [ent_d hsh] at hw
  exact va_dald hx hb hK hP i 1 hw rfl hj hd (k Lx H locs hl hP hD hS)
def ok_laload (X : Ctx) (M : MI) (pc pc' : Nat) : Prop := ∀ (ls : Lo) (r : List Value) (x : Hp) (i n : Nat) (j : Int32), shp i = .inl (2, n) → vp_in j n → SW X M pc' ls (.long (x.2.2 i j.toNatClampNeg) :: r) x → SW X M pc ls (.int j :: .ref i :: r) x
theorem so_laload {X : Ctx} {M : MI} (h : sCx X M) {pc : Nat} (hd : decode M.2.1 pc = .ok (.laload, 1)) : ok_laload X M pc (pc + 1) := by
  obtain ⟨p, l, e, R, s, m, args, below, meth, c, G, a, tc, A, H0, cells, slots, Q⟩ := X
  obtain ⟨hx, hb, hml, hown, hts, ⟨hK, hN⟩, hA, hc1, hs1, hf1, hl1, hlk, hrt⟩ := h
  intro ls r x i n j hsh hj k Lx H locs hl hP hD hS
  have hi : i < 96 := shp_lt hsh (by rintro rfl; exact hj (Or.inr (Nat.zero_le _)))
  have hw := wd_get (a := a) (tc := tc) (x := x) hi
  rw [ent_l hsh] at hw
  exact va_lald hx hb hK hP i 2 hw rfl hj hd (k Lx H locs hl hP hD hS)
def ok_aaload (X : Ctx) (M : MI) (pc pc' : Nat) : Prop := ∀ (ls : Lo) (r : List Value) (x : Hp) (i n : Nat) (j : Int32), shp i = .inl (3, n) → vp_in j n → SW X M pc' ls (.ref (16 + 15 * j.toNatClampNeg) :: r) x → SW X M pc ls (.int j :: .ref i :: r) x
theorem so_aaload {X : Ctx} {M : MI} (h : sCx X M) {pc : Nat} (hd : decode M.2.1 pc = .ok (.aaload, 1)) : ok_aaload X M pc (pc + 1) := by
  obtain ⟨p, l, e, R, s, m, args, below, meth, c, G, a, tc, A, H0, cells, slots, Q⟩ := X
  obtain ⟨hx, hb, hml, hown, hts, ⟨hK, hN⟩, hA, hc1, hs1, hf1, hl1, hlk, hrt⟩ := h
  intro ls r x i n j hsh hj k Lx H locs hl hP hD hS
  have hi : i < 96 := shp_lt hsh (by rintro rfl; exact hj (Or.inr (Nat.zero_le _)))
  have hw := wd_get (a := a) (tc := tc) (x := x) hi
  rw [ent_q hsh] at hw
  exact va_aldq hx hb hK hP i 3 hw rfl hj hd (k Lx H locs hl hP hD hS)
def ok_iastore (X : Ctx) (M : MI) (pc pc' : Nat) : Prop := ∀ (ls : Lo) (r : List Value) (x : Hp) (i n : Nat) (j : Int32) (v : Int32), shp i = .inl (0, n) → vp_in j n → SW X M pc' ls r (u2 x.1 i j.toNatClampNeg v, x.2) → SW X M pc ls (.int v :: .int j :: .ref i :: r) x
theorem so_iastore {X : Ctx} {M : MI} (h : sCx X M) {pc : Nat} (hd : decode M.2.1 pc = .ok (.iastore, 1)) : ok_iastore X M pc (pc + 1) := by
  obtain ⟨p, l, e, R, s, m, args, below, meth, c, G, a, tc, A, H0, cells, slots, Q⟩ := X
  obtain ⟨hx, hb, hml, hown, hts, ⟨hK, hN⟩, hA, hc1, hs1, hf1, hl1, hlk, hrt⟩ := h
  intro ls r x i n j v hsh hj k Lx H locs hl hP hD hS
  have hi : i < 96 := shp_lt hsh (by rintro rfl; exact hj (Or.inr (Nat.zero_le _)))
  have hw := wd_get (a := a) (tc := tc) (x := x) hi
  rw [ent_i hsh] at hw
  refine va_iast hx hb hK hP hD hS i 0 hw rfl hj hd (fun H1 locs1 hP1 hD1 hS1 => ?_)
  rw [wd_setI hi hsh] at hP1 hD1
  exact k Lx H1 locs1 hl hP1 hD1 hS1
def ok_dastore (X : Ctx) (M : MI) (pc pc' : Nat) : Prop := ∀ (ls : Lo) (r : List Value) (x : Hp) (i n : Nat) (j : Int32) (v : UInt64), shp i = .inl (1, n) → vp_in j n → SW X M pc' ls r (x.1, u2 x.2.1 i j.toNatClampNeg v, x.2.2) → SW X M pc ls (.double v :: .int j :: .ref i :: r) x
theorem so_dastore {X : Ctx} {M : MI} (h : sCx X M) {pc : Nat} (hd : decode M.2.1 pc = .ok (.dastore, 1)) : ok_dastore X M pc (pc + 1) := by
  obtain ⟨p, l, e, R, s, m, args, below, meth, c, G, a, tc, A, H0, cells, slots, Q⟩ := X
  obtain ⟨hx, hb, hml, hown, hts, ⟨hK, hN⟩, hA, hc1, hs1, hf1, hl1, hlk, hrt⟩ := h
  intro ls r x i n j v hsh hj k Lx H locs hl hP hD hS
  have hi : i < 96 := shp_lt hsh (by rintro rfl; exact hj (Or.inr (Nat.zero_le _)))
  have hw := wd_get (a := a) (tc := tc) (x := x) hi
  rw [ent_d hsh] at hw
  refine va_dast hx hb hK hP hD hS i 1 hw rfl hj hd (fun H1 locs1 hP1 hD1 hS1 => ?_)
  rw [wd_setD hi hsh] at hP1 hD1
  exact k Lx H1 locs1 hl hP1 hD1 hS1
def ok_lastore (X : Ctx) (M : MI) (pc pc' : Nat) : Prop := ∀ (ls : Lo) (r : List Value) (x : Hp) (i n : Nat) (j : Int32) (v : Int64), shp i = .inl (2, n) → vp_in j n → SW X M pc' ls r (x.1, x.2.1, u2 x.2.2 i j.toNatClampNeg v) → SW X M pc ls (.long v :: .int j :: .ref i :: r) x
theorem so_lastore {X : Ctx} {M : MI} (h : sCx X M) {pc : Nat} (hd : decode M.2.1 pc = .ok (.lastore, 1)) : ok_lastore X M pc (pc + 1) := by
  obtain ⟨p, l, e, R, s, m, args, below, meth, c, G, a, tc, A, H0, cells, slots, Q⟩ := X
  obtain ⟨hx, hb, hml, hown, hts, ⟨hK, hN⟩, hA, hc1, hs1, hf1, hl1, hlk, hrt⟩ := h
  intro ls r x i n j v hsh hj k Lx H locs hl hP hD hS
  have hi : i < 96 := shp_lt hsh (by rintro rfl; exact hj (Or.inr (Nat.zero_le _)))
  have hw := wd_get (a := a) (tc := tc) (x := x) hi
  rw [ent_l hsh] at hw
  refine va_last hx hb hK hP hD hS i 2 hw rfl hj hd (fun H1 locs1 hP1 hD1 hS1 => ?_)
  rw [wd_setL hi hsh] at hP1 hD1
  exact k Lx H1 locs1 hl hP1 hD1 hS1
def ok_dadd (X : Ctx) (M : MI) (pc pc' : Nat) : Prop := ∀ (ls : Lo) (r : List Value) (x : Hp) (y z : UInt64), vf_n64 (FP.dadd z y) → SW X M pc' ls (.double (FP.dadd z y) :: r) x → SW X M pc ls (.double y :: .double z :: r) x
theorem so_dadd {X : Ctx} {M : MI} (h : sCx X M) {pc : Nat} (hd : decode M.2.1 pc = .ok (.dadd, 1)) : ok_dadd X M pc (pc + 1) := by
  obtain ⟨p, l, e, R, s, m, args, below, meth, c, G, a, tc, A, H0, cells, slots, Q⟩ := X
  obtain ⟨hx, hb, hml, hown, hts, ⟨hK, hN⟩, hA, hc1, hs1, hf1, hl1, hlk, hrt⟩ := h
  intro ls r x y z hn k Lx H locs hl hP hD hS
  exact lv_dadd hx hb hd hn (k Lx H locs hl hP hD hS)
def ok_dsub (X : Ctx) (M : MI) (pc pc' : Nat) : Prop := ∀ (ls : Lo) (r : List Value) (x : Hp) (y z : UInt64), vf_n64 (FP.dsub z y) → SW X M pc' ls (.double (FP.dsub z y) :: r) x → SW X M pc ls (.double y :: .double z :: r) x
theorem so_dsub {X : Ctx} {M : MI} (h : sCx X M) {pc : Nat} (hd : decode M.2.1 pc = .ok (.dsub, 1)) : ok_dsub X M pc (pc + 1) := by
  obtain ⟨p, l, e, R, s, m, args, below, meth, c, G, a, tc, A, H0, cells, slots, Q⟩ := X
  obtain ⟨hx, hb, hml, hown, hts, ⟨hK, hN⟩, hA, hc1, hs1, hf1, hl1, hlk, hrt⟩ := h
  intro ls r x y z hn k Lx H locs hl hP hD hS
  exact lv_dsub hx hb hd hn (k Lx H locs hl hP hD hS)
def ok_dmul (X : Ctx) (M : MI) (pc pc' : Nat) : Prop := ∀ (ls : Lo) (r : List Value) (x : Hp) (y z : UInt64), vf_n64 (FP.dmul z y) → SW X M pc' ls (.double (FP.dmul z y) :: r) x → SW X M pc ls (.double y :: .double z :: r) x
theorem so_dmul {X : Ctx} {M : MI} (h : sCx X M) {pc : Nat} (hd : decode M.2.1 pc = .ok (.dmul, 1)) : ok_dmul X M pc (pc + 1) := by
  obtain ⟨p, l, e, R, s, m, args, below, meth, c, G, a, tc, A, H0, cells, slots, Q⟩ := X
  obtain ⟨hx, hb, hml, hown, hts, ⟨hK, hN⟩, hA, hc1, hs1, hf1, hl1, hlk, hrt⟩ := h
  intro ls r x y z hn k Lx H locs hl hP hD hS
  exact lv_dmul hx hb hd hn (k Lx H locs hl hP hD hS)
def ok_ddiv (X : Ctx) (M : MI) (pc pc' : Nat) : Prop := ∀ (ls : Lo) (r : List Value) (x : Hp) (y z : UInt64), vf_n64 (FP.ddiv z y) → SW X M pc' ls (.double (FP.ddiv z y) :: r) x → SW X M pc ls (.double y :: .double z :: r) x
theorem so_ddiv {X : Ctx} {M : MI} (h : sCx X M) {pc : Nat} (hd : decode M.2.1 pc = .ok (.ddiv, 1)) : ok_ddiv X M pc (pc + 1) := by
  obtain ⟨p, l, e, R, s, m, args, below, meth, c, G, a, tc, A, H0, cells, slots, Q⟩ := X
  obtain ⟨hx, hb, hml, hown, hts, ⟨hK, hN⟩, hA, hc1, hs1, hf1, hl1, hlk, hrt⟩ := h
  intro ls r x y z hn k Lx H locs hl hP hD hS
  exact lv_ddiv hx hb hd hn (k Lx H locs hl hP hD hS)
def ok_idiv (X : Ctx) (M : MI) (pc pc' : Nat) : Prop := ∀ (ls : Lo) (r : List Value) (x : Hp) (y z : Int32), ¬ y = 0 → SW X M pc' ls (.int (z / y) :: r) x → SW X M pc ls (.int y :: .int z :: r) x
theorem so_idiv {X : Ctx} {M : MI} (h : sCx X M) {pc : Nat} (hd : decode M.2.1 pc = .ok (.idiv, 1)) : ok_idiv X M pc (pc + 1) := by
  obtain ⟨p, l, e, R, s, m, args, below, meth, c, G, a, tc, A, H0, cells, slots, Q⟩ := X
  obtain ⟨hx, hb, hml, hown, hts, ⟨hK, hN⟩, hA, hc1, hs1, hf1, hl1, hlk, hrt⟩ := h
  intro ls r x y z hn k Lx H locs hl hP hD hS
  exact lv_idiv hx hb hd hn (k Lx H locs hl hP hD hS)
def ok_irem (X : Ctx) (M : MI) (pc pc' : Nat) : Prop := ∀ (ls : Lo) (r : List Value) (x : Hp) (y z : Int32), ¬ y = 0 → SW X M pc' ls (.int (z - z / y * y) :: r) x → SW X M pc ls (.int y :: .int z :: r) x
theorem so_irem {X : Ctx} {M : MI} (h : sCx X M) {pc : Nat} (hd : decode M.2.1 pc = .ok (.irem, 1)) : ok_irem X M pc (pc + 1) := by
  obtain ⟨p, l, e, R, s, m, args, below, meth, c, G, a, tc, A, H0, cells, slots, Q⟩ := X
  obtain ⟨hx, hb, hml, hown, hts, ⟨hK, hN⟩, hA, hc1, hs1, hf1, hl1, hlk, hrt⟩ := h
  intro ls r x y z hn k Lx H locs hl hP hD hS
  exact lv_irem hx hb hd hn (k Lx H locs hl hP hD hS)
/-! contracts -/
def wsN (M : MI) : List Cond := .code M.1 M.2.1 M.2.2.1 M.2.2.2.1 :: gw
def rmN (d : Nat) : Room := { frames := d, cells := 0, slots := 0, locals := 38 * d }
abbrev Po : Type := Option Value → Hp → Prop
def sQ (Y : Kx) (A : Nat → Prop) (P : Po) : Array Value → State → Outcome → State → Prop := fun _ st o t => (∃ (r : Option Value) (x : Hp), P r x ∧ o = .returned (r.map (rv Y.2.2.1)) ∧ va_P Y.2.1 vwCl (wd Y.2.2.1 Y.2.2.2 x) t.heap ∧ va_D A (wd Y.2.2.1 Y.2.2.2 x)) ∧ va_F A st t
/-- exactly this answer and this heap -/
def eqP (r : Option Value) (x : Hp) : Po := fun r2 x2 => r2 = r ∧ x2 = x
def sP (Y : Kx) (args : List Value) (x : Hp) (sz : Nat) : Array Value → State → Prop := va_Pc (args.map (rv Y.2.2.1)) (fun U => U.heap.size = sz ∧ va_P Y.2.1 vwCl (wd Y.2.2.1 Y.2.2.2 x) U.heap ∧ wK Y.2.1 Y.2.2.2 U ∧ va_D (fun _ => True) (wd Y.2.2.1 Y.2.2.2 x))
/-- from x with these arguments the method ends with P of its answer and its heap -/
def sR (Y : Kx) (M : MI) (args : List Value) (x : Hp) (P : Po) : Prop := ∀ sz : Nat, Met Y.1 M.1 (wsN M) (rmN M.2.2.2.2) (sP Y args x sz) (sQ Y (va_A (wd Y.2.2.1 Y.2.2.2 x) sz) P) 0 0 (va_A (wd Y.2.2.1 Y.2.2.2 x) sz)
/-- .. answers r, and x' is behind it -/
def sM (Y : Kx) (M : MI) (args : List Value) (x : Hp) (r : Option Value) (x' : Hp) : Prop := sR Y M args x (eqP r x')
theorem sP_blind {Y : Kx} {args : List Value} {x : Hp} {sz : Nat} : FrameBlind (sP Y args x sz) := by
  intro av U g mk q
  obtain ⟨q0, q1, qP, ⟨qK, qN⟩, qD⟩ := q
  exact ⟨q0, q1, qP, ⟨va_K.moved (u := U) (U := U.calling g mk av) (Vm.Alike.refl U.vm) qK, va_Nw.same rfl (rfl : U.vm = (U.calling g mk av).vm) qN.1, va_Nw.same rfl (rfl : U.vm = (U.calling g mk av).vm) qN.2.1, va_Nw.same rfl (rfl : U.vm = (U.calling g mk av).vm) qN.2.2⟩, qD⟩
theorem wK_warm {G : va_G} {tc : Nat → ClassId} {s U : State} (hW : s.WarmedH U.vm) (h : wK G tc s) : wK G tc U :=
  ⟨va_K.moved hW.alike h.1, va_Nw.warmM hW h.2.1, va_Nw.warmM hW h.2.2.1, va_Nw.warmM hW h.2.2.2⟩
theorem wd_A {a : Nat → Nat} {tc : Nat → ClassId} {x x' : Hp} {sz : Nat} {q : Nat} (h : va_A (wd a tc x) sz q) : va_A (wd a tc x') sz q := by
  rcases h with ⟨k, E, hk⟩ | h
  · obtain ⟨h1, h2⟩ := wd_some hk
    exact Or.inl ⟨k, ent a tc x' k, by rw [wd_get h1]; exact congrArg (fun z => some (z, ent a tc x' k)) (congrArg Prod.fst h2 : q = a k).symm⟩
  · exact Or.inr h
def retP (X : Ctx) (P : Po) : Prop := match X with
  | (p, l, e, R, s, m, args, below, meth, c, G, a, tc, A, H0, cells, slots, Q) => H0 = s.heap ∧ Q = MQ below (sQ (l, G, a, tc) A P) args s cells slots A
def retOK (X : Ctx) (r : Option Value) (x' : Hp) : Prop := retP X (eqP r x')
theorem lm_args (a : Nat → Nat) : ∀ (i : Nat) (vs : List Value), lv_args i (vs.map (rv a)) = lm a (lv_args i vs)
  | _, [] => rfl
  | i, v :: vs => by
    show (i, rv a v) :: lv_args (if (rv a v).category = 2 then i + 2 else i + 1) (vs.map (rv a)) = lm a ((i, v) :: lv_args (if v.category = 2 then i + 2 else i + 1) vs)
    rw [rv_cat, lm_args a _ vs]
    rfl
theorem sl_len (a : Nat → Nat) : ∀ (vs : List Value), (lg_sl (vs.map (rv a))).length = (lg_sl vs).length
  | [] => rfl
  | v :: vs => by
    have h := sl_len a vs
    unfold lg_sl at h ⊢
    simp only [List.map_cons, List.flatMap_cons, List.length_append, rv_cat, h]
    by_cases hv : v.category = 2
    · simp only [hv, if_true]; rfl
    · simp only [hv, if_false]; rfl
set_option maxHeartbeats 1000000 in
theorem sR_of {Y : Kx} {M : MI} {as : List Value} {x : Hp} {P : Po} (hy : plainName M.1.cls = true) (hn : (lg_sl as).length ≤ M.2.2.1)
    (body : ∀ X : Ctx, sCx X M → xk X = Y → retP X P → SW X M 0 (lv_args 0 as) [] x) : sR Y M as x P := by
  intro sz
  obtain ⟨l, G, a, tc⟩ := Y
  refine Met.ofW (cc := M.2.1) (maxL := M.2.2.1) (ret := M.2.2.2.1) hy rfl ?_
  intro p e s m args below meth c s₁ B hml hv
  obtain ⟨rfl, hsz, hP, hK, hD0⟩ := hv
  have hts := atoms_spec (ws := wsN M) B.pre
  subst hsz
  have hD := hD0.self (sz := s.heap.size)
  have hcx : sCx (p, l, e, rmN M.2.2.2.2, s, m, (as.map (rv a)).toArray, below, meth, c, G, a, tc, va_A (wd a tc x) s.heap.size, s.heap, 0, 0, MQ below (sQ (l, G, a, tc) (va_A (wd a tc x) s.heap.size) P) (as.map (rv a)).toArray s 0 0 (va_A (wd a tc x) s.heap.size)) M :=
    ⟨B.exec, B.bytes, hml, findClass_of_methodNamed B.named, fun w hw => hts w (List.mem_cons_of_mem _ hw), hK, fun q h => Or.inr h, Nat.zero_le _, Nat.zero_le _, rfl, Nat.le_refl _, B.notSynchronized, B.returns⟩
  have hl := lv_entry (as.map (rv a)) (n := M.2.2.1) (by rw [sl_len]; exact hn)
  rw [lm_args] at hl
  show W p l e (rmN M.2.2.2.2) s m _ below meth c s.heap [] 0 0 _ (entryFrame m (as.map (rv a)).toArray M.2.2.1)
  rw [lg_entry_eq]
  exact body _ hcx rfl ⟨rfl, rfl⟩ _ s.heap [] hl hP hD va_S.rf
theorem sM_of {Y : Kx} {M : MI} {as : List Value} {x : Hp} {r : Option Value} {x' : Hp} (hy : plainName M.1.cls = true) (hn : (lg_sl as).length ≤ M.2.2.1)
    (body : ∀ X : Ctx, sCx X M → xk X = Y → retOK X r x' → SW X M 0 (lv_args 0 as) [] x) : sM Y M as x r x' := sR_of hy hn body
/-- a call's answer, seen from the caller -/
def okCall (X : Ctx) (M : MI) (pc pc' n : Nat) (M2 : MI) (C : String) : Prop := ∀ (ls : Lo) (as st rest : List Value) (x : Hp) (P : Po), sR (xk X) M2 as x P → st = as.reverse ++ rest → as.length = n → (C = "" ∨ ∃ (i : Nat) (bs : List Value) (ci : Nat) (ks : List Nat) (T : u_T) (N : Nat), as = .ref i :: bs ∧ shp i = .inr (ci, ks) ∧ vwCl[ci]? = some (C, T, N)) → (rest.map Value.category).sum ≤ 8 → (∀ r x', P r x' → SW X M pc' ls (r.toList ++ rest) x') → SW X M pc ls st x
theorem cat_rv (a : Nat → Nat) (l : List Value) : ((l.map (rv a)).map Value.category).sum = (l.map Value.category).sum := by
  rw [List.map_map]
  congr 1
  apply List.map_congr_left
  intro v _
  exact rv_cat a v
theorem tl_rv (a : Nat → Nat) (r : Option Value) (rest : List Value) : (r.map (rv a)).toList ++ rest.map (rv a) = (r.toList ++ rest).map (rv a) := by cases r <;> simp
/-- behind a run of the callee -/
theorem call_on {p : Program} {l : Launch} {e : Env} {R : Room} {s : State} {m : MethodId} {args : Array Value} {below : List Frame} {meth : Method} {c : Code} {G : va_G} {a : Nat → Nat} {tc : Nat → ClassId} {A : Nat → Prop} {H0 H : Heap} {cells slots : Nat} {Q : State → Prop} {M : MI} {pc : Nat} {ls : Lo} {rest : List Value} {x : Hp} {P : Po} {Lx : Array Slot} {locs : List Loc} {st0 : List Value} {av : Array Value}
    (hA : ∀ q, H0.size ≤ q → A q) (hl : lv_has Lx M.2.2.1 (lm a ls)) (hD : va_D A (wd a tc x)) (hS : va_S A H0 H locs)
    (hr : va_Run p l e R s m args below meth c H locs cells slots 0 0 (F0 m pc Lx st0) (rest.map (rv a)) (sQ (l, G, a, tc) (va_A (wd a tc x) H.size) P av) (va_A (wd a tc x) H.size))
    (k : ∀ r x', P r x' → SW (p, l, e, R, s, m, args, below, meth, c, G, a, tc, A, H0, cells, slots, Q) M (pc + 3) ls (r.toList ++ rest) x') : W p l e R s m args below meth c H locs cells slots Q (F0 m pc Lx st0) := by
  have hf : ∀ q, va_A (wd a tc x) H.size q → A q := by
    intro q h
    rcases h with ⟨i, E, h⟩ | h
    · exact hD.2 i (q, E) h
    · exact hA q (Nat.le_trans hS.1 h)
  intro T hT X
  obtain ⟨v, st₀, t, T', L, h0, X', hL, e1, e2, ⟨⟨r, x', hPr, hv, hP1, hD1⟩, hz, hk⟩, st⟩ := hr T hT X
  cases hv
  rw [h0] at hz hk
  dsimp only at hP1 hD1
  have k2 := k r x' hPr Lx T'.heap (locs ++ L) hl (by rw [e1]; exact hP1) (hD1.weaken (fun _ q _ h => hf q.1 h))
    ⟨Nat.le_trans hS.1 (by rw [e1]; exact hz), fun q h1 h2 => by rw [e1, hk q (Nat.lt_of_lt_of_le h1 hS.1) (fun z => h2 (hf q z))]; exact hS.2.1 q h1 h2, fun q hq => by
      rcases List.mem_append.mp hq with h | h
      · exact hS.2.2 q h
      · exact hf _ (hL q h)⟩
  obtain ⟨t2, a1, b1⟩ := k2 T' rfl X'
  refine ⟨t2, st t2 ?_, b1⟩
  have e5 : (Option.map (rv a) r).toList ++ rest.map (rv a) = (r.toList ++ rest).map (rv a) := tl_rv a r rest
  show Steps p.tables e below (T'.setTop (F0 m (pc + 3) Lx ((Option.map (rv a) r).toList ++ rest.map (rv a)))) t2
  rw [e5]
  exact a1
theorem so_callV {X : Ctx} {M M2 : MI} (h : sCx X M) {pc ix n : Nat} (w1 : Cond.methodLink M.1.cls ix M2.1 ∈ gw) (w2 : Cond.instanceMethod M2.1 ∈ gw) (w3 : Cond.selects M2.1.cls M2.1 M2.1 ∈ gw) (w4 : Cond.initialized M2.1.cls ∈ gw) (w5 : Cond.code M2.1 M2.2.1 M2.2.2.1 M2.2.2.2.1 ∈ gw)
    (hy : M2.1.cls ≠ "java/lang/invoke/MethodHandle" ∧ M2.1.cls ≠ "java/lang/invoke/VarHandle" ∧ (parseMethodDescriptor M2.1.desc).map (fun d => d.parameters.length) = some n ∧ M2.1.cls ≠ "") (hR : M2.2.2.2.2 + 1 ≤ M.2.2.2.2 ∧ 19 + M2.2.2.1 + 38 * M2.2.2.2.2 ≤ 38 * M.2.2.2.2)
    (hd : decode M.2.1 pc = .ok (.invokevirtual ix, 3)) : okCall X M pc (pc + 3) (n + 1) M2 M2.1.cls := by
  obtain ⟨p, l, e, R, s, m, args, below, meth, c, G, a, tc, A, H0, cells, slots, Q⟩ := X
  obtain ⟨hx, hb, hml, hown, hts, ⟨hK, hN⟩, hA, hc1, hs1, hf1, hl1, hlk, hrt⟩ := h
  intro ls as st rest x P hM hst hlen hrc hcat k Lx H locs hl hP hD hS
  rcases hrc with hrc | ⟨i, bs, ci, ks, T, N, rfl, hsh, hci⟩
  · exact absurd hrc hy.2.2.2
  subst hst
  have hi : i < 96 := shp_ltR hsh
  have he : (wd a tc x)[i]? = some (a i, .inr (ci, ks.mapIdx (fun k r => fkv a x i k r))) := by rw [wd_get hi, ent_o hsh]
  have hGd : GoodIn gw (wsV M.1.cls ix M2.1.cls M2.1 (wsN M2)) := by
    apply gw_in
    intro w hw
    simp only [wsV, wsN, List.cons_append, List.nil_append, List.mem_cons] at hw
    rcases hw with rfl | rfl | rfl | rfl | rfl | hw
    · exact w1
    · exact w2
    · exact w3
    · exact w4
    · exact w5
    · exact hw
  refine call_on (G := G) (tc := tc) (x := x) (P := P) (rest := rest) (M := M) (av := (Value.ref (a i) :: bs.map (rv a)).toArray) hA hl hD hS ?_ k
  refine va_runV (Ts := gw) (own := M.1.cls) (C := M2.1.cls) (b := a i) (As := bs.map (rv a)) (index := ix) (nL := M.2.2.1) (bytes := M2.2.1) (maxL := M2.2.2.1) (ret := M2.2.2.2.1) (n := n) ⟨hx, hb, hml, hown, hts⟩ (hM H.size) (cwV n hts hGd rfl rfl rfl ⟨rfl, hy.1, hy.2.1, hy.2.2.1⟩ ⟨by rw [hf1]; exact hR.1, by refine Nat.le_trans ?_ hl1; have := hR.2; show 8 + (M2.2.2.1 + 11) + 38 * M2.2.2.2.2 ≤ _; omega⟩) ⟨sP_blind, va_recv hK hP hci he, fun U hU hW => ⟨rfl, by rw [hU], by rw [hU]; exact hP, wK_warm hW ⟨hK, hN⟩, hD.weaken (fun _ _ _ _ => trivial)⟩⟩ rfl (by simpa using hlen) hl.1 ?_ ?_ hd ⟨hc1, hs1⟩
  · show ((Value.ref i :: bs).reverse ++ rest).map (rv a) = _
    simp [rv]
  · exact lv_room (by rw [cat_rv]; exact hcat)
theorem so_callS {X : Ctx} {M M2 : MI} (h : sCx X M) {pc ix n : Nat} (w1 : Cond.methodLink M.1.cls ix M2.1 ∈ gw) (w2 : Cond.static M2.1 ∈ gw) (w4 : Cond.initialized M2.1.cls ∈ gw) (w5 : Cond.code M2.1 M2.2.1 M2.2.2.1 M2.2.2.2.1 ∈ gw)
    (hy : M2.1.cls ≠ "java/lang/invoke/MethodHandle" ∧ M2.1.cls ≠ "java/lang/invoke/VarHandle" ∧ (parseMethodDescriptor M2.1.desc).map (fun d => d.parameters.length) = some n) (hR : M2.2.2.2.2 + 1 ≤ M.2.2.2.2 ∧ 19 + M2.2.2.1 + 38 * M2.2.2.2.2 ≤ 38 * M.2.2.2.2)
    (hd : decode M.2.1 pc = .ok (.invokestatic ix, 3)) : okCall X M pc (pc + 3) n M2 "" := by
  obtain ⟨p, l, e, R, s, m, args, below, meth, c, G, a, tc, A, H0, cells, slots, Q⟩ := X
  obtain ⟨hx, hb, hml, hown, hts, ⟨hK, hN⟩, hA, hc1, hs1, hf1, hl1, hlk, hrt⟩ := h
  intro ls as st rest x P hM hst hlen _ hcat k Lx H locs hl hP hD hS
  subst hst
  have hGd : GoodIn gw (va_wsS M.1.cls ix M2.1 (wsN M2)) := by
    apply gw_in
    intro w hw
    simp only [va_wsS, wsN, List.cons_append, List.nil_append, List.mem_cons] at hw
    rcases hw with rfl | rfl | rfl | rfl | hw
    · exact w1
    · exact w2
    · exact w4
    · exact w5
    · exact hw
  refine call_on (G := G) (tc := tc) (x := x) (P := P) (rest := rest) (M := M) (av := (as.map (rv a)).toArray) hA hl hD hS ?_ k
  refine va_runS (Ts := gw) (own := M.1.cls) (As := as.map (rv a)) (index := ix) (nL := M.2.2.1) (bytes := M2.2.1) (maxL := M2.2.2.1) (ret := M2.2.2.2.1) (n := n) ⟨hx, hb, hml, hown, hts⟩ (hM H.size) (va_cwS n hts hGd rfl rfl rfl ⟨hy.1, hy.2.1, hy.2.2⟩ ⟨by rw [hf1]; exact hR.1, by refine Nat.le_trans ?_ hl1; have := hR.2; show 8 + (M2.2.2.1 + 11) + 38 * M2.2.2.2.2 ≤ _; omega⟩) ⟨sP_blind, fun U hU hW => ⟨rfl, by rw [hU], by rw [hU]; exact hP, wK_warm hW ⟨hK, hN⟩, hD.weaken (fun _ _ _ _ => trivial)⟩⟩ rfl (by simpa using hlen) hl.1 ?_ ?_ hd ⟨hc1, hs1⟩
  · show (as.reverse ++ rest).map (rv a) = _
    simp
  · exact lv_room (by rw [cat_rv]; exact hcat)
theorem so_callN {X : Ctx} {M M2 : MI} (h : sCx X M) {pc ix n : Nat} {host : String} (w1 : ∀ s, nw3 s → va_Nw (.methodLinkNest M.1.cls ix M2.1 host) s) (w2 : Cond.static M2.1 ∈ gw) (w4 : Cond.initialized M2.1.cls ∈ gw) (w5 : Cond.code M2.1 M2.2.1 M2.2.2.1 M2.2.2.2.1 ∈ gw)
    (hy : M2.1.cls ≠ "java/lang/invoke/MethodHandle" ∧ M2.1.cls ≠ "java/lang/invoke/VarHandle" ∧ (parseMethodDescriptor M2.1.desc).map (fun d => d.parameters.length) = some n) (hR : M2.2.2.2.2 + 1 ≤ M.2.2.2.2 ∧ 19 + M2.2.2.1 + 38 * M2.2.2.2.2 ≤ 38 * M.2.2.2.2)
    (hd : decode M.2.1 pc = .ok (.invokestatic ix, 3)) : okCall X M pc (pc + 3) n M2 "" := by
  obtain ⟨p, l, e, R, s, m, args, below, meth, c, G, a, tc, A, H0, cells, slots, Q⟩ := X
  obtain ⟨hx, hb, hml, hown, hts, ⟨hK, hN⟩, hA, hc1, hs1, hf1, hl1, hlk, hrt⟩ := h
  intro ls as st rest x P hM hst hlen _ hcat k Lx H locs hl hP hD hS
  subst hst
  have hGd : GoodIn gw (wsN M2) := by
    apply gw_in
    intro w hw
    simp only [wsN, List.mem_cons] at hw
    rcases hw with rfl | hw
    · exact w5
    · exact hw
  refine call_on (G := G) (tc := tc) (x := x) (P := P) (rest := rest) (M := M) (av := (as.map (rv a)).toArray) hA hl hD hS ?_ k
  refine va_runSN (Ts := gw) (own := M.1.cls) (host := host) (As := as.map (rv a)) (index := ix) (nL := M.2.2.1) (bytes := M2.2.1) (maxL := M2.2.2.1) (ret := M2.2.2.2.1) (n := n) ⟨hx, hb, hml, hown, hts⟩ (hM H.size) ⟨va_cnB n hts hGd rfl rfl rfl (w1 s hN) (hts _ w4) ⟨hy.1, hy.2.1, hy.2.2⟩ ⟨by rw [hf1]; exact hR.1, by refine Nat.le_trans ?_ hl1; have := hR.2; show 8 + (M2.2.2.1 + 11) + 38 * M2.2.2.2.2 ≤ _; omega⟩, hts _ w2, trivial⟩ ⟨sP_blind, fun U hU hW => ⟨rfl, by rw [hU], by rw [hU]; exact hP, wK_warm hW ⟨hK, hN⟩, hD.weaken (fun _ _ _ _ => trivial)⟩⟩ rfl (by simpa using hlen) hl.1 ?_ ?_ hd ⟨hc1, hs1⟩
  · show (as.reverse ++ rest).map (rv a) = _
    simp
  · exact lv_room (by rw [cat_rv]; exact hcat)
/-! ends -/
def ok_dreturn (X : Ctx) (M : MI) (pc : Nat) : Prop := ∀ (ls : Lo) (x : Hp) (v : UInt64) (P : Po), M.2.2.2.1 = some .double → retP X P → P (some (.double v)) x → SW X M pc ls [.double v] x
theorem so_dreturn {X : Ctx} {M : MI} (h : sCx X M) {pc : Nat} (hd : decode M.2.1 pc = .ok (.dreturn, 1)) : ok_dreturn X M pc := by
  obtain ⟨p, l, e, R, s, m, args, below, meth, c, G, a, tc, A, H0, cells, slots, Q⟩ := X
  obtain ⟨hx, hb, hml, hown, hts, ⟨hK, hN⟩, hA, hc1, hs1, hf1, hl1, hlk, hrt⟩ := h
  intro ls x v P hh hR hp Lx H locs hl hP hD hS
  obtain ⟨rfl, rfl⟩ := hR
  exact W.dret (v := v) hx hb (hrt.trans hh) (fun t ht hW => ⟨⟨_, x, hp, rfl, by rw [ht]; exact hP, hD⟩, hS.F ht⟩) hS.2.2 hd hlk
def ok_lreturn (X : Ctx) (M : MI) (pc : Nat) : Prop := ∀ (ls : Lo) (x : Hp) (v : Int64) (P : Po), M.2.2.2.1 = some .long → retP X P → P (some (.long v)) x → SW X M pc ls [.long v] x
theorem so_lreturn {X : Ctx} {M : MI} (h : sCx X M) {pc : Nat} (hd : decode M.2.1 pc = .ok (.lreturn, 1)) : ok_lreturn X M pc := by
  obtain ⟨p, l, e, R, s, m, args, below, meth, c, G, a, tc, A, H0, cells, slots, Q⟩ := X
  obtain ⟨hx, hb, hml, hown, hts, ⟨hK, hN⟩, hA, hc1, hs1, hf1, hl1, hlk, hrt⟩ := h
  intro ls x v P hh hR hp Lx H locs hl hP hD hS
  obtain ⟨rfl, rfl⟩ := hR
  exact W.lret (v := v) hx hb (hrt.trans hh) (fun t ht hW => ⟨⟨_, x, hp, rfl, by rw [ht]; exact hP, hD⟩, hS.F ht⟩) hS.2.2 hd hlk
def ok_ireturn (X : Ctx) (M : MI) (pc : Nat) : Prop := ∀ (ls : Lo) (x : Hp) (v : Int32) (P : Po), (∃ ty, M.2.2.2.1 = some ty ∧ narrow ty (.int v) = .int v) → retP X P → P (some (.int v)) x → SW X M pc ls [.int v] x
theorem so_ireturn {X : Ctx} {M : MI} (h : sCx X M) {pc : Nat} (hd : decode M.2.1 pc = .ok (.ireturn, 1)) : ok_ireturn X M pc := by
  obtain ⟨p, l, e, R, s, m, args, below, meth, c, G, a, tc, A, H0, cells, slots, Q⟩ := X
  obtain ⟨hx, hb, hml, hown, hts, ⟨hK, hN⟩, hA, hc1, hs1, hf1, hl1, hlk, hrt⟩ := h
  intro ls x v P hh hR hp Lx H locs hl hP hD hS
  obtain ⟨rfl, rfl⟩ := hR
  obtain ⟨ty, h1, h2⟩ := hh
  exact W.zret (v := v) hx hb (hrt.trans h1) h2 (fun t ht hW => ⟨⟨_, x, hp, rfl, by rw [ht]; exact hP, hD⟩, hS.F ht⟩) hS.2.2 hd hlk
def ok_return (X : Ctx) (M : MI) (pc : Nat) : Prop := ∀ (ls : Lo) (x : Hp) (P : Po), M.2.2.2.1 = none → retP X P → P none x → SW X M pc ls [] x
theorem so_return {X : Ctx} {M : MI} (h : sCx X M) {pc : Nat} (hd : decode M.2.1 pc = .ok (.return_, 1)) : ok_return X M pc := by
  obtain ⟨p, l, e, R, s, m, args, below, meth, c, G, a, tc, A, H0, cells, slots, Q⟩ := X
  obtain ⟨hx, hb, hml, hown, hts, ⟨hK, hN⟩, hA, hc1, hs1, hf1, hl1, hlk, hrt⟩ := h
  intro ls x P hh hR hp Lx H locs hl hP hD hS
  obtain ⟨rfl, rfl⟩ := hR
  exact W.vret hx hb (hrt.trans hh) (fun t ht hW => ⟨⟨none, x, hp, rfl, by rw [ht]; exact hP, hD⟩, hS.F ht⟩) hS.2.2 hd hlk
/-- a switch over a table: its targets from lo on, and the other one -/
def okTsw (X : Ctx) (M : MI) (pc : Nat) (lo : Int) (tg : List Nat) (df : Nat) : Prop := ∀ (ls : Lo) (r : List Value) (x : Hp) (v : Int32), (∀ (k q : Nat), v.toInt = lo + k → tg[k]? = some q → SW X M q ls r x) → ((v.toInt < lo ∨ lo + tg.length ≤ v.toInt) → SW X M df ls r x) → SW X M pc ls (.int v :: r) x
theorem so_tsw {X : Ctx} {M : MI} (h : sCx X M) {pc len df : Nat} {dflt lo hi : Int} {offs : Array Int} {tg : List Nat} (hh : hi + 1 = lo + tg.length) (ho : offs.toList.map (fun o => (pc : Int) + o) = tg.map (fun (q : Nat) => (q : Int))) (ht : (pc : Int) + dflt = (df : Int)) (hd : decode M.2.1 pc = .ok (.tableswitch dflt lo hi offs, len)) : okTsw X M pc lo tg df := by
  obtain ⟨p, l, e, R, s, m, args, below, meth, c, G, a, tc, A, H0, cells, slots, Q⟩ := X
  obtain ⟨hx, hb, hml, hown, hts, ⟨hK, hN⟩, hA, hc1, hs1, hf1, hl1, hlk, hrt⟩ := h
  intro ls r x v k1 k2 Lx H locs hl hP hD hS
  by_cases hv : v.toInt < lo ∨ hi < v.toInt
  · exact lv_tableOut hx hb hd hv ht (k2 (by omega) Lx H locs hl hP hD hS)
  · obtain ⟨j, hj⟩ : ∃ j : Nat, v.toInt = lo + j := ⟨(v.toInt - lo).toNat, by omega⟩
    have hjl : j < tg.length := by omega
    have e1 : (offs.toList.map (fun o => (pc : Int) + o))[j]? = some ((tg[j] : Nat) : Int) := by rw [ho, List.getElem?_map, List.getElem?_eq_getElem hjl]; rfl
    rw [List.getElem?_map] at e1
    cases e2 : offs.toList[j]? with
    | none => rw [e2] at e1; cases e1
    | some off =>
      rw [e2] at e1
      refine lv_tableIn hx hb hd (fun q => hv (Or.inl q)) (fun q => hv (Or.inr q)) (off := off) ?_ (Option.some.inj e1) (k1 j tg[j] hj (List.getElem?_eq_getElem hjl) Lx H locs hl hP hD hS)
      rw [show (v.toInt - lo).toNat = j by omega, ← Array.getElem?_toList]
      exact e2
/-- a row of an array as a whole -/
def uR {α : Type} (f : Nat → Nat → α) (i : Nat) (g : Nat → α) : Nat → Nat → α := fun a => if a = i then g else f a
theorem uR_self {α : Type} {f : Nat → Nat → α} {i : Nat} {g : Nat → α} : uR f i g i = g := if_pos rfl
theorem uR_ne {α : Type} {f : Nat → Nat → α} {i j : Nat} {g : Nat → α} (h : j ≠ i) : uR f i g j = f j := if_neg h
theorem wd_setRI {a : Nat → Nat} {tc : Nat → ClassId} {x : Hp} {i n : Nat} {g : Nat → Int32} (hi : i < 96) (h : shp i = .inl (0, n)) : (wd a tc x).set i (a i, .inl (tc 0, n, .inl g)) = wd a tc (uR x.1 i g, x.2) :=
  wd_set hi (by rw [ent_i h, show (uR x.1 i g, x.2).1 i = g from uR_self]) (fun j hj => ent_congr (uR_ne hj) rfl rfl)
theorem wd_setRD {a : Nat → Nat} {tc : Nat → ClassId} {x : Hp} {i n : Nat} {g : Nat → UInt64} (hi : i < 96) (h : shp i = .inl (1, n)) : (wd a tc x).set i (a i, .inl (tc 1, n, .inr (.inr (.inr (.inl g))))) = wd a tc (x.1, uR x.2.1 i g, x.2.2) :=
  wd_set hi (by rw [ent_d h, show (x.1, uR x.2.1 i g, x.2.2).2.1 i = g from uR_self]) (fun j hj => ent_congr rfl (uR_ne hj) rfl)
def okCpI (X : Ctx) (M : MI) (pc pc' : Nat) : Prop := ∀ (ls : Lo) (x : Hp) (i j n1 n2 : Nat) (sp dp n : Int32), shp i = .inl (0, n1) → shp j = .inl (0, n2) → n1 ≠ 0 → n2 ≠ 0 → ¬ sp < 0 → ¬ dp < 0 → ¬ n < 0 → sp.toNatClampNeg + n.toNatClampNeg ≤ n1 → dp.toNatClampNeg + n.toNatClampNeg ≤ n2 → SW X M pc' ls [] (uR x.1 j (va_cpy (x.1 i) (x.1 j) sp.toNatClampNeg dp.toNatClampNeg n.toNatClampNeg), x.2) → SW X M pc ls [.int n, .int dp, .ref j, .int sp, .ref i] x
def okCpD (X : Ctx) (M : MI) (pc pc' : Nat) : Prop := ∀ (ls : Lo) (x : Hp) (i j n1 n2 : Nat) (sp dp n : Int32), shp i = .inl (1, n1) → shp j = .inl (1, n2) → n1 ≠ 0 → n2 ≠ 0 → ¬ sp < 0 → ¬ dp < 0 → ¬ n < 0 → sp.toNatClampNeg + n.toNatClampNeg ≤ n1 → dp.toNatClampNeg + n.toNatClampNeg ≤ n2 → SW X M pc' ls [] (x.1, uR x.2.1 j (va_cpy (x.2.1 i) (x.2.1 j) sp.toNatClampNeg dp.toNatClampNeg n.toNatClampNeg), x.2.2) → SW X M pc ls [.int n, .int dp, .ref j, .int sp, .ref i] x
theorem so_cp {X : Ctx} {M : MI} (h : sCx X M) {pc ix : Nat} (w1 : Cond.methodLink M.1.cls ix arraycopyName ∈ gw) (w2 : Cond.native arraycopyName ∈ gw) (w3 : Cond.static arraycopyName ∈ gw) (w4 : Cond.initialized "java/lang/System" ∈ gw) (hR : 1 ≤ M.2.2.2.2) (hd : decode M.2.1 pc = .ok (.invokestatic ix, 3)) : okCpI X M pc (pc + 3) ∧ okCpD X M pc (pc + 3) := by
  obtain ⟨p, l, e, R, s, m, args, below, meth, c, G, a, tc, A, H0, cells, slots, Q⟩ := X
  obtain ⟨hx, hb, hml, hown, hts, ⟨hK, hN⟩, hA, hc1, hs1, hf1, hl1, hlk, hrt⟩ := h
  constructor
  · intro ls x i j n1 n2 sp dp n hi hj z1 z2 h1 h2 h3 h4 h5 k Lx H locs hl hP hD hS
    have hi9 := shp_lt hi z1
    have hj9 := shp_lt hj z2
    have e1 := wd_get (a := a) (tc := tc) (x := x) hi9
    have e2 := wd_get (a := a) (tc := tc) (x := x) hj9
    rw [ent_i hi] at e1
    rw [ent_i hj] at e2
    refine va_copyi (rest := []) hx hb (hml.trans hl.1.symm) hown (hts _ w1) (hts _ w2) (hts _ w3) (hts _ w4) hK hP hD hS i j 0 0 e1 e2 rfl rfl rfl h1 h2 h3 h4 h5 (fun _ _ => rfl) (by rw [hf1]; exact hR) ?_ hd (fun H1 locs1 hP1 hD1 hS1 => ?_)
    · refine Nat.le_trans ?_ hl1
      have : nativeFrameWords "java/lang/System" "arraycopy" 5 + 11 ≤ 38 := by decide +kernel
      show 0 + _ ≤ _
      omega
    · rw [wd_setRI hj9 hj] at hP1 hD1
      exact k Lx H1 locs1 hl hP1 hD1 hS1
  · intro ls x i j n1 n2 sp dp n hi hj z1 z2 h1 h2 h3 h4 h5 k Lx H locs hl hP hD hS
    have hi9 := shp_lt hi z1
    have hj9 := shp_lt hj z2
    have e1 := wd_get (a := a) (tc := tc) (x := x) hi9
    have e2 := wd_get (a := a) (tc := tc) (x := x) hj9
    rw [ent_d hi] at e1
    rw [ent_d hj] at e2
    refine va_copyd (rest := []) hx hb (hml.trans hl.1.symm) hown (hts _ w1) (hts _ w2) (hts _ w3) (hts _ w4) hK hP hD hS i j 1 1 e1 e2 rfl rfl rfl h1 h2 h3 h4 h5 (fun _ _ => rfl) (by rw [hf1]; exact hR) ?_ hd (fun H1 locs1 hP1 hD1 hS1 => ?_)
    · refine Nat.le_trans ?_ hl1
      have : nativeFrameWords "java/lang/System" "arraycopy" 5 + 11 ≤ 38 := by decide +kernel
      show 0 + _ ≤ _
      omega
    · rw [wd_setRD hj9 hj] at hP1 hD1
      exact k Lx H1 locs1 hl hP1 hD1 hS1
def ok_mmax (X : Ctx) (M : MI) (pc pc' : Nat) : Prop := ∀ (ls : Lo) (r : List Value) (x : Hp) (y z : Int32), (r.map Value.category).sum ≤ 8 → SW X M pc' ls (.int (if z < y then y else z) :: r) x → SW X M pc ls (.int y :: .int z :: r) x
theorem so_mmax {X : Ctx} {M : MI} (h : sCx X M) {pc ix : Nat} (w1 : Cond.methodLink M.1.cls ix Lib.Math.max.name ∈ gw) (w2 : Cond.static Lib.Math.max.name ∈ gw) (w3 : Cond.initialized "java/lang/Math" ∈ gw) (w4 : Cond.code Lib.Math.max.name Lib.Math.max.code 2 (some .int) ∈ gw) (hR : 1 ≤ M.2.2.2.2) (hd : decode M.2.1 pc = .ok (.invokestatic ix, 3)) : ok_mmax X M pc (pc + 3) := by
  obtain ⟨p, l, e, R, s, m, args, below, meth, c, G, a, tc, A, H0, cells, slots, Q⟩ := X
  obtain ⟨hx, hb, hml, hown, hts, ⟨hK, hN⟩, hA, hc1, hs1, hf1, hl1, hlk, hrt⟩ := h
  intro ls r x y z hcat k Lx H locs hl hP hD hS
  exact va_mmax hx hb (hml.trans hl.1.symm) hown (hts _ w1) (hts _ w2) (hts _ w3) (hts _ w4) (by rw [hf1]; exact hR) (by rw [cat_rv]; refine Nat.le_trans ?_ hl1; omega) hc1 hs1 hd (k Lx H locs hl hP hD hS)
def ok_mmin (X : Ctx) (M : MI) (pc pc' : Nat) : Prop := ∀ (ls : Lo) (r : List Value) (x : Hp) (y z : Int32), (r.map Value.category).sum ≤ 8 → SW X M pc' ls (.int (if y < z then y else z) :: r) x → SW X M pc ls (.int y :: .int z :: r) x
theorem so_mmin {X : Ctx} {M : MI} (h : sCx X M) {pc ix : Nat} (w1 : Cond.methodLink M.1.cls ix Lib.Math.min.name ∈ gw) (w2 : Cond.static Lib.Math.min.name ∈ gw) (w3 : Cond.initialized "java/lang/Math" ∈ gw) (w4 : Cond.code Lib.Math.min.name Lib.Math.min.code 2 (some .int) ∈ gw) (hR : 1 ≤ M.2.2.2.2) (hd : decode M.2.1 pc = .ok (.invokestatic ix, 3)) : ok_mmin X M pc (pc + 3) := by
  obtain ⟨p, l, e, R, s, m, args, below, meth, c, G, a, tc, A, H0, cells, slots, Q⟩ := X
  obtain ⟨hx, hb, hml, hown, hts, ⟨hK, hN⟩, hA, hc1, hs1, hf1, hl1, hlk, hrt⟩ := h
  intro ls r x y z hcat k Lx H locs hl hP hD hS
  exact va_mmin hx hb (hml.trans hl.1.symm) hown (hts _ w1) (hts _ w2) (hts _ w3) (hts _ w4) (by rw [hf1]; exact hR) (by rw [cat_rv]; refine Nat.le_trans ?_ hl1; omega) hc1 hs1 hd (k Lx H locs hl hP hD hS)
def ok_raw (X : Ctx) (M : MI) (pc pc' : Nat) : Prop := ∀ (ls : Lo) (r : List Value) (x : Hp) (b : UInt64), (r.map Value.category).sum ≤ 8 → SW X M pc' ls (.long b.toInt64 :: r) x → SW X M pc ls (.double b :: r) x
theorem so_raw {X : Ctx} {M : MI} (h : sCx X M) {pc ix : Nat} (w1 : Cond.methodLink M.1.cls ix ⟨"java/lang/Double", "doubleToRawLongBits", "(D)J"⟩ ∈ gw) (w2 : Cond.native ⟨"java/lang/Double", "doubleToRawLongBits", "(D)J"⟩ ∈ gw) (w3 : Cond.static ⟨"java/lang/Double", "doubleToRawLongBits", "(D)J"⟩ ∈ gw) (w4 : Cond.initialized "java/lang/Double" ∈ gw) (hR : 1 ≤ M.2.2.2.2) (hd : decode M.2.1 pc = .ok (.invokestatic ix, 3)) : ok_raw X M pc (pc + 3) := by
  obtain ⟨p, l, e, R, s, m, args, below, meth, c, G, a, tc, A, H0, cells, slots, Q⟩ := X
  obtain ⟨hx, hb, hml, hown, hts, ⟨hK, hN⟩, hA, hc1, hs1, hf1, hl1, hlk, hrt⟩ := h
  intro ls r x b hcat k Lx H locs hl hP hD hS
  exact vn_d2l hx hb (hml.trans hl.1.symm) hown (hts _ w1) (hts _ w2) (hts _ w3) (hts _ w4) (by rw [hf1]; exact hR) (by rw [cat_rv]; refine Nat.le_trans ?_ hl1; omega) hd (k Lx H locs hl hP hD hS)
/-! the table of a method -/
def okO (X : Ctx) (M : MI) (pc op pc' n : Nat) (M2 : MI) : Prop := match op with
  | 0 => ok_iaload X M pc pc'
  | 1 => ok_daload X M pc pc'
  | 2 => ok_laload X M pc pc'
  | 3 => ok_aaload X M pc pc'
  | 4 => ok_iastore X M pc pc'
  | 5 => ok_dastore X M pc pc'
  | 6 => ok_lastore X M pc pc'
  | 7 => ok_dadd X M pc pc'
  | 8 => ok_dsub X M pc pc'
  | 9 => ok_dmul X M pc pc'
  | 10 => ok_ddiv X M pc pc'
  | 11 => ok_idiv X M pc pc'
  | 12 => ok_irem X M pc pc'
  | 13 => okCall X M pc pc' n M2 M2.1.cls
  | 14 => okCall X M pc pc' n M2 ""
  | 15 => ok_ireturn X M pc
  | 16 => ok_dreturn X M pc
  | 17 => ok_lreturn X M pc
  | 18 => ok_return X M pc
  | 19 => okCpI X M pc pc' ∧ okCpD X M pc pc'
  | 20 => ok_mmax X M pc pc'
  | 21 => ok_mmin X M pc pc'
  | 22 => ok_raw X M pc pc'
  | _ => True
def okE (X : Ctx) (M : MI) (pc : Nat) (q : E1) : Prop := match q with
  | .inl (f, pc') => Stq X M pc pc' f
  | .inr (.inl (b, tgt, nxt)) => Brn X M pc tgt nxt b
  | .inr (.inr (.inl (op, pc', n, M2))) => okO X M pc op pc' n M2
  | .inr (.inr (.inr (lo, tg, df))) => okTsw X M pc lo tg df
abbrev Tb : Type := List (Nat × E1)
def tab (X : Ctx) (M : MI) (cd : Tb) : Prop := ∀ q ∈ cd, okE X M q.1 q.2
theorem tb_mem : ∀ {cd : Tb} {pc : Nat} {q : E1}, cd.lookup pc = some q → (pc, q) ∈ cd
  | [], _, _, h => by simp at h
  | (j, u) :: t, i, v, h => by
    rw [List.lookup_cons] at h
    split at h
    · next hq => cases h; have : i = j := by simpa using hq
                 subst this; exact List.mem_cons_self
    · exact List.mem_cons_of_mem _ (tb_mem h)
theorem tb_at {X : Ctx} {M : MI} {cd : Tb} (hT : tab X M cd) {pc : Nat} {q : E1} (h : cd.lookup pc = some q) : okE X M pc q := hT _ (tb_mem h)
section Rows
variable {X : Ctx} {M M2 : MI} {cd : Tb} {pc pc' n : Nat} {ls : Lo} {r rest st as : List Value} {x x' : Hp}
/-- one straight instruction -/
theorem sw_s {f : F1} {ls' : Lo} {st' : List Value} (hT : tab X M cd) (hc : cd.lookup pc = some (.inl (f, pc'))) (hf : f ls st x = some (ls', st', x')) (k : SW X M pc' ls' st' x') : SW X M pc ls st x := tb_at hT hc ls st x ls' st' x' hf k
theorem sw_b {b : B1} {tgt nxt : Nat} {P : Prop} (hT : tab X M cd) (hc : cd.lookup pc = some (.inr (.inl (b, tgt, nxt)))) (hf : b st = some (P, r)) (kt : P → SW X M tgt ls r x) (kf : ¬ P → SW X M nxt ls r x) : SW X M pc ls st x := tb_at hT hc ls st x P r hf kt kf
theorem sw_iald {i m : Nat} {j : Int32} (hT : tab X M cd) (hc : cd.lookup pc = some (.inr (.inr (.inl (0, pc', n, M2))))) (hs : shp i = .inl (0, m)) (hj : vp_in j m) (k : SW X M pc' ls (.int (x.1 i j.toNatClampNeg) :: r) x) : SW X M pc ls (.int j :: .ref i :: r) x := tb_at hT hc ls r x i m j hs hj k
theorem sw_dald {i m : Nat} {j : Int32} (hT : tab X M cd) (hc : cd.lookup pc = some (.inr (.inr (.inl (1, pc', n, M2))))) (hs : shp i = .inl (1, m)) (hj : vp_in j m) (k : SW X M pc' ls (.double (x.2.1 i j.toNatClampNeg) :: r) x) : SW X M pc ls (.int j :: .ref i :: r) x := tb_at hT hc ls r x i m j hs hj k
theorem sw_lald {i m : Nat} {j : Int32} (hT : tab X M cd) (hc : cd.lookup pc = some (.inr (.inr (.inl (2, pc', n, M2))))) (hs : shp i = .inl (2, m)) (hj : vp_in j m) (k : SW X M pc' ls (.long (x.2.2 i j.toNatClampNeg) :: r) x) : SW X M pc ls (.int j :: .ref i :: r) x := tb_at hT hc ls r x i m j hs hj k
theorem sw_aald {i m : Nat} {j : Int32} (hT : tab X M cd) (hc : cd.lookup pc = some (.inr (.inr (.inl (3, pc', n, M2))))) (hs : shp i = .inl (3, m)) (hj : vp_in j m) (k : SW X M pc' ls (.ref (16 + 15 * j.toNatClampNeg) :: r) x) : SW X M pc ls (.int j :: .ref i :: r) x := tb_at hT hc ls r x i m j hs hj k
theorem sw_iast {i m : Nat} {j v : Int32} (hT : tab X M cd) (hc : cd.lookup pc = some (.inr (.inr (.inl (4, pc', n, M2))))) (hs : shp i = .inl (0, m)) (hj : vp_in j m) (k : SW X M pc' ls r (u2 x.1 i j.toNatClampNeg v, x.2)) : SW X M pc ls (.int v :: .int j :: .ref i :: r) x := tb_at hT hc ls r x i m j v hs hj k
theorem sw_dast {i m : Nat} {j : Int32} {v : UInt64} (hT : tab X M cd) (hc : cd.lookup pc = some (.inr (.inr (.inl (5, pc', n, M2))))) (hs : shp i = .inl (1, m)) (hj : vp_in j m) (k : SW X M pc' ls r (x.1, u2 x.2.1 i j.toNatClampNeg v, x.2.2)) : SW X M pc ls (.double v :: .int j :: .ref i :: r) x := tb_at hT hc ls r x i m j v hs hj k
theorem sw_last {i m : Nat} {j : Int32} {v : Int64} (hT : tab X M cd) (hc : cd.lookup pc = some (.inr (.inr (.inl (6, pc', n, M2))))) (hs : shp i = .inl (2, m)) (hj : vp_in j m) (k : SW X M pc' ls r (x.1, x.2.1, u2 x.2.2 i j.toNatClampNeg v)) : SW X M pc ls (.long v :: .int j :: .ref i :: r) x := tb_at hT hc ls r x i m j v hs hj k
theorem sw_dadd {y z : UInt64} (hT : tab X M cd) (hc : cd.lookup pc = some (.inr (.inr (.inl (7, pc', n, M2))))) (hn : vf_n64 (FP.dadd z y)) (k : SW X M pc' ls (.double (FP.dadd z y) :: r) x) : SW X M pc ls (.double y :: .double z :: r) x := tb_at hT hc ls r x y z hn k
theorem sw_dsub {y z : UInt64} (hT : tab X M cd) (hc : cd.lookup pc = some (.inr (.inr (.inl (8, pc', n, M2))))) (hn : vf_n64 (FP.dsub z y)) (k : SW X M pc' ls (.double (FP.dsub z y) :: r) x) : SW X M pc ls (.double y :: .double z :: r) x := tb_at hT hc ls r x y z hn k
theorem sw_dmul {y z : UInt64} (hT : tab X M cd) (hc : cd.lookup pc = some (.inr (.inr (.inl (9, pc', n, M2))))) (hn : vf_n64 (FP.dmul z y)) (k : SW X M pc' ls (.double (FP.dmul z y) :: r) x) : SW X M pc ls (.double y :: .double z :: r) x := tb_at hT hc ls r x y z hn k
theorem sw_ddiv {y z : UInt64} (hT : tab X M cd) (hc : cd.lookup pc = some (.inr (.inr (.inl (10, pc', n, M2))))) (hn : vf_n64 (FP.ddiv z y)) (k : SW X M pc' ls (.double (FP.ddiv z y) :: r) x) : SW X M pc ls (.double y :: .double z :: r) x := tb_at hT hc ls r x y z hn k
theorem sw_idiv {y z : Int32} (hT : tab X M cd) (hc : cd.lookup pc = some (.inr (.inr (.inl (11, pc', n, M2))))) (hn : ¬ y = 0) (k : SW X M pc' ls (.int (z / y) :: r) x) : SW X M pc ls (.int y :: .int z :: r) x := tb_at hT hc ls r x y z hn k
theorem sw_irem {y z : Int32} (hT : tab X M cd) (hc : cd.lookup pc = some (.inr (.inr (.inl (12, pc', n, M2))))) (hn : ¬ y = 0) (k : SW X M pc' ls (.int (z - z / y * y) :: r) x) : SW X M pc ls (.int y :: .int z :: r) x := tb_at hT hc ls r x y z hn k
theorem sw_cv {v : Value} {i ci N : Nat} {bs : List Value} {ks : List Nat} {T : u_T} (hT : tab X M cd) (hc : cd.lookup pc = some (.inr (.inr (.inl (13, pc', n, M2))))) (hM : sM (xk X) M2 (.ref i :: bs) x (some v) x') (hst : st = (Value.ref i :: bs).reverse ++ rest) (hn : (Value.ref i :: bs).length = n) (hs : shp i = .inr (ci, ks)) (hi : vwCl[ci]? = some (M2.1.cls, T, N)) (hcat : (rest.map Value.category).sum ≤ 8) (k : SW X M pc' ls (v :: rest) x') : SW X M pc ls st x := tb_at hT hc ls _ st rest x _ hM hst hn (Or.inr ⟨i, bs, ci, ks, T, N, rfl, hs, hi⟩) hcat (by rintro _ _ ⟨rfl, rfl⟩; exact k)
theorem sw_cv0 {i ci N : Nat} {bs : List Value} {ks : List Nat} {T : u_T} (hT : tab X M cd) (hc : cd.lookup pc = some (.inr (.inr (.inl (13, pc', n, M2))))) (hM : sM (xk X) M2 (.ref i :: bs) x none x') (hst : st = (Value.ref i :: bs).reverse ++ rest) (hn : (Value.ref i :: bs).length = n) (hs : shp i = .inr (ci, ks)) (hi : vwCl[ci]? = some (M2.1.cls, T, N)) (hcat : (rest.map Value.category).sum ≤ 8) (k : SW X M pc' ls rest x') : SW X M pc ls st x := tb_at hT hc ls _ st rest x _ hM hst hn (Or.inr ⟨i, bs, ci, ks, T, N, rfl, hs, hi⟩) hcat (by rintro _ _ ⟨rfl, rfl⟩; exact k)
theorem sw_cs {v : Value} (hT : tab X M cd) (hc : cd.lookup pc = some (.inr (.inr (.inl (14, pc', n, M2))))) (hM : sM (xk X) M2 as x (some v) x') (hst : st = as.reverse ++ rest) (hn : as.length = n) (hcat : (rest.map Value.category).sum ≤ 8) (k : SW X M pc' ls (v :: rest) x') : SW X M pc ls st x := tb_at hT hc ls _ st rest x _ hM hst hn (Or.inl rfl) hcat (by rintro _ _ ⟨rfl, rfl⟩; exact k)
theorem sw_cs0 (hT : tab X M cd) (hc : cd.lookup pc = some (.inr (.inr (.inl (14, pc', n, M2))))) (hM : sM (xk X) M2 as x none x') (hst : st = as.reverse ++ rest) (hn : as.length = n) (hcat : (rest.map Value.category).sum ≤ 8) (k : SW X M pc' ls rest x') : SW X M pc ls st x := tb_at hT hc ls _ st rest x _ hM hst hn (Or.inl rfl) hcat (by rintro _ _ ⟨rfl, rfl⟩; exact k)
theorem sw_pick {ls' : Lo} (ks : List Nat) (h : lv_pick ls ks = ls') (k : SW X M pc ls' st x) : SW X M pc ls st x := by
  intro Lx H locs hl hP hD hS
  refine k Lx H locs (lv_sub hl ks ?_) hP hD hS
  rw [← h]
  unfold lv_pick lm
  rw [List.map_filterMap]
  congr 1
  funext j
  rw [List.getElem?_map]
theorem sw_iret {v : Int32} {ty : FieldType} (hT : tab X M cd) (hc : cd.lookup pc = some (.inr (.inr (.inl (15, pc', n, M2))))) (h1 : M.2.2.2.1 = some ty) (h2 : narrow ty (.int v) = .int v) (hR : retOK X (some (.int v)) x) : SW X M pc ls [.int v] x := tb_at hT hc ls x v _ ⟨ty, h1, h2⟩ hR ⟨rfl, rfl⟩
theorem sw_dret {v : UInt64} (hT : tab X M cd) (hc : cd.lookup pc = some (.inr (.inr (.inl (16, pc', n, M2))))) (h1 : M.2.2.2.1 = some .double) (hR : retOK X (some (.double v)) x) : SW X M pc ls [.double v] x := tb_at hT hc ls x v _ h1 hR ⟨rfl, rfl⟩
theorem sw_lret {v : Int64} (hT : tab X M cd) (hc : cd.lookup pc = some (.inr (.inr (.inl (17, pc', n, M2))))) (h1 : M.2.2.2.1 = some .long) (hR : retOK X (some (.long v)) x) : SW X M pc ls [.long v] x := tb_at hT hc ls x v _ h1 hR ⟨rfl, rfl⟩
theorem sw_vret (hT : tab X M cd) (hc : cd.lookup pc = some (.inr (.inr (.inl (18, pc', n, M2))))) (h1 : M.2.2.2.1 = none) (hR : retOK X none x) : SW X M pc ls [] x := tb_at hT hc ls x _ h1 hR ⟨rfl, rfl⟩
theorem sw_iretP {v : Int32} {ty : FieldType} {P : Po} (hT : tab X M cd) (hc : cd.lookup pc = some (.inr (.inr (.inl (15, pc', n, M2))))) (h1 : M.2.2.2.1 = some ty) (h2 : narrow ty (.int v) = .int v) (hR : retP X P) (hp : P (some (.int v)) x) : SW X M pc ls [.int v] x := tb_at hT hc ls x v _ ⟨ty, h1, h2⟩ hR hp
theorem sw_dretP {v : UInt64} {P : Po} (hT : tab X M cd) (hc : cd.lookup pc = some (.inr (.inr (.inl (16, pc', n, M2))))) (h1 : M.2.2.2.1 = some .double) (hR : retP X P) (hp : P (some (.double v)) x) : SW X M pc ls [.double v] x := tb_at hT hc ls x v _ h1 hR hp
theorem sw_lretP {v : Int64} {P : Po} (hT : tab X M cd) (hc : cd.lookup pc = some (.inr (.inr (.inl (17, pc', n, M2))))) (h1 : M.2.2.2.1 = some .long) (hR : retP X P) (hp : P (some (.long v)) x) : SW X M pc ls [.long v] x := tb_at hT hc ls x v _ h1 hR hp
theorem sw_vretP {P : Po} (hT : tab X M cd) (hc : cd.lookup pc = some (.inr (.inr (.inl (18, pc', n, M2))))) (h1 : M.2.2.2.1 = none) (hR : retP X P) (hp : P none x) : SW X M pc ls [] x := tb_at hT hc ls x _ h1 hR hp
theorem sw_cvR {P : Po} {i ci N : Nat} {bs : List Value} {ks : List Nat} {T : u_T} (hT : tab X M cd) (hc : cd.lookup pc = some (.inr (.inr (.inl (13, pc', n, M2))))) (hM : sR (xk X) M2 (.ref i :: bs) x P) (hst : st = (Value.ref i :: bs).reverse ++ rest) (hn : (Value.ref i :: bs).length = n) (hs : shp i = .inr (ci, ks)) (hi : vwCl[ci]? = some (M2.1.cls, T, N)) (hcat : (rest.map Value.category).sum ≤ 8) (k : ∀ rr x', P rr x' → SW X M pc' ls (rr.toList ++ rest) x') : SW X M pc ls st x := tb_at hT hc ls _ st rest x _ hM hst hn (Or.inr ⟨i, bs, ci, ks, T, N, rfl, hs, hi⟩) hcat k
theorem sw_csR {P : Po} (hT : tab X M cd) (hc : cd.lookup pc = some (.inr (.inr (.inl (14, pc', n, M2))))) (hM : sR (xk X) M2 as x P) (hst : st = as.reverse ++ rest) (hn : as.length = n) (hcat : (rest.map Value.category).sum ≤ 8) (k : ∀ rr x', P rr x' → SW X M pc' ls (rr.toList ++ rest) x') : SW X M pc ls st x := tb_at hT hc ls _ st rest x _ hM hst hn (Or.inl rfl) hcat k
theorem sw_cpI {i j n1 n2 : Nat} {sp dp m : Int32} (hT : tab X M cd) (hc : cd.lookup pc = some (.inr (.inr (.inl (19, pc', n, M2))))) (hi : shp i = .inl (0, n1)) (hj : shp j = .inl (0, n2)) (z1 : n1 ≠ 0) (z2 : n2 ≠ 0) (h1 : ¬ sp < 0) (h2 : ¬ dp < 0) (h3 : ¬ m < 0) (h4 : sp.toNatClampNeg + m.toNatClampNeg ≤ n1) (h5 : dp.toNatClampNeg + m.toNatClampNeg ≤ n2) (k : SW X M pc' ls [] (uR x.1 j (va_cpy (x.1 i) (x.1 j) sp.toNatClampNeg dp.toNatClampNeg m.toNatClampNeg), x.2)) : SW X M pc ls [.int m, .int dp, .ref j, .int sp, .ref i] x := (tb_at hT hc).1 ls x i j n1 n2 sp dp m hi hj z1 z2 h1 h2 h3 h4 h5 k
theorem sw_cpD {i j n1 n2 : Nat} {sp dp m : Int32} (hT : tab X M cd) (hc : cd.lookup pc = some (.inr (.inr (.inl (19, pc', n, M2))))) (hi : shp i = .inl (1, n1)) (hj : shp j = .inl (1, n2)) (z1 : n1 ≠ 0) (z2 : n2 ≠ 0) (h1 : ¬ sp < 0) (h2 : ¬ dp < 0) (h3 : ¬ m < 0) (h4 : sp.toNatClampNeg + m.toNatClampNeg ≤ n1) (h5 : dp.toNatClampNeg + m.toNatClampNeg ≤ n2) (k : SW X M pc' ls [] (x.1, uR x.2.1 j (va_cpy (x.2.1 i) (x.2.1 j) sp.toNatClampNeg dp.toNatClampNeg m.toNatClampNeg), x.2.2)) : SW X M pc ls [.int m, .int dp, .ref j, .int sp, .ref i] x := (tb_at hT hc).2 ls x i j n1 n2 sp dp m hi hj z1 z2 h1 h2 h3 h4 h5 k
theorem sw_max {y z : Int32} (hT : tab X M cd) (hc : cd.lookup pc = some (.inr (.inr (.inl (20, pc', n, M2))))) (hcat : (r.map Value.category).sum ≤ 8) (k : SW X M pc' ls (.int (if z < y then y else z) :: r) x) : SW X M pc ls (.int y :: .int z :: r) x := tb_at hT hc ls r x y z hcat k
theorem sw_min {y z : Int32} (hT : tab X M cd) (hc : cd.lookup pc = some (.inr (.inr (.inl (21, pc', n, M2))))) (hcat : (r.map Value.category).sum ≤ 8) (k : SW X M pc' ls (.int (if y < z then y else z) :: r) x) : SW X M pc ls (.int y :: .int z :: r) x := tb_at hT hc ls r x y z hcat k
theorem sw_raw {b : UInt64} (hT : tab X M cd) (hc : cd.lookup pc = some (.inr (.inr (.inl (22, pc', n, M2))))) (hcat : (r.map Value.category).sum ≤ 8) (k : SW X M pc' ls (.long b.toInt64 :: r) x) : SW X M pc ls (.double b :: r) x := tb_at hT hc ls r x b hcat k
theorem sw_tsw {lo : Int} {tg : List Nat} {df : Nat} {v : Int32} (hT : tab X M cd) (hc : cd.lookup pc = some (.inr (.inr (.inr (lo, tg, df))))) (k1 : ∀ (k q : Nat), v.toInt = lo + k → tg[k]? = some q → SW X M q ls r x) (k2 : (v.toInt < lo ∨ lo + tg.length ≤ v.toInt) → SW X M df ls r x) : SW X M pc ls (.int v :: r) x := tb_at hT hc ls r x v k1 k2
end Rows
theorem eS {X : Ctx} {M : MI} {pc pc' : Nat} {f : F1} (h : Stq X M pc pc' f) : okE X M pc (.inl (f, pc')) := h
theorem eB {X : Ctx} {M : MI} {pc tgt nxt : Nat} {b : B1} (h : Brn X M pc tgt nxt b) : okE X M pc (.inr (.inl (b, tgt, nxt))) := h
theorem eO {X : Ctx} {M : MI} {pc op pc' n : Nat} {M2 : MI} (h : okO X M pc op pc' n M2) : okE X M pc (.inr (.inr (.inl (op, pc', n, M2)))) := h
theorem eT {X : Ctx} {M : MI} {pc : Nat} {lo : Int} {tg : List Nat} {df : Nat} (h : okTsw X M pc lo tg df) : okE X M pc (.inr (.inr (.inr (lo, tg, df)))) := h
theorem tab_nil {X : Ctx} {M : MI} : tab X M [] := fun _ h => absurd h List.not_mem_nil
theorem tab_cons {X : Ctx} {M : MI} {pc : Nat} {q : E1} {t : Tb} (h : okE X M pc q) (k : tab X M t) : tab X M ((pc, q) :: t) := List.forall_mem_cons.mpr ⟨h, k⟩
theorem tab_app {X : Ctx} {M : MI} {s t : Tb} (h : tab X M s) (k : tab X M t) : tab X M (s ++ t) := List.forall_mem_append.mpr ⟨h, k⟩
def m0 : MI := (⟨"", "", ""⟩, ⟨#[]⟩, 0, none, 0)
