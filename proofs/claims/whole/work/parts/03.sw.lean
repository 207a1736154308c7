/-! THE WHOLE WORLD AS NUMBERS: every object of the class, of the reference, and the law's two answer rows, at places that are known; what changes is x : ints, doubles, longs by object and slot -/
abbrev Hp : Type := (Nat → Nat → Int32) × (Nat → Nat → UInt64) × (Nat → Nat → Int64)
abbrev Lo : Type := List (Nat × Value)
abbrev F1 : Type := Lo → List Value → Hp → Option (Lo × List Value × Hp)
def u2 {α : Type} (f : Nat → Nat → α) (i k : Nat) (v : α) : Nat → Nat → α := fun a => if a = i then vf_upd (f i) k v else f a
def rv (a : Nat → Nat) : Value → Value := fun v => match v with
  | .ref k => .ref (a k)
  | v => v
abbrev Sh : Type := (Nat × Nat) ⊕ (Nat × List Nat)
/-- the cells of a State that begins at b -/
def shSt (b : Nat) : List Sh := [.inr (4, [b + 3, b + 8, b + 14, 1]), .inr (1, [1, 1, 0, b + 4, b + 5, b + 6, b + 7]), .inl (0, 12), .inl (0, 12), .inl (1, 12), .inl (0, 12), .inr (2, [b + 9, b + 10, b + 11, b + 12, b + 13, 0, 0]), .inl (0, 12), .inl (0, 12), .inl (0, 12), .inl (0, 12), .inl (0, 12), .inr (0, [0, b + 15, b + 16, 1]), .inl (0, 60), .inl (1, 60)]
def shA : List Sh := [.inr (6, [3, 78, 80])]
def shB : List Sh := [.inr (5, [0, 0, 79]), .inl (3, 4), .inr (3, [81, 0, 82, 83, 0, 84]), .inl (0, 12), .inl (1, 12), .inl (0, 12), .inl (0, 12), .inr (7, [0, 86, 87, 88, 89, 0, 90, 0, 91, 92, 0, 93, 94, 0, 95]), .inl (0, 170), .inl (1, 76), .inl (0, 680), .inl (1, 304), .inl (0, 12), .inl (0, 12), .inl (1, 12), .inl (0, 12), .inl (1, 12), .inl (0, 12), .inl (2, 1), .inl (1, 1)]
def shpL : List Sh := shA ++ (shSt 1 ++ (shSt 16 ++ (shSt 31 ++ (shSt 46 ++ (shSt 61 ++ shB)))))
def shp (i : Nat) : Sh := shpL.getD i (.inl (0, 0))
theorem shp_len : shpL.length = 96 := by decide +kernel
/-- a field's value: of kind 0 an int, 1 a double, r + 2 the object r -/
def fkv (a : Nat → Nat) (x : Hp) (i k r : Nat) : Value := match r with
  | 0 => .int (x.1 i k)
  | 1 => .double (x.2.1 i k)
  | r + 2 => .ref (a r)
def entS (a : Nat → Nat) (tc : Nat → ClassId) (x : Hp) (i : Nat) (sh : Sh) : va_E := match sh with
  | .inl (0, n) => .inl (tc 0, n, .inl (x.1 i))
  | .inl (1, n) => .inl (tc 1, n, .inr (.inr (.inr (.inl (x.2.1 i)))))
  | .inl (2, n) => .inl (tc 2, n, .inr (.inl (x.2.2 i)))
  | .inl (_ + 3, n) => .inl (tc 3, n, .inr (.inr (.inr (.inr (fun j => some (a (16 + 15 * j)))))))
  | .inr (ci, ks) => .inr (ci, ks.mapIdx (fun k r => fkv a x i k r))
def ent (a : Nat → Nat) (tc : Nat → ClassId) (x : Hp) (i : Nat) : va_E := entS a tc x i (shp i)
def wd (a : Nat → Nat) (tc : Nat → ClassId) (x : Hp) : va_W := (List.range 96).map (fun i => (a i, ent a tc x i))
theorem shp_lt {i : Nat} {t n : Nat} (h : shp i = .inl (t, n)) (hn : n ≠ 0) : i < 96 := by
  rcases Nat.lt_or_ge i 96 with q | q
  · exact q
  · unfold shp at h
    rw [List.getD_eq_getElem?_getD, List.getElem?_eq_none (by rw [shp_len]; exact q)] at h
    simp only [Option.getD_none, Sum.inl.injEq, Prod.mk.injEq] at h
    exact absurd h.2.symm hn
theorem shp_ltR {i : Nat} {t : Nat} {n : List Nat} (h : shp i = .inr (t, n)) : i < 96 := by
  rcases Nat.lt_or_ge i 96 with q | q
  · exact q
  · unfold shp at h
    rw [List.getD_eq_getElem?_getD, List.getElem?_eq_none (by rw [shp_len]; exact q)] at h
    simp at h
theorem wd_get {a : Nat → Nat} {tc : Nat → ClassId} {x : Hp} {i : Nat} (h : i < 96) : (wd a tc x)[i]? = some (a i, ent a tc x i) := by
  simp [wd, h]
theorem wd_len {a : Nat → Nat} {tc : Nat → ClassId} {x : Hp} : (wd a tc x).length = 96 := by simp [wd]
theorem wd_some {a : Nat → Nat} {tc : Nat → ClassId} {x : Hp} {k : Nat} {q : Nat × va_E} (h : (wd a tc x)[k]? = some q) : k < 96 ∧ q = (a k, ent a tc x k) := by
  have hk : k < 96 := by
    rcases Nat.lt_or_ge k 96 with z | z
    · exact z
    · rw [List.getElem?_eq_none (by rw [wd_len]; exact z)] at h
      cases h
  rw [wd_get hk] at h
  exact ⟨hk, (Option.some.inj h).symm⟩
theorem wd_set {a : Nat → Nat} {tc : Nat → ClassId} {x x' : Hp} {i : Nat} {E : va_E} (hi : i < 96) (hE : ent a tc x' i = E) (ho : ∀ j, j ≠ i → ent a tc x' j = ent a tc x j) : (wd a tc x).set i (a i, E) = wd a tc x' := by
  apply List.ext_getElem?
  intro j
  by_cases hj : j = i
  · subst hj
    rw [List.getElem?_set_self (by rw [wd_len]; exact hi), wd_get hi, hE]
  · rw [List.getElem?_set_ne (fun q => hj q.symm)]
    rcases Nat.lt_or_ge j 96 with q | q
    · rw [wd_get q, wd_get q, ho j hj]
    · rw [List.getElem?_eq_none (by rw [wd_len]; exact q), List.getElem?_eq_none (by rw [wd_len]; exact q)]
theorem ent_congr {a : Nat → Nat} {tc : Nat → ClassId} {x x' : Hp} {j : Nat} (h1 : x'.1 j = x.1 j) (h2 : x'.2.1 j = x.2.1 j) (h3 : x'.2.2 j = x.2.2 j) : ent a tc x' j = ent a tc x j := by
  have hf : ∀ k r, fkv a x' j k r = fkv a x j k r := by
    intro k r
    match r with
    | 0 => show Value.int (x'.1 j k) = Value.int (x.1 j k); rw [h1]
    | 1 => show Value.double (x'.2.1 j k) = Value.double (x.2.1 j k); rw [h2]
    | r + 2 => rfl
  unfold ent entS
  split
  · rw [h1]
  · rw [h2]
  · rw [h3]
  · rfl
  · simp only [hf]
theorem ent_i {a : Nat → Nat} {tc : Nat → ClassId} {x : Hp} {i n : Nat} (h : shp i = .inl (0, n)) : ent a tc x i = .inl (tc 0, n, .inl (x.1 i)) := by unfold ent; rw [h]; rfl
theorem ent_d {a : Nat → Nat} {tc : Nat → ClassId} {x : Hp} {i n : Nat} (h : shp i = .inl (1, n)) : ent a tc x i = .inl (tc 1, n, .inr (.inr (.inr (.inl (x.2.1 i))))) := by unfold ent; rw [h]; rfl
theorem ent_l {a : Nat → Nat} {tc : Nat → ClassId} {x : Hp} {i n : Nat} (h : shp i = .inl (2, n)) : ent a tc x i = .inl (tc 2, n, .inr (.inl (x.2.2 i))) := by unfold ent; rw [h]; rfl
theorem ent_q {a : Nat → Nat} {tc : Nat → ClassId} {x : Hp} {i n : Nat} (h : shp i = .inl (3, n)) : ent a tc x i = .inl (tc 3, n, .inr (.inr (.inr (.inr (fun j => some (a (16 + 15 * j))))))) := by unfold ent; rw [h]; rfl
theorem ent_o {a : Nat → Nat} {tc : Nat → ClassId} {x : Hp} {i ci : Nat} {ks : List Nat} (h : shp i = .inr (ci, ks)) : ent a tc x i = .inr (ci, ks.mapIdx (fun k r => fkv a x i k r)) := by unfold ent; rw [h]; rfl
theorem u2_self {α : Type} {f : Nat → Nat → α} {i k : Nat} {v : α} : u2 f i k v i = vf_upd (f i) k v := if_pos rfl
theorem u2_ne {α : Type} {f : Nat → Nat → α} {i j k : Nat} {v : α} (h : j ≠ i) : u2 f i k v j = f j := if_neg h
theorem wd_setI {a : Nat → Nat} {tc : Nat → ClassId} {x : Hp} {i n k : Nat} {v : Int32} (hi : i < 96) (h : shp i = .inl (0, n)) : (wd a tc x).set i (a i, .inl (tc 0, n, .inl (upd (x.1 i) k v))) = wd a tc (u2 x.1 i k v, x.2) :=
  wd_set hi (by rw [ent_i h, show (u2 x.1 i k v, x.2).1 i = vf_upd (x.1 i) k v from u2_self]; rfl) (fun j hj => ent_congr (u2_ne hj) rfl rfl)
theorem wd_setD {a : Nat → Nat} {tc : Nat → ClassId} {x : Hp} {i n k : Nat} {v : UInt64} (hi : i < 96) (h : shp i = .inl (1, n)) : (wd a tc x).set i (a i, .inl (tc 1, n, .inr (.inr (.inr (.inl (vf_upd (x.2.1 i) k v)))))) = wd a tc (x.1, u2 x.2.1 i k v, x.2.2) :=
  wd_set hi (by rw [ent_d h, show (x.1, u2 x.2.1 i k v, x.2.2).2.1 i = vf_upd (x.2.1 i) k v from u2_self]) (fun j hj => ent_congr rfl (u2_ne hj) rfl)
theorem wd_setL {a : Nat → Nat} {tc : Nat → ClassId} {x : Hp} {i n k : Nat} {v : Int64} (hi : i < 96) (h : shp i = .inl (2, n)) : (wd a tc x).set i (a i, .inl (tc 2, n, .inr (.inl (vp_updL (x.2.2 i) k v)))) = wd a tc (x.1, x.2.1, u2 x.2.2 i k v) :=
  wd_set hi (by rw [ent_l h, show (x.1, x.2.1, u2 x.2.2 i k v).2.2 i = vf_upd (x.2.2 i) k v from u2_self]; rfl) (fun j hj => ent_congr rfl rfl (u2_ne hj))
theorem wd_setFI {a : Nat → Nat} {tc : Nat → ClassId} {x : Hp} {i ci k : Nat} {ks : List Nat} {v : Int32} (hi : i < 96) (h : shp i = .inr (ci, ks)) (hk : ks[k]? = some 0) : (wd a tc x).set i (a i, .inr (ci, (ks.mapIdx (fun k r => fkv a x i k r)).set k (.int v))) = wd a tc (u2 x.1 i k v, x.2) := by
  refine wd_set hi ?_ (fun j hj => ent_congr (u2_ne hj) rfl rfl)
  rw [ent_o h]
  refine congrArg (fun z => Sum.inr (ci, z)) ?_
  apply List.ext_getElem?
  intro j
  by_cases hj : j = k
  · subst hj
    have hl : j < ks.length := (List.getElem?_eq_some_iff.mp hk).1
    rw [List.getElem?_set_self (by simpa using hl), List.getElem?_mapIdx, hk]
    show some (Value.int (u2 x.1 i j v i j)) = _
    rw [u2_self]
    show some (Value.int (if j = j then v else _)) = _
    rw [if_pos rfl]
  · rw [List.getElem?_set_ne (fun q => hj q.symm), List.getElem?_mapIdx, List.getElem?_mapIdx]
    cases hq : ks[j]? with
    | none => rfl
    | some r =>
      show some (fkv a (u2 x.1 i k v, x.2) i j r) = some (fkv a x i j r)
      match r with
      | 0 =>
        show some (Value.int (u2 x.1 i k v i j)) = some (Value.int (x.1 i j))
        rw [u2_self]
        show some (Value.int (if j = k then v else x.1 i j)) = _
        rw [if_neg hj]
      | 1 => rfl
      | r + 2 => rfl
theorem wd_setFD {a : Nat → Nat} {tc : Nat → ClassId} {x : Hp} {i ci k : Nat} {ks : List Nat} {v : UInt64} (hi : i < 96) (h : shp i = .inr (ci, ks)) (hk : ks[k]? = some 1) : (wd a tc x).set i (a i, .inr (ci, (ks.mapIdx (fun k r => fkv a x i k r)).set k (.double v))) = wd a tc (x.1, u2 x.2.1 i k v, x.2.2) := by
  refine wd_set hi ?_ (fun j hj => ent_congr rfl (u2_ne hj) rfl)
  rw [ent_o h]
  refine congrArg (fun z => Sum.inr (ci, z)) ?_
  apply List.ext_getElem?
  intro j
  by_cases hj : j = k
  · subst hj
    have hl : j < ks.length := (List.getElem?_eq_some_iff.mp hk).1
    rw [List.getElem?_set_self (by simpa using hl), List.getElem?_mapIdx, hk]
    show some (Value.double (u2 x.2.1 i j v i j)) = _
    rw [u2_self]
    show some (Value.double (if j = j then v else _)) = _
    rw [if_pos rfl]
  · rw [List.getElem?_set_ne (fun q => hj q.symm), List.getElem?_mapIdx, List.getElem?_mapIdx]
    cases hq : ks[j]? with
    | none => rfl
    | some r =>
      show some (fkv a (x.1, u2 x.2.1 i k v, x.2.2) i j r) = some (fkv a x i j r)
      match r with
      | 0 => rfl
      | 1 =>
        show some (Value.double (u2 x.2.1 i k v i j)) = some (Value.double (x.2.1 i j))
        rw [u2_self]
        show some (Value.double (if j = k then v else x.2.1 i j)) = _
        rw [if_neg hj]
      | r + 2 => rfl
theorem fs_get {a : Nat → Nat} {x : Hp} {i k r : Nat} {ks : List Nat} (hk : ks[k]? = some r) : (ks.mapIdx (fun k r => fkv a x i k r))[k]? = some (fkv a x i k r) := by
  rw [List.getElem?_mapIdx, hk]; rfl
/-- the words of the tables that a method may hand on -/
def gw : List Cond := lw_tbl.filter goodWord
theorem gw_of {w : Cond} (h : w ∈ lw_tbl) (g : goodWord w = true) : w ∈ gw := List.mem_filter.mpr ⟨h, g⟩
theorem gw_good {w : Cond} (h : w ∈ gw) : goodWord w = true := (List.mem_filter.mp h).2
theorem gw_tbl {w : Cond} (h : w ∈ gw) : w ∈ lw_tbl := (List.mem_filter.mp h).1
theorem gw_in {ws : List Cond} (h : ∀ w ∈ ws, w ∈ gw) : GoodIn gw ws := fun w hw => ⟨h w hw, good_of_word (gw_good (h w hw))⟩
/-! THE CONTEXT OF A WALK, as one thing; a method: its name, code, locals, answer, depth -/
abbrev MI : Type := MethodName × ByteArray × Nat × Option FieldType × Nat
abbrev Ctx : Type := Program × Launch × Env × Room × State × MethodId × Array Value × List Frame × Method × Code × va_G × (Nat → Nat) × (Nat → ClassId) × (Nat → Prop) × Heap × Nat × Nat × (State → Prop)
def tysOf (tc : Nat → ClassId) : List (ClassId × FieldType) := [(tc 0, .int), (tc 1, .double), (tc 2, .long), (tc 3, .object RX4)]
def nw3 (U : State) : Prop := va_Nw (.methodLinkNest RX2 48 yX6_infinity RX6) U ∧ va_Nw (.methodLinkNest RX3 80 yX6_infinity RX6) U ∧ va_Nw (.methodLinkNest RX4 60 yX6_infinity RX6) U
def wK (G : va_G) (tc : Nat → ClassId) (U : State) : Prop := va_K G vwCl (tysOf tc) U ∧ nw3 U
def lm (a : Nat → Nat) (ls : Lo) : Lo := ls.map (fun q => (q.1, rv a q.2))
def SW (X : Ctx) (M : MI) (pc : Nat) (ls : Lo) (st : List Value) (x : Hp) : Prop := match X with
  | (p, l, e, R, s, m, args, below, meth, c, G, a, tc, A, H0, cells, slots, Q) => ∀ (Lx : Array Slot) (H : Heap) (locs : List Loc), lv_has Lx M.2.2.1 (lm a ls) → va_P G vwCl (wd a tc x) H → va_D A (wd a tc x) → va_S A H0 H locs → W p l e R s m args below meth c H locs cells slots Q (F0 m pc Lx (st.map (rv a)))
def sCx (X : Ctx) (M : MI) : Prop := match X with
  | (p, l, e, R, s, m, args, below, meth, c, G, a, tc, A, H0, cells, slots, Q) => p.tables.exec = Jvm.exec ∧ c.code = M.2.1 ∧ c.maxLocals = M.2.2.1 ∧ s.vm.findClass M.1.cls = some m.cls ∧ (∀ w ∈ gw, w.before args s = true) ∧ wK G tc s ∧ (∀ q, H0.size ≤ q → A q) ∧ cells ≤ R.cells ∧ slots ≤ R.slots ∧ R.frames = M.2.2.2.2 ∧ 38 * M.2.2.2.2 ≤ R.locals ∧ meth.locks = false ∧ meth.sig.returnType = M.2.2.2.1
/-- one straight instruction -/
def Stq (X : Ctx) (M : MI) (pc pc' : Nat) (f : F1) : Prop := ∀ (ls : Lo) (st : List Value) (x : Hp) (ls' : Lo) (st' : List Value) (x' : Hp), f ls st x = some (ls', st', x') → SW X M pc' ls' st' x' → SW X M pc ls st x
abbrev B1 : Type := List Value → Option (Prop × List Value)
def Brn (X : Ctx) (M : MI) (pc tgt nxt : Nat) (b : B1) : Prop := ∀ (ls : Lo) (st : List Value) (x : Hp) (P : Prop) (r : List Value), b st = some (P, r) → (P → SW X M tgt ls r x) → (¬ P → SW X M nxt ls r x) → SW X M pc ls st x
def lset1 (ls : Lo) (i : Nat) (v : Value) : Lo := (i, v) :: ls.filter (fun q => !(q.1 == i) && !(q.1 + 1 == i && q.2.category == 2))
def lset2 (ls : Lo) (i : Nat) (v : Value) : Lo := (i, v) :: ls.filter (fun q => !(q.1 == i) && (!(q.1 == i + 1) && !(q.1 + 1 == i && q.2.category == 2)))
theorem rv_cat (a : Nat → Nat) (v : Value) : (rv a v).category = v.category := by cases v <;> rfl
theorem lm_set1 (a : Nat → Nat) (ls : Lo) (i : Nat) (v : Value) : (i, rv a v) :: (lm a ls).filter (fun q => !(q.1 == i) && !(q.1 + 1 == i && q.2.category == 2)) = lm a (lset1 ls i v) := by
  simp only [lset1, lm, List.map_cons, List.filter_map]
  congr 2
  apply List.filter_congr
  intro q _
  simp only [Function.comp, rv_cat]
theorem lm_set2 (a : Nat → Nat) (ls : Lo) (i : Nat) (v : Value) : (i, rv a v) :: (lm a ls).filter (fun q => !(q.1 == i) && (!(q.1 == i + 1) && !(q.1 + 1 == i && q.2.category == 2))) = lm a (lset2 ls i v) := by
  simp only [lset2, lm, List.map_cons, List.filter_map]
  congr 2
  apply List.filter_congr
  intro q _
  simp only [Function.comp, rv_cat]
theorem lk_mem : ∀ {ls : Lo} {i : Nat} {v : Value}, ls.lookup i = some v → (i, v) ∈ ls
  | [], _, _, h => by simp at h
  | (j, u) :: t, i, v, h => by
    rw [List.lookup_cons] at h
    split at h
    · next hq => cases h; have : i = j := by simpa using hq
                 subst this; exact List.mem_cons_self
    · exact List.mem_cons_of_mem _ (lk_mem h)
theorem lk_at {a : Nat → Nat} {Lx : Array Slot} {n : Nat} {ls : Lo} {i : Nat} {v : Value} (hl : lv_has Lx n (lm a ls)) (h : ls.lookup i = some v) : Lx[i]? = some (.val (rv a v)) :=
  hl.2.2 (i, rv a v) (List.mem_map.mpr ⟨(i, v), lk_mem h, rfl⟩)
theorem lk_ix {a : Nat → Nat} {ls : Lo} {i : Nat} {v : Value} (h : ls.lookup i = some v) : ∃ k : Nat, (lm a ls)[k]? = some (i, rv a v) := by
  obtain ⟨k, hk⟩ := List.getElem?_of_mem (List.mem_map.mpr ⟨(i, v), lk_mem h, rfl⟩ : (i, rv a v) ∈ lm a ls)
  exact ⟨k, hk⟩
def f_iadd : F1 := fun ls st x => match st with
  | .int y :: .int z :: r => some (ls, .int (z + y) :: r, x)
  | _ => none
theorem st_iadd {X : Ctx} {M : MI} (h : sCx X M) {pc : Nat} (hd : decode M.2.1 pc = .ok (.iadd, 1)) : Stq X M pc (pc + 1) f_iadd := by
  obtain ⟨p, l, e, R, s, m, args, below, meth, c, G, a, tc, A, H0, cells, slots, Q⟩ := X
  obtain ⟨hx, hb, hml, hown, hts, ⟨hK, hN⟩, hA, hc1, hs1, hf1, hl1, hlk, hrt⟩ := h
  intro ls st x ls' st' x' hf k Lx H locs hl hP hD hS
  unfold f_iadd at hf
  split at hf
  · cases hf
    exact lv_iadd hx hb hd (k Lx H locs hl hP hD hS)
  · cases hf
def f_isub : F1 := fun ls st x => match st with
  | .int y :: .int z :: r => some (ls, .int (z - y) :: r, x)
  | _ => none
theorem st_isub {X : Ctx} {M : MI} (h : sCx X M) {pc : Nat} (hd : decode M.2.1 pc = .ok (.isub, 1)) : Stq X M pc (pc + 1) f_isub := by
  obtain ⟨p, l, e, R, s, m, args, below, meth, c, G, a, tc, A, H0, cells, slots, Q⟩ := X
  obtain ⟨hx, hb, hml, hown, hts, ⟨hK, hN⟩, hA, hc1, hs1, hf1, hl1, hlk, hrt⟩ := h
  intro ls st x ls' st' x' hf k Lx H locs hl hP hD hS
  unfold f_isub at hf
  split at hf
  · cases hf
    exact lv_isub hx hb hd (k Lx H locs hl hP hD hS)
  · cases hf
def f_imul : F1 := fun ls st x => match st with
  | .int y :: .int z :: r => some (ls, .int (z * y) :: r, x)
  | _ => none
theorem st_imul {X : Ctx} {M : MI} (h : sCx X M) {pc : Nat} (hd : decode M.2.1 pc = .ok (.imul, 1)) : Stq X M pc (pc + 1) f_imul := by
  obtain ⟨p, l, e, R, s, m, args, below, meth, c, G, a, tc, A, H0, cells, slots, Q⟩ := X
  obtain ⟨hx, hb, hml, hown, hts, ⟨hK, hN⟩, hA, hc1, hs1, hf1, hl1, hlk, hrt⟩ := h
  intro ls st x ls' st' x' hf k Lx H locs hl hP hD hS
  unfold f_imul at hf
  split at hf
  · cases hf
    exact lv_imul hx hb hd (k Lx H locs hl hP hD hS)
  · cases hf
def f_iand : F1 := fun ls st x => match st with
  | .int y :: .int z :: r => some (ls, .int (z &&& y) :: r, x)
  | _ => none
theorem st_iand {X : Ctx} {M : MI} (h : sCx X M) {pc : Nat} (hd : decode M.2.1 pc = .ok (.iand, 1)) : Stq X M pc (pc + 1) f_iand := by
  obtain ⟨p, l, e, R, s, m, args, below, meth, c, G, a, tc, A, H0, cells, slots, Q⟩ := X
  obtain ⟨hx, hb, hml, hown, hts, ⟨hK, hN⟩, hA, hc1, hs1, hf1, hl1, hlk, hrt⟩ := h
  intro ls st x ls' st' x' hf k Lx H locs hl hP hD hS
  unfold f_iand at hf
  split at hf
  · cases hf
    exact lv_iand hx hb hd (k Lx H locs hl hP hD hS)
  · cases hf
def f_ior : F1 := fun ls st x => match st with
  | .int y :: .int z :: r => some (ls, .int (z ||| y) :: r, x)
  | _ => none
theorem st_ior {X : Ctx} {M : MI} (h : sCx X M) {pc : Nat} (hd : decode M.2.1 pc = .ok (.ior, 1)) : Stq X M pc (pc + 1) f_ior := by
  obtain ⟨p, l, e, R, s, m, args, below, meth, c, G, a, tc, A, H0, cells, slots, Q⟩ := X
  obtain ⟨hx, hb, hml, hown, hts, ⟨hK, hN⟩, hA, hc1, hs1, hf1, hl1, hlk, hrt⟩ := h
  intro ls st x ls' st' x' hf k Lx H locs hl hP hD hS
  unfold f_ior at hf
  split at hf
  · cases hf
    exact lv_ior hx hb hd (k Lx H locs hl hP hD hS)
  · cases hf
def f_ixor : F1 := fun ls st x => match st with
  | .int y :: .int z :: r => some (ls, .int (z ^^^ y) :: r, x)
  | _ => none
theorem st_ixor {X : Ctx} {M : MI} (h : sCx X M) {pc : Nat} (hd : decode M.2.1 pc = .ok (.ixor, 1)) : Stq X M pc (pc + 1) f_ixor := by
  obtain ⟨p, l, e, R, s, m, args, below, meth, c, G, a, tc, A, H0, cells, slots, Q⟩ := X
  obtain ⟨hx, hb, hml, hown, hts, ⟨hK, hN⟩, hA, hc1, hs1, hf1, hl1, hlk, hrt⟩ := h
  intro ls st x ls' st' x' hf k Lx H locs hl hP hD hS
  unfold f_ixor at hf
  split at hf
  · cases hf
    exact lv_ixor hx hb hd (k Lx H locs hl hP hD hS)
  · cases hf
def f_ishl : F1 := fun ls st x => match st with
  | .int y :: .int z :: r => some (ls, .int (z <<< (y &&& 31)) :: r, x)
  | _ => none
theorem st_ishl {X : Ctx} {M : MI} (h : sCx X M) {pc : Nat} (hd : decode M.2.1 pc = .ok (.ishl, 1)) : Stq X M pc (pc + 1) f_ishl := by
  obtain ⟨p, l, e, R, s, m, args, below, meth, c, G, a, tc, A, H0, cells, slots, Q⟩ := X
  obtain ⟨hx, hb, hml, hown, hts, ⟨hK, hN⟩, hA, hc1, hs1, hf1, hl1, hlk, hrt⟩ := h
  intro ls st x ls' st' x' hf k Lx H locs hl hP hD hS
  unfold f_ishl at hf
  split at hf
  · cases hf
    exact lv_ishl hx hb hd (k Lx H locs hl hP hD hS)
  · cases hf
def f_ishr : F1 := fun ls st x => match st with
  | .int y :: .int z :: r => some (ls, .int (z >>> (y &&& 31)) :: r, x)
  | _ => none
theorem st_ishr {X : Ctx} {M : MI} (h : sCx X M) {pc : Nat} (hd : decode M.2.1 pc = .ok (.ishr, 1)) : Stq X M pc (pc + 1) f_ishr := by
  obtain ⟨p, l, e, R, s, m, args, below, meth, c, G, a, tc, A, H0, cells, slots, Q⟩ := X
  obtain ⟨hx, hb, hml, hown, hts, ⟨hK, hN⟩, hA, hc1, hs1, hf1, hl1, hlk, hrt⟩ := h
  intro ls st x ls' st' x' hf k Lx H locs hl hP hD hS
  unfold f_ishr at hf
  split at hf
  · cases hf
    exact lv_ishr hx hb hd (k Lx H locs hl hP hD hS)
  · cases hf
def f_ladd : F1 := fun ls st x => match st with
  | .long y :: .long z :: r => some (ls, .long (z + y) :: r, x)
  | _ => none
theorem st_ladd {X : Ctx} {M : MI} (h : sCx X M) {pc : Nat} (hd : decode M.2.1 pc = .ok (.ladd, 1)) : Stq X M pc (pc + 1) f_ladd := by
  obtain ⟨p, l, e, R, s, m, args, below, meth, c, G, a, tc, A, H0, cells, slots, Q⟩ := X
  obtain ⟨hx, hb, hml, hown, hts, ⟨hK, hN⟩, hA, hc1, hs1, hf1, hl1, hlk, hrt⟩ := h
  intro ls st x ls' st' x' hf k Lx H locs hl hP hD hS
  unfold f_ladd at hf
  split at hf
  · cases hf
    exact lv_ladd hx hb hd (k Lx H locs hl hP hD hS)
  · cases hf
def f_lsub : F1 := fun ls st x => match st with
  | .long y :: .long z :: r => some (ls, .long (z - y) :: r, x)
  | _ => none
theorem st_lsub {X : Ctx} {M : MI} (h : sCx X M) {pc : Nat} (hd : decode M.2.1 pc = .ok (.lsub, 1)) : Stq X M pc (pc + 1) f_lsub := by
  obtain ⟨p, l, e, R, s, m, args, below, meth, c, G, a, tc, A, H0, cells, slots, Q⟩ := X
  obtain ⟨hx, hb, hml, hown, hts, ⟨hK, hN⟩, hA, hc1, hs1, hf1, hl1, hlk, hrt⟩ := h
  intro ls st x ls' st' x' hf k Lx H locs hl hP hD hS
  unfold f_lsub at hf
  split at hf
  · cases hf
    exact lv_lsub hx hb hd (k Lx H locs hl hP hD hS)
  · cases hf
def f_lmul : F1 := fun ls st x => match st with
  | .long y :: .long z :: r => some (ls, .long (z * y) :: r, x)
  | _ => none
theorem st_lmul {X : Ctx} {M : MI} (h : sCx X M) {pc : Nat} (hd : decode M.2.1 pc = .ok (.lmul, 1)) : Stq X M pc (pc + 1) f_lmul := by
  obtain ⟨p, l, e, R, s, m, args, below, meth, c, G, a, tc, A, H0, cells, slots, Q⟩ := X
  obtain ⟨hx, hb, hml, hown, hts, ⟨hK, hN⟩, hA, hc1, hs1, hf1, hl1, hlk, hrt⟩ := h
  intro ls st x ls' st' x' hf k Lx H locs hl hP hD hS
  unfold f_lmul at hf
  split at hf
  · cases hf
    exact lv_lmul hx hb hd (k Lx H locs hl hP hD hS)
  · cases hf
def f_lshl : F1 := fun ls st x => match st with
  | .int y :: .long z :: r => some (ls, .long (z <<< (y.toInt64 &&& 63)) :: r, x)
  | _ => none
theorem st_lshl {X : Ctx} {M : MI} (h : sCx X M) {pc : Nat} (hd : decode M.2.1 pc = .ok (.lshl, 1)) : Stq X M pc (pc + 1) f_lshl := by
  obtain ⟨p, l, e, R, s, m, args, below, meth, c, G, a, tc, A, H0, cells, slots, Q⟩ := X
  obtain ⟨hx, hb, hml, hown, hts, ⟨hK, hN⟩, hA, hc1, hs1, hf1, hl1, hlk, hrt⟩ := h
  intro ls st x ls' st' x' hf k Lx H locs hl hP hD hS
  unfold f_lshl at hf
  split at hf
  · cases hf
    exact lv_lshl hx hb hd rfl (k Lx H locs hl hP hD hS)
  · cases hf
def f_iushr : F1 := fun ls st x => match st with
  | .int y :: .int z :: r => some (ls, .int (z.toUInt32 >>> (y.toUInt32 &&& Int32.toUInt32 31)).toInt32 :: r, x)
  | _ => none
theorem st_iushr {X : Ctx} {M : MI} (h : sCx X M) {pc : Nat} (hd : decode M.2.1 pc = .ok (.iushr, 1)) : Stq X M pc (pc + 1) f_iushr := by
  obtain ⟨p, l, e, R, s, m, args, below, meth, c, G, a, tc, A, H0, cells, slots, Q⟩ := X
  obtain ⟨hx, hb, hml, hown, hts, ⟨hK, hN⟩, hA, hc1, hs1, hf1, hl1, hlk, hrt⟩ := h
  intro ls st x ls' st' x' hf k Lx H locs hl hP hD hS
  unfold f_iushr at hf
  split at hf
  · cases hf
    exact lv_iushr hx hb hd rfl (k Lx H locs hl hP hD hS)
  · cases hf
def f_i2l : F1 := fun ls st x => match st with
  | .int y :: r => some (ls, .long y.toInt64 :: r, x)
  | _ => none
theorem st_i2l {X : Ctx} {M : MI} (h : sCx X M) {pc : Nat} (hd : decode M.2.1 pc = .ok (.i2l, 1)) : Stq X M pc (pc + 1) f_i2l := by
  obtain ⟨p, l, e, R, s, m, args, below, meth, c, G, a, tc, A, H0, cells, slots, Q⟩ := X
  obtain ⟨hx, hb, hml, hown, hts, ⟨hK, hN⟩, hA, hc1, hs1, hf1, hl1, hlk, hrt⟩ := h
  intro ls st x ls' st' x' hf k Lx H locs hl hP hD hS
  unfold f_i2l at hf
  split at hf
  · cases hf
    exact lv_i2l hx hb hd rfl (k Lx H locs hl hP hD hS)
  · cases hf
def f_i2d : F1 := fun ls st x => match st with
  | .int y :: r => some (ls, .double (FP.i2d y) :: r, x)
  | _ => none
theorem st_i2d {X : Ctx} {M : MI} (h : sCx X M) {pc : Nat} (hd : decode M.2.1 pc = .ok (.i2d, 1)) : Stq X M pc (pc + 1) f_i2d := by
  obtain ⟨p, l, e, R, s, m, args, below, meth, c, G, a, tc, A, H0, cells, slots, Q⟩ := X
  obtain ⟨hx, hb, hml, hown, hts, ⟨hK, hN⟩, hA, hc1, hs1, hf1, hl1, hlk, hrt⟩ := h
  intro ls st x ls' st' x' hf k Lx H locs hl hP hD hS
  unfold f_i2d at hf
  split at hf
  · cases hf
    exact lv_i2d hx hb hd (k Lx H locs hl hP hD hS)
  · cases hf
def f_d2l : F1 := fun ls st x => match st with
  | .double y :: r => some (ls, .long (FP.d2l y) :: r, x)
  | _ => none
theorem st_d2l {X : Ctx} {M : MI} (h : sCx X M) {pc : Nat} (hd : decode M.2.1 pc = .ok (.d2l, 1)) : Stq X M pc (pc + 1) f_d2l := by
  obtain ⟨p, l, e, R, s, m, args, below, meth, c, G, a, tc, A, H0, cells, slots, Q⟩ := X
  obtain ⟨hx, hb, hml, hown, hts, ⟨hK, hN⟩, hA, hc1, hs1, hf1, hl1, hlk, hrt⟩ := h
  intro ls st x ls' st' x' hf k Lx H locs hl hP hD hS
  unfold f_d2l at hf
  split at hf
  · cases hf
    exact lv_d2l hx hb hd (k Lx H locs hl hP hD hS)
  · cases hf
def f_lcmp : F1 := fun ls st x => match st with
  | .long y :: .long z :: r => some (ls, .int (lg_cmp z y) :: r, x)
  | _ => none
theorem st_lcmp {X : Ctx} {M : MI} (h : sCx X M) {pc : Nat} (hd : decode M.2.1 pc = .ok (.lcmp, 1)) : Stq X M pc (pc + 1) f_lcmp := by
  obtain ⟨p, l, e, R, s, m, args, below, meth, c, G, a, tc, A, H0, cells, slots, Q⟩ := X
  obtain ⟨hx, hb, hml, hown, hts, ⟨hK, hN⟩, hA, hc1, hs1, hf1, hl1, hlk, hrt⟩ := h
  intro ls st x ls' st' x' hf k Lx H locs hl hP hD hS
  unfold f_lcmp at hf
  split at hf
  · cases hf
    exact W.lcmp hx hb hd (k Lx H locs hl hP hD hS)
  · cases hf
def f_dcmpl : F1 := fun ls st x => match st with
  | .double y :: .double z :: r => some (ls, .int (Op.cmpValue (FP.dcmp z y) .l) :: r, x)
  | _ => none
theorem st_dcmpl {X : Ctx} {M : MI} (h : sCx X M) {pc : Nat} (hd : decode M.2.1 pc = .ok (.dcmp .l, 1)) : Stq X M pc (pc + 1) f_dcmpl := by
  obtain ⟨p, l, e, R, s, m, args, below, meth, c, G, a, tc, A, H0, cells, slots, Q⟩ := X
  obtain ⟨hx, hb, hml, hown, hts, ⟨hK, hN⟩, hA, hc1, hs1, hf1, hl1, hlk, hrt⟩ := h
  intro ls st x ls' st' x' hf k Lx H locs hl hP hD hS
  unfold f_dcmpl at hf
  split at hf
  · cases hf
    exact lv_dcmp hx hb hd (k Lx H locs hl hP hD hS)
  · cases hf
def f_dcmpg : F1 := fun ls st x => match st with
  | .double y :: .double z :: r => some (ls, .int (Op.cmpValue (FP.dcmp z y) .g) :: r, x)
  | _ => none
theorem st_dcmpg {X : Ctx} {M : MI} (h : sCx X M) {pc : Nat} (hd : decode M.2.1 pc = .ok (.dcmp .g, 1)) : Stq X M pc (pc + 1) f_dcmpg := by
  obtain ⟨p, l, e, R, s, m, args, below, meth, c, G, a, tc, A, H0, cells, slots, Q⟩ := X
  obtain ⟨hx, hb, hml, hown, hts, ⟨hK, hN⟩, hA, hc1, hs1, hf1, hl1, hlk, hrt⟩ := h
  intro ls st x ls' st' x' hf k Lx H locs hl hP hD hS
  unfold f_dcmpg at hf
  split at hf
  · cases hf
    exact lv_dcmp hx hb hd (k Lx H locs hl hP hD hS)
  · cases hf
def f_dup : F1 := fun ls st x => match st with
  | v :: r => if v.category = 1 then some (ls, v :: v :: r, x) else none
  | _ => none
theorem st_dup {X : Ctx} {M : MI} (h : sCx X M) {pc : Nat} (hd : decode M.2.1 pc = .ok (.dup, 1)) : Stq X M pc (pc + 1) f_dup := by
  obtain ⟨p, l, e, R, s, m, args, below, meth, c, G, a, tc, A, H0, cells, slots, Q⟩ := X
  obtain ⟨hx, hb, hml, hown, hts, ⟨hK, hN⟩, hA, hc1, hs1, hf1, hl1, hlk, hrt⟩ := h
  intro ls st x ls' st' x' hf k Lx H locs hl hP hD hS
  unfold f_dup at hf
  split at hf
  · split at hf
    · next hv =>
      cases hf
      exact lv_dup hx hb hd (by rw [rv_cat]; exact hv) (k Lx H locs hl hP hD hS)
    · cases hf
  · cases hf
def f_dup2 : F1 := fun ls st x => match st with
  | v :: u :: r => if v.category = 1 then if u.category = 1 then some (ls, v :: u :: v :: u :: r, x) else none else none
  | _ => none
theorem st_dup2 {X : Ctx} {M : MI} (h : sCx X M) {pc : Nat} (hd : decode M.2.1 pc = .ok (.dup2, 1)) : Stq X M pc (pc + 1) f_dup2 := by
  obtain ⟨p, l, e, R, s, m, args, below, meth, c, G, a, tc, A, H0, cells, slots, Q⟩ := X
  obtain ⟨hx, hb, hml, hown, hts, ⟨hK, hN⟩, hA, hc1, hs1, hf1, hl1, hlk, hrt⟩ := h
  intro ls st x ls' st' x' hf k Lx H locs hl hP hD hS
  unfold f_dup2 at hf
  split at hf
  · split at hf
    · next hv =>
      split at hf
      · next hu =>
        cases hf
        exact lv_dup2_11 hx hb hd (by rw [rv_cat]; exact hv) (by rw [rv_cat]; exact hu) (k Lx H locs hl hP hD hS)
      · cases hf
    · cases hf
  · cases hf
def f_ci (v : Int32) : F1 := fun ls st x => some (ls, .int v :: st, x)
def f_cd (v : UInt64) : F1 := fun ls st x => some (ls, .double v :: st, x)
def f_cl (v : Int64) : F1 := fun ls st x => some (ls, .long v :: st, x)
theorem st_iconst {X : Ctx} {M : MI} (h : sCx X M) {pc : Nat} {v : Int32} {n : Int} (hv : Int32.ofInt n = v) (hd : decode M.2.1 pc = .ok (.iconst n, 1)) : Stq X M pc (pc + 1) (f_ci v) := by
  obtain ⟨p, l, e, R, s, m, args, below, meth, c, G, a, tc, A, H0, cells, slots, Q⟩ := X
  obtain ⟨hx, hb, hml, hown, hts, ⟨hK, hN⟩, hA, hc1, hs1, hf1, hl1, hlk, hrt⟩ := h
  intro ls st x ls' st' x' hf k Lx H locs hl hP hD hS
  cases hf
  exact lv_iconst hx hb hd hv (k Lx H locs hl hP hD hS)
theorem st_bipush {X : Ctx} {M : MI} (h : sCx X M) {pc : Nat} {v : Int32} {n : Int} (hv : (Int8.ofInt n).toInt32 = v) (hd : decode M.2.1 pc = .ok (.bipush n, 2)) : Stq X M pc (pc + 2) (f_ci v) := by
  obtain ⟨p, l, e, R, s, m, args, below, meth, c, G, a, tc, A, H0, cells, slots, Q⟩ := X
  obtain ⟨hx, hb, hml, hown, hts, ⟨hK, hN⟩, hA, hc1, hs1, hf1, hl1, hlk, hrt⟩ := h
  intro ls st x ls' st' x' hf k Lx H locs hl hP hD hS
  cases hf
  exact lv_bipush hx hb hd hv (k Lx H locs hl hP hD hS)
theorem st_sipush {X : Ctx} {M : MI} (h : sCx X M) {pc : Nat} {v : Int32} {n : Int} (hv : (Int16.ofInt n).toInt32 = v) (hd : decode M.2.1 pc = .ok (.sipush n, 3)) : Stq X M pc (pc + 3) (f_ci v) := by
  obtain ⟨p, l, e, R, s, m, args, below, meth, c, G, a, tc, A, H0, cells, slots, Q⟩ := X
  obtain ⟨hx, hb, hml, hown, hts, ⟨hK, hN⟩, hA, hc1, hs1, hf1, hl1, hlk, hrt⟩ := h
  intro ls st x ls' st' x' hf k Lx H locs hl hP hD hS
  cases hf
  exact lv_sipush hx hb hd hv (k Lx H locs hl hP hD hS)
theorem st_lconst {X : Ctx} {M : MI} (h : sCx X M) {pc : Nat} {v : Int64} {n : Fin 2} (hv : Int64.ofNat (n : Nat) = v) (hd : decode M.2.1 pc = .ok (.lconst n, 1)) : Stq X M pc (pc + 1) (f_cl v) := by
  obtain ⟨p, l, e, R, s, m, args, below, meth, c, G, a, tc, A, H0, cells, slots, Q⟩ := X
  obtain ⟨hx, hb, hml, hown, hts, ⟨hK, hN⟩, hA, hc1, hs1, hf1, hl1, hlk, hrt⟩ := h
  intro ls st x ls' st' x' hf k Lx H locs hl hP hD hS
  cases hf
  exact lv_lconst hx hb hd hv (k Lx H locs hl hP hD hS)
theorem st_dconst0 {X : Ctx} {M : MI} (h : sCx X M) {pc : Nat} {v : UInt64} (hv : FP.dconst0 = v) (hd : decode M.2.1 pc = .ok (.dconst 0, 1)) : Stq X M pc (pc + 1) (f_cd v) := by
  obtain ⟨p, l, e, R, s, m, args, below, meth, c, G, a, tc, A, H0, cells, slots, Q⟩ := X
  obtain ⟨hx, hb, hml, hown, hts, ⟨hK, hN⟩, hA, hc1, hs1, hf1, hl1, hlk, hrt⟩ := h
  intro ls st x ls' st' x' hf k Lx H locs hl hP hD hS
  cases hf
  exact lv_dconst0 hx hb hd (hv ▸ (k Lx H locs hl hP hD hS))
theorem st_dconst1 {X : Ctx} {M : MI} (h : sCx X M) {pc : Nat} {v : UInt64} (hv : FP.dconst1 = v) (hd : decode M.2.1 pc = .ok (.dconst 1, 1)) : Stq X M pc (pc + 1) (f_cd v) := by
  obtain ⟨p, l, e, R, s, m, args, below, meth, c, G, a, tc, A, H0, cells, slots, Q⟩ := X
  obtain ⟨hx, hb, hml, hown, hts, ⟨hK, hN⟩, hA, hc1, hs1, hf1, hl1, hlk, hrt⟩ := h
  intro ls st x ls' st' x' hf k Lx H locs hl hP hD hS
  cases hf
  exact lv_dconst1 hx hb hd (hv ▸ (k Lx H locs hl hP hD hS))
theorem st_ldc {X : Ctx} {M : MI} (h : sCx X M) {pc : Nat} {v : Int32} {i : Nat} (hw : Cond.constant M.1.cls i v ∈ gw) (hd : decode M.2.1 pc = .ok (.ldc i, 2)) : Stq X M pc (pc + 2) (f_ci v) := by
  obtain ⟨p, l, e, R, s, m, args, below, meth, c, G, a, tc, A, H0, cells, slots, Q⟩ := X
  obtain ⟨hx, hb, hml, hown, hts, ⟨hK, hN⟩, hA, hc1, hs1, hf1, hl1, hlk, hrt⟩ := h
  intro ls st x ls' st' x' hf k Lx H locs hl hP hD hS
  cases hf
  exact lv_ldc hx hb hown (hts _ hw) hd (k Lx H locs hl hP hD hS)
theorem st_ldcw {X : Ctx} {M : MI} (h : sCx X M) {pc : Nat} {v : Int32} {i : Nat} (hw : Cond.constant M.1.cls i v ∈ gw) (hd : decode M.2.1 pc = .ok (.ldc_w i, 3)) : Stq X M pc (pc + 3) (f_ci v) := by
  obtain ⟨p, l, e, R, s, m, args, below, meth, c, G, a, tc, A, H0, cells, slots, Q⟩ := X
  obtain ⟨hx, hb, hml, hown, hts, ⟨hK, hN⟩, hA, hc1, hs1, hf1, hl1, hlk, hrt⟩ := h
  intro ls st x ls' st' x' hf k Lx H locs hl hP hD hS
  cases hf
  exact lv_ldcw hx hb hown (hts _ hw) hd (k Lx H locs hl hP hD hS)
theorem st_ldc2d {X : Ctx} {M : MI} (h : sCx X M) {pc : Nat} {v : UInt64} {i : Nat} (hw : Cond.constantDouble M.1.cls i v ∈ gw) (hd : decode M.2.1 pc = .ok (.ldc2_w i, 3)) : Stq X M pc (pc + 3) (f_cd v) := by
  obtain ⟨p, l, e, R, s, m, args, below, meth, c, G, a, tc, A, H0, cells, slots, Q⟩ := X
  obtain ⟨hx, hb, hml, hown, hts, ⟨hK, hN⟩, hA, hc1, hs1, hf1, hl1, hlk, hrt⟩ := h
  intro ls st x ls' st' x' hf k Lx H locs hl hP hD hS
  cases hf
  exact lv_ldc2d hx hb hown (hts _ hw) hd (k Lx H locs hl hP hD hS)
theorem st_ldc2l {X : Ctx} {M : MI} (h : sCx X M) {pc : Nat} {v : Int64} {i : Nat} (hw : Cond.constantLong M.1.cls i v ∈ gw) (hd : decode M.2.1 pc = .ok (.ldc2_w i, 3)) : Stq X M pc (pc + 3) (f_cl v) := by
  obtain ⟨p, l, e, R, s, m, args, below, meth, c, G, a, tc, A, H0, cells, slots, Q⟩ := X
  obtain ⟨hx, hb, hml, hown, hts, ⟨hK, hN⟩, hA, hc1, hs1, hf1, hl1, hlk, hrt⟩ := h
  intro ls st x ls' st' x' hf k Lx H locs hl hP hD hS
  cases hf
  exact lv_ldc2 hx hb hown (hts _ hw) hd (k Lx H locs hl hP hD hS)
def f_iload (i : Nat) : F1 := fun ls st x => match ls.lookup i with
  | some (.int v) => some (ls, .int v :: st, x)
  | _ => none
theorem st_iload {X : Ctx} {M : MI} (h : sCx X M) {pc i : Nat} (hd : decode M.2.1 pc = .ok (.iload i, 2)) : Stq X M pc (pc + 2) (f_iload i) := by
  obtain ⟨p, l, e, R, s, m, args, below, meth, c, G, a, tc, A, H0, cells, slots, Q⟩ := X
  obtain ⟨hx, hb, hml, hown, hts, ⟨hK, hN⟩, hA, hc1, hs1, hf1, hl1, hlk, hrt⟩ := h
  intro ls st x ls' st' x' hf k Lx H locs hl hP hD hS
  unfold f_iload at hf
  split at hf
  · next v hq =>
    cases hf
    exact lv_iload hx hb hd (lk_at hl hq) (k Lx H locs hl hP hD hS)
  · cases hf
theorem st_iloadn {X : Ctx} {M : MI} (h : sCx X M) {pc i : Nat} {kk : Fin 4} (hk : (kk : Nat) = i) (hd : decode M.2.1 pc = .ok (.iload_n kk, 1)) : Stq X M pc (pc + 1) (f_iload i) := by
  obtain ⟨p, l, e, R, s, m, args, below, meth, c, G, a, tc, A, H0, cells, slots, Q⟩ := X
  obtain ⟨hx, hb, hml, hown, hts, ⟨hK, hN⟩, hA, hc1, hs1, hf1, hl1, hlk, hrt⟩ := h
  intro ls st x ls' st' x' hf k Lx H locs hl hP hD hS
  unfold f_iload at hf
  split at hf
  · next v hq =>
    cases hf
    exact lv_iload_n hx hb hd hk (lk_at hl hq) (k Lx H locs hl hP hD hS)
  · cases hf
def f_dload (i : Nat) : F1 := fun ls st x => match ls.lookup i with
  | some (.double v) => some (ls, .double v :: st, x)
  | _ => none
theorem st_dload {X : Ctx} {M : MI} (h : sCx X M) {pc i : Nat} (hd : decode M.2.1 pc = .ok (.dload i, 2)) : Stq X M pc (pc + 2) (f_dload i) := by
  obtain ⟨p, l, e, R, s, m, args, below, meth, c, G, a, tc, A, H0, cells, slots, Q⟩ := X
  obtain ⟨hx, hb, hml, hown, hts, ⟨hK, hN⟩, hA, hc1, hs1, hf1, hl1, hlk, hrt⟩ := h
  intro ls st x ls' st' x' hf k Lx H locs hl hP hD hS
  unfold f_dload at hf
  split at hf
  · next v hq =>
    cases hf
    exact lv_dload hx hb hd (lk_at hl hq) (k Lx H locs hl hP hD hS)
  · cases hf
theorem st_dloadn {X : Ctx} {M : MI} (h : sCx X M) {pc i : Nat} {kk : Fin 4} (hk : (kk : Nat) = i) (hd : decode M.2.1 pc = .ok (.dload_n kk, 1)) : Stq X M pc (pc + 1) (f_dload i) := by
  obtain ⟨p, l, e, R, s, m, args, below, meth, c, G, a, tc, A, H0, cells, slots, Q⟩ := X
  obtain ⟨hx, hb, hml, hown, hts, ⟨hK, hN⟩, hA, hc1, hs1, hf1, hl1, hlk, hrt⟩ := h
  intro ls st x ls' st' x' hf k Lx H locs hl hP hD hS
  unfold f_dload at hf
  split at hf
  · next v hq =>
    cases hf
    exact lv_dload_n hx hb hd hk (lk_at hl hq) (k Lx H locs hl hP hD hS)
  · cases hf
def f_lload (i : Nat) : F1 := fun ls st x => match ls.lookup i with
  | some (.long v) => some (ls, .long v :: st, x)
  | _ => none
theorem st_lload {X : Ctx} {M : MI} (h : sCx X M) {pc i : Nat} (hd : decode M.2.1 pc = .ok (.lload i, 2)) : Stq X M pc (pc + 2) (f_lload i) := by
  obtain ⟨p, l, e, R, s, m, args, below, meth, c, G, a, tc, A, H0, cells, slots, Q⟩ := X
  obtain ⟨hx, hb, hml, hown, hts, ⟨hK, hN⟩, hA, hc1, hs1, hf1, hl1, hlk, hrt⟩ := h
  intro ls st x ls' st' x' hf k Lx H locs hl hP hD hS
  unfold f_lload at hf
  split at hf
  · next v hq =>
    cases hf
    exact lv_lload hx hb hd (lk_at hl hq) (k Lx H locs hl hP hD hS)
  · cases hf
theorem st_lloadn {X : Ctx} {M : MI} (h : sCx X M) {pc i : Nat} {kk : Fin 4} (hk : (kk : Nat) = i) (hd : decode M.2.1 pc = .ok (.lload_n kk, 1)) : Stq X M pc (pc + 1) (f_lload i) := by
  obtain ⟨p, l, e, R, s, m, args, below, meth, c, G, a, tc, A, H0, cells, slots, Q⟩ := X
  obtain ⟨hx, hb, hml, hown, hts, ⟨hK, hN⟩, hA, hc1, hs1, hf1, hl1, hlk, hrt⟩ := h
  intro ls st x ls' st' x' hf k Lx H locs hl hP hD hS
  unfold f_lload at hf
  split at hf
  · next v hq =>
    cases hf
    exact lv_lload_n hx hb hd hk (lk_at hl hq) (k Lx H locs hl hP hD hS)
  · cases hf
def f_aload (i : Nat) : F1 := fun ls st x => match ls.lookup i with
  | some (.ref v) => some (ls, .ref v :: st, x)
  | _ => none
theorem st_aload {X : Ctx} {M : MI} (h : sCx X M) {pc i : Nat} (hd : decode M.2.1 pc = .ok (.aload i, 2)) : Stq X M pc (pc + 2) (f_aload i) := by
  obtain ⟨p, l, e, R, s, m, args, below, meth, c, G, a, tc, A, H0, cells, slots, Q⟩ := X
  obtain ⟨hx, hb, hml, hown, hts, ⟨hK, hN⟩, hA, hc1, hs1, hf1, hl1, hlk, hrt⟩ := h
  intro ls st x ls' st' x' hf k Lx H locs hl hP hD hS
  unfold f_aload at hf
  split at hf
  · next v hq =>
    cases hf
    exact lv_aload hx hb hd (lk_at hl hq) (k Lx H locs hl hP hD hS)
  · cases hf
theorem st_aloadn {X : Ctx} {M : MI} (h : sCx X M) {pc i : Nat} {kk : Fin 4} (hk : (kk : Nat) = i) (hd : decode M.2.1 pc = .ok (.aload_n kk, 1)) : Stq X M pc (pc + 1) (f_aload i) := by
  obtain ⟨p, l, e, R, s, m, args, below, meth, c, G, a, tc, A, H0, cells, slots, Q⟩ := X
  obtain ⟨hx, hb, hml, hown, hts, ⟨hK, hN⟩, hA, hc1, hs1, hf1, hl1, hlk, hrt⟩ := h
  intro ls st x ls' st' x' hf k Lx H locs hl hP hD hS
  unfold f_aload at hf
  split at hf
  · next v hq =>
    cases hf
    exact lv_aload_n hx hb hd hk (lk_at hl hq) (k Lx H locs hl hP hD hS)
  · cases hf
def f_istore (n i : Nat) : F1 := fun ls st x => match st with
  | .int v :: r => if i < n then some (lset1 ls i (.int v), r, x) else none
  | _ => none
theorem st_istore {X : Ctx} {M : MI} (h : sCx X M) {pc i : Nat} (hd : decode M.2.1 pc = .ok (.istore i, 2)) : Stq X M pc (pc + 2) (f_istore M.2.2.1 i) := by
  obtain ⟨p, l, e, R, s, m, args, below, meth, c, G, a, tc, A, H0, cells, slots, Q⟩ := X
  obtain ⟨hx, hb, hml, hown, hts, ⟨hK, hN⟩, hA, hc1, hs1, hf1, hl1, hlk, hrt⟩ := h
  intro ls st x ls' st' x' hf k Lx H locs hl hP hD hS
  unfold f_istore at hf
  split at hf
  · next v r =>
    split at hf
    · next hi =>
      cases hf
      exact lv_istore hx hb hd hl hi (lm_set1 a ls i (.int v)) (fun Lx hl => k Lx H locs hl hP hD hS)
    · cases hf
  · cases hf
theorem st_istoren {X : Ctx} {M : MI} (h : sCx X M) {pc i : Nat} {kk : Fin 4} (hk : (kk : Nat) = i) (hd : decode M.2.1 pc = .ok (.istore_n kk, 1)) : Stq X M pc (pc + 1) (f_istore M.2.2.1 i) := by
  obtain ⟨p, l, e, R, s, m, args, below, meth, c, G, a, tc, A, H0, cells, slots, Q⟩ := X
  obtain ⟨hx, hb, hml, hown, hts, ⟨hK, hN⟩, hA, hc1, hs1, hf1, hl1, hlk, hrt⟩ := h
  intro ls st x ls' st' x' hf k Lx H locs hl hP hD hS
  unfold f_istore at hf
  split at hf
  · next v r =>
    split at hf
    · next hi =>
      cases hf
      exact lv_istore_n hx hb hd hk hl hi (lm_set1 a ls i (.int v)) (fun Lx hl => k Lx H locs hl hP hD hS)
    · cases hf
  · cases hf
def f_astore (n i : Nat) : F1 := fun ls st x => match st with
  | .ref v :: r => if i < n then some (lset1 ls i (.ref v), r, x) else none
  | _ => none
theorem st_astore {X : Ctx} {M : MI} (h : sCx X M) {pc i : Nat} (hd : decode M.2.1 pc = .ok (.astore i, 2)) : Stq X M pc (pc + 2) (f_astore M.2.2.1 i) := by
  obtain ⟨p, l, e, R, s, m, args, below, meth, c, G, a, tc, A, H0, cells, slots, Q⟩ := X
  obtain ⟨hx, hb, hml, hown, hts, ⟨hK, hN⟩, hA, hc1, hs1, hf1, hl1, hlk, hrt⟩ := h
  intro ls st x ls' st' x' hf k Lx H locs hl hP hD hS
  unfold f_astore at hf
  split at hf
  · next v r =>
    split at hf
    · next hi =>
      cases hf
      exact lv_astore hx hb hd hl hi (lm_set1 a ls i (.ref v)) (fun Lx hl => k Lx H locs hl hP hD hS)
    · cases hf
  · cases hf
theorem st_astoren {X : Ctx} {M : MI} (h : sCx X M) {pc i : Nat} {kk : Fin 4} (hk : (kk : Nat) = i) (hd : decode M.2.1 pc = .ok (.astore_n kk, 1)) : Stq X M pc (pc + 1) (f_astore M.2.2.1 i) := by
  obtain ⟨p, l, e, R, s, m, args, below, meth, c, G, a, tc, A, H0, cells, slots, Q⟩ := X
  obtain ⟨hx, hb, hml, hown, hts, ⟨hK, hN⟩, hA, hc1, hs1, hf1, hl1, hlk, hrt⟩ := h
  intro ls st x ls' st' x' hf k Lx H locs hl hP hD hS
  unfold f_astore at hf
  split at hf
  · next v r =>
    split at hf
    · next hi =>
      cases hf
      exact lv_astore_n hx hb hd hk hl hi (lm_set1 a ls i (.ref v)) (fun Lx hl => k Lx H locs hl hP hD hS)
    · cases hf
  · cases hf
def f_dstore (n i : Nat) : F1 := fun ls st x => match st with
  | .double v :: r => if i + 1 < n then some (lset2 ls i (.double v), r, x) else none
  | _ => none
theorem st_dstore {X : Ctx} {M : MI} (h : sCx X M) {pc i : Nat} (hd : decode M.2.1 pc = .ok (.dstore i, 2)) : Stq X M pc (pc + 2) (f_dstore M.2.2.1 i) := by
  obtain ⟨p, l, e, R, s, m, args, below, meth, c, G, a, tc, A, H0, cells, slots, Q⟩ := X
  obtain ⟨hx, hb, hml, hown, hts, ⟨hK, hN⟩, hA, hc1, hs1, hf1, hl1, hlk, hrt⟩ := h
  intro ls st x ls' st' x' hf k Lx H locs hl hP hD hS
  unfold f_dstore at hf
  split at hf
  · next v r =>
    split at hf
    · next hi =>
      cases hf
      exact lv_dstore hx hb hd hl hi (lm_set2 a ls i (.double v)) (fun Lx hl => k Lx H locs hl hP hD hS)
    · cases hf
  · cases hf
theorem st_dstoren {X : Ctx} {M : MI} (h : sCx X M) {pc i : Nat} {kk : Fin 4} (hk : (kk : Nat) = i) (hd : decode M.2.1 pc = .ok (.dstore_n kk, 1)) : Stq X M pc (pc + 1) (f_dstore M.2.2.1 i) := by
  obtain ⟨p, l, e, R, s, m, args, below, meth, c, G, a, tc, A, H0, cells, slots, Q⟩ := X
  obtain ⟨hx, hb, hml, hown, hts, ⟨hK, hN⟩, hA, hc1, hs1, hf1, hl1, hlk, hrt⟩ := h
  intro ls st x ls' st' x' hf k Lx H locs hl hP hD hS
  unfold f_dstore at hf
  split at hf
  · next v r =>
    split at hf
    · next hi =>
      cases hf
      exact lv_dstore_n hx hb hd hk hl hi (lm_set2 a ls i (.double v)) (fun Lx hl => k Lx H locs hl hP hD hS)
    · cases hf
  · cases hf
def f_lstore (n i : Nat) : F1 := fun ls st x => match st with
  | .long v :: r => if i + 1 < n then some (lset2 ls i (.long v), r, x) else none
  | _ => none
theorem st_lstore {X : Ctx} {M : MI} (h : sCx X M) {pc i : Nat} (hd : decode M.2.1 pc = .ok (.lstore i, 2)) : Stq X M pc (pc + 2) (f_lstore M.2.2.1 i) := by
  obtain ⟨p, l, e, R, s, m, args, below, meth, c, G, a, tc, A, H0, cells, slots, Q⟩ := X
  obtain ⟨hx, hb, hml, hown, hts, ⟨hK, hN⟩, hA, hc1, hs1, hf1, hl1, hlk, hrt⟩ := h
  intro ls st x ls' st' x' hf k Lx H locs hl hP hD hS
  unfold f_lstore at hf
  split at hf
  · next v r =>
    split at hf
    · next hi =>
      cases hf
      exact lv_lstore hx hb hd hl hi (lm_set2 a ls i (.long v)) (fun Lx hl => k Lx H locs hl hP hD hS)
    · cases hf
  · cases hf
theorem st_lstoren {X : Ctx} {M : MI} (h : sCx X M) {pc i : Nat} {kk : Fin 4} (hk : (kk : Nat) = i) (hd : decode M.2.1 pc = .ok (.lstore_n kk, 1)) : Stq X M pc (pc + 1) (f_lstore M.2.2.1 i) := by
  obtain ⟨p, l, e, R, s, m, args, below, meth, c, G, a, tc, A, H0, cells, slots, Q⟩ := X
  obtain ⟨hx, hb, hml, hown, hts, ⟨hK, hN⟩, hA, hc1, hs1, hf1, hl1, hlk, hrt⟩ := h
  intro ls st x ls' st' x' hf k Lx H locs hl hP hD hS
  unfold f_lstore at hf
  split at hf
  · next v r =>
    split at hf
    · next hi =>
      cases hf
      exact lv_lstore_n hx hb hd hk hl hi (lm_set2 a ls i (.long v)) (fun Lx hl => k Lx H locs hl hP hD hS)
    · cases hf
  · cases hf
def f_iinc (n i : Nat) (d : Int32) : F1 := fun ls st x => match ls.lookup i with
  | some (.int v) => if i < n then some (lset1 ls i (.int (v + d)), st, x) else none
  | _ => none
theorem st_iinc {X : Ctx} {M : MI} (h : sCx X M) {pc i : Nat} {d : Int} {v : Int32} (hv : Int32.ofInt d = v) (hd : decode M.2.1 pc = .ok (.iinc i d, 3)) : Stq X M pc (pc + 3) (f_iinc M.2.2.1 i v) := by
  obtain ⟨p, l, e, R, s, m, args, below, meth, c, G, a, tc, A, H0, cells, slots, Q⟩ := X
  obtain ⟨hx, hb, hml, hown, hts, ⟨hK, hN⟩, hA, hc1, hs1, hf1, hl1, hlk, hrt⟩ := h
  intro ls st x ls' st' x' hf k Lx H locs hl hP hD hS
  unfold f_iinc at hf
  split at hf
  · next z hq =>
    split at hf
    · next hi =>
      cases hf
      obtain ⟨j, hj⟩ := lk_ix (a := a) hq
      exact lv_iinc hx hb hd hl hj (by rw [hv]) hi (lm_set1 a ls i (.int (z + v))) (fun Lx hl => k Lx H locs hl hP hD hS)
    · cases hf
  · cases hf
def f_id : F1 := fun ls st x => some (ls, st, x)
theorem st_goto {X : Ctx} {M : MI} (h : sCx X M) {pc tgt : Nat} {off : Int} (hd : decode M.2.1 pc = .ok (.goto off, 3)) (ht : (pc : Int) + off = (tgt : Int)) : Stq X M pc tgt f_id := by
  obtain ⟨p, l, e, R, s, m, args, below, meth, c, G, a, tc, A, H0, cells, slots, Q⟩ := X
  obtain ⟨hx, hb, hml, hown, hts, ⟨hK, hN⟩, hA, hc1, hs1, hf1, hl1, hlk, hrt⟩ := h
  intro ls st x ls' st' x' hf k Lx H locs hl hP hD hS
  cases hf
  exact lv_goto hx hb hd ht (k Lx H locs hl hP hD hS)
def fks (x : Hp) (i k r : Nat) : Value := match r with
  | 0 => .int (x.1 i k)
  | 1 => .double (x.2.1 i k)
  | r + 2 => .ref r
def f_get (ci k : Nat) : F1 := fun ls st x => match st with
  | .ref i :: r => match shp i with
    | .inr (cj, ks) => if cj = ci then match ks[k]? with
      | some kd => some (ls, fks x i k kd :: r, x)
      | none => none else none
    | .inl _ => none
  | _ => none
theorem fkv_rv {a : Nat → Nat} {x : Hp} {i k r : Nat} : fkv a x i k r = rv a (fks x i k r) := by
  match r with
  | 0 => rfl
  | 1 => rfl
  | r + 2 => rfl
theorem st_get {X : Ctx} {M : MI} (h : sCx X M) {pc ci ix k N : Nat} {C ref : String} {T : u_T} (hc : vwCl[ci]? = some (C, T, N)) (hin : ∀ w ∈ u_ws C T N, w ∈ gw) (hk : k < N) (hr : ref = (T k).1) (hw : Cond.fieldLink M.1.cls ix ref (T k).2.1 (T k).2.2.1 ∈ gw) (hd : decode M.2.1 pc = .ok (.getfield ix, 3)) : Stq X M pc (pc + 3) (f_get ci k) := by
  obtain ⟨p, l, e, R, s, m, args, below, meth, c, G, a, tc, A, H0, cells, slots, Q⟩ := X
  obtain ⟨hx, hb, hml, hown, hts, ⟨hK, hN⟩, hA, hc1, hs1, hf1, hl1, hlk, hrt⟩ := h
  intro ls st x ls' st' x' hf k_ Lx H locs hl hP hD hS
  unfold f_get at hf
  split at hf
  · next i r =>
    split at hf
    · next cj ks hsh =>
      split at hf
      · next hcj =>
        split at hf
        · next kd hkd =>
          cases hf
          subst hcj
          have hi : i < 96 := shp_ltR hsh
          have he : (wd a tc x)[i]? = some (a i, .inr (cj, ks.mapIdx (fun k r => fkv a x i k r))) := by rw [wd_get hi, ent_o hsh]
          refine va_get (D := G) (ci := cj) (v := rv a (fks x i k kd)) (C := C) (T := T) (N := N) hx hb hts hin hown hK hP i he hc k hk (hts _ hw) (fun y h9 => by rw [hr]; exact h9) ?_ hd (k_ Lx H locs hl hP hD hS)
          rw [fs_get hkd, fkv_rv]
        · cases hf
      · cases hf
    · cases hf
  · cases hf
def f_putI (ci k : Nat) : F1 := fun ls st x => match st with
  | .int v :: .ref i :: r => match shp i with
    | .inr (cj, ks) => if cj = ci then if ks[k]? = some 0 then some (ls, r, (u2 x.1 i k v, x.2)) else none else none
    | .inl _ => none
  | _ => none
theorem st_putI {X : Ctx} {M : MI} (h : sCx X M) {pc ci ix k N : Nat} {C ref : String} {T : u_T} (ty0 : Nat → FieldType) (hty : ∀ k, k < N → parseFieldDescriptor (T k).2.2.1 = some (ty0 k)) (hnm : ∀ a, a < N → ∀ b, b < N → a ≠ b → (T a).2.1 ≠ (T b).2.1) (hc : vwCl[ci]? = some (C, T, N)) (hin : ∀ w ∈ u_ws C T N, w ∈ gw) (hk : k < N) (hr : ref = (T k).1) (hfin : (T k).2.2.2 = false) (hdd : parseFieldDescriptor (T k).2.2.1 = some .int) (hw : Cond.fieldLink M.1.cls ix ref (T k).2.1 (T k).2.2.1 ∈ gw) (hd : decode M.2.1 pc = .ok (.putfield ix, 3)) : Stq X M pc (pc + 3) (f_putI ci k) := by
  obtain ⟨p, l, e, R, s, m, args, below, meth, c, G, a, tc, A, H0, cells, slots, Q⟩ := X
  obtain ⟨hx, hb, hml, hown, hts, ⟨hK, hN⟩, hA, hc1, hs1, hf1, hl1, hlk, hrt⟩ := h
  intro ls st x ls' st' x' hf k_ Lx H locs hl hP hD hS
  unfold f_putI at hf
  split at hf
  · next v i r =>
    split at hf
    · next cj ks hsh =>
      split at hf
      · next hcj =>
        split at hf
        · next hkd =>
          cases hf
          subst hcj
          have hi : i < 96 := shp_ltR hsh
          have he : (wd a tc x)[i]? = some (a i, .inr (cj, ks.mapIdx (fun k r => fkv a x i k r))) := by rw [wd_get hi, ent_o hsh]
          have hle : k < (ks.mapIdx (fun k r => fkv a x i k r)).length := by simpa using (List.getElem?_eq_some_iff.mp hkd).1
          refine va_put (D := G) (ci := cj) (v := .int v) (ty := .int) (C := C) (T := T) (N := N) hx hb hts hin ty0 hty hnm hown hK hP hD hS i he hc k hk (hts _ hw) (fun y h9 => by rw [hr]; exact h9) hfin hdd rfl rfl hle hd (fun H1 locs1 hP1 hD1 hS1 => ?_)
          rw [wd_setFI hi hsh hkd] at hP1 hD1
          exact k_ Lx H1 locs1 hl hP1 hD1 hS1
        · cases hf
      · cases hf
    · cases hf
  · cases hf
def f_putD (ci k : Nat) : F1 := fun ls st x => match st with
  | .double v :: .ref i :: r => match shp i with
    | .inr (cj, ks) => if cj = ci then if ks[k]? = some 1 then some (ls, r, (x.1, u2 x.2.1 i k v, x.2.2)) else none else none
    | .inl _ => none
  | _ => none
theorem st_putD {X : Ctx} {M : MI} (h : sCx X M) {pc ci ix k N : Nat} {C ref : String} {T : u_T} (ty0 : Nat → FieldType) (hty : ∀ k, k < N → parseFieldDescriptor (T k).2.2.1 = some (ty0 k)) (hnm : ∀ a, a < N → ∀ b, b < N → a ≠ b → (T a).2.1 ≠ (T b).2.1) (hc : vwCl[ci]? = some (C, T, N)) (hin : ∀ w ∈ u_ws C T N, w ∈ gw) (hk : k < N) (hr : ref = (T k).1) (hfin : (T k).2.2.2 = false) (hdd : parseFieldDescriptor (T k).2.2.1 = some .double) (hw : Cond.fieldLink M.1.cls ix ref (T k).2.1 (T k).2.2.1 ∈ gw) (hd : decode M.2.1 pc = .ok (.putfield ix, 3)) : Stq X M pc (pc + 3) (f_putD ci k) := by
  obtain ⟨p, l, e, R, s, m, args, below, meth, c, G, a, tc, A, H0, cells, slots, Q⟩ := X
  obtain ⟨hx, hb, hml, hown, hts, ⟨hK, hN⟩, hA, hc1, hs1, hf1, hl1, hlk, hrt⟩ := h
  intro ls st x ls' st' x' hf k_ Lx H locs hl hP hD hS
  unfold f_putD at hf
  split at hf
  · next v i r =>
    split at hf
    · next cj ks hsh =>
      split at hf
      · next hcj =>
        split at hf
        · next hkd =>
          cases hf
          subst hcj
          have hi : i < 96 := shp_ltR hsh
          have he : (wd a tc x)[i]? = some (a i, .inr (cj, ks.mapIdx (fun k r => fkv a x i k r))) := by rw [wd_get hi, ent_o hsh]
          have hle : k < (ks.mapIdx (fun k r => fkv a x i k r)).length := by simpa using (List.getElem?_eq_some_iff.mp hkd).1
          refine va_put (D := G) (ci := cj) (v := .double v) (ty := .double) (C := C) (T := T) (N := N) hx hb hts hin ty0 hty hnm hown hK hP hD hS i he hc k hk (hts _ hw) (fun y h9 => by rw [hr]; exact h9) hfin hdd rfl rfl hle hd (fun H1 locs1 hP1 hD1 hS1 => ?_)
          rw [wd_setFD hi hsh hkd] at hP1 hD1
          exact k_ Lx H1 locs1 hl hP1 hD1 hS1
        · cases hf
      · cases hf
    · cases hf
  · cases hf
def f_alen : F1 := fun ls st x => match st with
  | .ref i :: r => match shp i with
    | .inl (t, n) => if t < 4 ∧ n ≠ 0 then some (ls, .int (Int32.ofNat n) :: r, x) else none
    | .inr _ => none
  | _ => none
theorem st_alen {X : Ctx} {M : MI} (h : sCx X M) {pc : Nat} (hd : decode M.2.1 pc = .ok (.arraylength, 1)) : Stq X M pc (pc + 1) f_alen := by
  obtain ⟨p, l, e, R, s, m, args, below, meth, c, G, a, tc, A, H0, cells, slots, Q⟩ := X
  obtain ⟨hx, hb, hml, hown, hts, ⟨hK, hN⟩, hA, hc1, hs1, hf1, hl1, hlk, hrt⟩ := h
  intro ls st x ls' st' x' hf k Lx H locs hl hP hD hS
  unfold f_alen at hf
  split at hf
  · next i r =>
    split at hf
    · next t n hsh =>
      split at hf
      · next ht =>
        cases hf
        have hi : i < 96 := shp_lt hsh ht.2
        have hw := wd_get (a := a) (tc := tc) (x := x) hi
        match t, ht.1 with
        | 0, _ => rw [ent_i hsh] at hw; exact va_alen hx hb hK hP i 0 hw rfl rfl hd (k Lx H locs hl hP hD hS)
        | 1, _ => rw [ent_d hsh] at hw; exact va_alen hx hb hK hP i 1 hw rfl rfl hd (k Lx H locs hl hP hD hS)
        | 2, _ => rw [ent_l hsh] at hw; exact va_alen hx hb hK hP i 2 hw rfl rfl hd (k Lx H locs hl hP hD hS)
        | 3, _ => rw [ent_q hsh] at hw; exact va_alen hx hb hK hP i 3 hw rfl rfl hd (k Lx H locs hl hP hD hS)
      · cases hf
    · cases hf
  · cases hf
def b_icmp_ge : B1 := fun st => match st with
  | .int y :: .int z :: r => some (y ≤ z, r)
  | _ => none
theorem sb_icmp_ge {X : Ctx} {M : MI} (h : sCx X M) {pc tgt : Nat} {off : Int} (hd : decode M.2.1 pc = .ok (.if_icmp .ge off, 3)) (ht : (pc : Int) + off = (tgt : Int)) : Brn X M pc tgt (pc + 3) b_icmp_ge := by
  obtain ⟨p, l, e, R, s, m, args, below, meth, c, G, a, tc, A, H0, cells, slots, Q⟩ := X
  obtain ⟨hx, hb, hml, hown, hts, ⟨hK, hN⟩, hA, hc1, hs1, hf1, hl1, hlk, hrt⟩ := h
  intro ls st x P r hf kt kf Lx H locs hl hP hD hS
  unfold b_icmp_ge at hf
  split at hf
  · cases hf
    exact lv_icmp_ge hx hb hd ht (fun q => kt q Lx H locs hl hP hD hS) (fun q => kf q Lx H locs hl hP hD hS)
  · cases hf
def b_icmp_gt : B1 := fun st => match st with
  | .int y :: .int z :: r => some (y < z, r)
  | _ => none
theorem sb_icmp_gt {X : Ctx} {M : MI} (h : sCx X M) {pc tgt : Nat} {off : Int} (hd : decode M.2.1 pc = .ok (.if_icmp .gt off, 3)) (ht : (pc : Int) + off = (tgt : Int)) : Brn X M pc tgt (pc + 3) b_icmp_gt := by
  obtain ⟨p, l, e, R, s, m, args, below, meth, c, G, a, tc, A, H0, cells, slots, Q⟩ := X
  obtain ⟨hx, hb, hml, hown, hts, ⟨hK, hN⟩, hA, hc1, hs1, hf1, hl1, hlk, hrt⟩ := h
  intro ls st x P r hf kt kf Lx H locs hl hP hD hS
  unfold b_icmp_gt at hf
  split at hf
  · cases hf
    exact lv_icmp_gt hx hb hd ht (fun q => kt q Lx H locs hl hP hD hS) (fun q => kf q Lx H locs hl hP hD hS)
  · cases hf
def b_icmp_le : B1 := fun st => match st with
  | .int y :: .int z :: r => some (z ≤ y, r)
  | _ => none
theorem sb_icmp_le {X : Ctx} {M : MI} (h : sCx X M) {pc tgt : Nat} {off : Int} (hd : decode M.2.1 pc = .ok (.if_icmp .le off, 3)) (ht : (pc : Int) + off = (tgt : Int)) : Brn X M pc tgt (pc + 3) b_icmp_le := by
  obtain ⟨p, l, e, R, s, m, args, below, meth, c, G, a, tc, A, H0, cells, slots, Q⟩ := X
  obtain ⟨hx, hb, hml, hown, hts, ⟨hK, hN⟩, hA, hc1, hs1, hf1, hl1, hlk, hrt⟩ := h
  intro ls st x P r hf kt kf Lx H locs hl hP hD hS
  unfold b_icmp_le at hf
  split at hf
  · cases hf
    exact lv_icmp_le hx hb hd ht (fun q => kt q Lx H locs hl hP hD hS) (fun q => kf q Lx H locs hl hP hD hS)
  · cases hf
def b_icmp_lt : B1 := fun st => match st with
  | .int y :: .int z :: r => some (z < y, r)
  | _ => none
theorem sb_icmp_lt {X : Ctx} {M : MI} (h : sCx X M) {pc tgt : Nat} {off : Int} (hd : decode M.2.1 pc = .ok (.if_icmp .lt off, 3)) (ht : (pc : Int) + off = (tgt : Int)) : Brn X M pc tgt (pc + 3) b_icmp_lt := by
  obtain ⟨p, l, e, R, s, m, args, below, meth, c, G, a, tc, A, H0, cells, slots, Q⟩ := X
  obtain ⟨hx, hb, hml, hown, hts, ⟨hK, hN⟩, hA, hc1, hs1, hf1, hl1, hlk, hrt⟩ := h
  intro ls st x P r hf kt kf Lx H locs hl hP hD hS
  unfold b_icmp_lt at hf
  split at hf
  · cases hf
    exact lv_icmp_lt hx hb hd ht (fun q => kt q Lx H locs hl hP hD hS) (fun q => kf q Lx H locs hl hP hD hS)
  · cases hf
def b_icmp_eq : B1 := fun st => match st with
  | .int y :: .int z :: r => some (z = y, r)
  | _ => none
theorem sb_icmp_eq {X : Ctx} {M : MI} (h : sCx X M) {pc tgt : Nat} {off : Int} (hd : decode M.2.1 pc = .ok (.if_icmp .eq off, 3)) (ht : (pc : Int) + off = (tgt : Int)) : Brn X M pc tgt (pc + 3) b_icmp_eq := by
  obtain ⟨p, l, e, R, s, m, args, below, meth, c, G, a, tc, A, H0, cells, slots, Q⟩ := X
  obtain ⟨hx, hb, hml, hown, hts, ⟨hK, hN⟩, hA, hc1, hs1, hf1, hl1, hlk, hrt⟩ := h
  intro ls st x P r hf kt kf Lx H locs hl hP hD hS
  unfold b_icmp_eq at hf
  split at hf
  · cases hf
    exact lv_icmp_eq hx hb hd ht (fun q => kt q Lx H locs hl hP hD hS) (fun q => kf q Lx H locs hl hP hD hS)
  · cases hf
def b_if_ge : B1 := fun st => match st with
  | .int z :: r => some (0 ≤ z, r)
  | _ => none
theorem sb_if_ge {X : Ctx} {M : MI} (h : sCx X M) {pc tgt : Nat} {off : Int} (hd : decode M.2.1 pc = .ok (.ifCond .ge off, 3)) (ht : (pc : Int) + off = (tgt : Int)) : Brn X M pc tgt (pc + 3) b_if_ge := by
  obtain ⟨p, l, e, R, s, m, args, below, meth, c, G, a, tc, A, H0, cells, slots, Q⟩ := X
  obtain ⟨hx, hb, hml, hown, hts, ⟨hK, hN⟩, hA, hc1, hs1, hf1, hl1, hlk, hrt⟩ := h
  intro ls st x P r hf kt kf Lx H locs hl hP hD hS
  unfold b_if_ge at hf
  split at hf
  · cases hf
    exact lv_if_ge hx hb hd ht (fun q => kt q Lx H locs hl hP hD hS) (fun q => kf q Lx H locs hl hP hD hS)
  · cases hf
def b_if_gt : B1 := fun st => match st with
  | .int z :: r => some (0 < z, r)
  | _ => none
theorem sb_if_gt {X : Ctx} {M : MI} (h : sCx X M) {pc tgt : Nat} {off : Int} (hd : decode M.2.1 pc = .ok (.ifCond .gt off, 3)) (ht : (pc : Int) + off = (tgt : Int)) : Brn X M pc tgt (pc + 3) b_if_gt := by
  obtain ⟨p, l, e, R, s, m, args, below, meth, c, G, a, tc, A, H0, cells, slots, Q⟩ := X
  obtain ⟨hx, hb, hml, hown, hts, ⟨hK, hN⟩, hA, hc1, hs1, hf1, hl1, hlk, hrt⟩ := h
  intro ls st x P r hf kt kf Lx H locs hl hP hD hS
  unfold b_if_gt at hf
  split at hf
  · cases hf
    exact lv_if_gt hx hb hd ht (fun q => kt q Lx H locs hl hP hD hS) (fun q => kf q Lx H locs hl hP hD hS)
  · cases hf
def b_if_le : B1 := fun st => match st with
  | .int z :: r => some (z ≤ 0, r)
  | _ => none
theorem sb_if_le {X : Ctx} {M : MI} (h : sCx X M) {pc tgt : Nat} {off : Int} (hd : decode M.2.1 pc = .ok (.ifCond .le off, 3)) (ht : (pc : Int) + off = (tgt : Int)) : Brn X M pc tgt (pc + 3) b_if_le := by
  obtain ⟨p, l, e, R, s, m, args, below, meth, c, G, a, tc, A, H0, cells, slots, Q⟩ := X
  obtain ⟨hx, hb, hml, hown, hts, ⟨hK, hN⟩, hA, hc1, hs1, hf1, hl1, hlk, hrt⟩ := h
  intro ls st x P r hf kt kf Lx H locs hl hP hD hS
  unfold b_if_le at hf
  split at hf
  · cases hf
    exact lv_if_le hx hb hd ht (fun q => kt q Lx H locs hl hP hD hS) (fun q => kf q Lx H locs hl hP hD hS)
  · cases hf
def b_if_lt : B1 := fun st => match st with
  | .int z :: r => some (z < 0, r)
  | _ => none
theorem sb_if_lt {X : Ctx} {M : MI} (h : sCx X M) {pc tgt : Nat} {off : Int} (hd : decode M.2.1 pc = .ok (.ifCond .lt off, 3)) (ht : (pc : Int) + off = (tgt : Int)) : Brn X M pc tgt (pc + 3) b_if_lt := by
  obtain ⟨p, l, e, R, s, m, args, below, meth, c, G, a, tc, A, H0, cells, slots, Q⟩ := X
  obtain ⟨hx, hb, hml, hown, hts, ⟨hK, hN⟩, hA, hc1, hs1, hf1, hl1, hlk, hrt⟩ := h
  intro ls st x P r hf kt kf Lx H locs hl hP hD hS
  unfold b_if_lt at hf
  split at hf
  · cases hf
    exact lv_if_lt hx hb hd ht (fun q => kt q Lx H locs hl hP hD hS) (fun q => kf q Lx H locs hl hP hD hS)
  · cases hf
def b_if_eq : B1 := fun st => match st with
  | .int z :: r => some (z = 0, r)
  | _ => none
theorem sb_if_eq {X : Ctx} {M : MI} (h : sCx X M) {pc tgt : Nat} {off : Int} (hd : decode M.2.1 pc = .ok (.ifCond .eq off, 3)) (ht : (pc : Int) + off = (tgt : Int)) : Brn X M pc tgt (pc + 3) b_if_eq := by
  obtain ⟨p, l, e, R, s, m, args, below, meth, c, G, a, tc, A, H0, cells, slots, Q⟩ := X
  obtain ⟨hx, hb, hml, hown, hts, ⟨hK, hN⟩, hA, hc1, hs1, hf1, hl1, hlk, hrt⟩ := h
  intro ls st x P r hf kt kf Lx H locs hl hP hD hS
  unfold b_if_eq at hf
  split at hf
  · cases hf
    exact lv_if_eq hx hb hd ht (fun q => kt q Lx H locs hl hP hD hS) (fun q => kf q Lx H locs hl hP hD hS)
  · cases hf
theorem sb_icmp_ne {X : Ctx} {M : MI} (h : sCx X M) {pc tgt : Nat} {off : Int} (hd : decode M.2.1 pc = .ok (.if_icmp .ne off, 3)) (ht : (pc : Int) + off = (tgt : Int)) : Brn X M pc (pc + 3) tgt b_icmp_eq := by
  obtain ⟨p, l, e, R, s, m, args, below, meth, c, G, a, tc, A, H0, cells, slots, Q⟩ := X
  obtain ⟨hx, hb, hml, hown, hts, ⟨hK, hN⟩, hA, hc1, hs1, hf1, hl1, hlk, hrt⟩ := h
  intro ls st x P r hf kt kf Lx H locs hl hP hD hS
  unfold b_icmp_eq at hf
  split at hf
  · cases hf
    exact lv_icmp_ne hx hb hd ht (fun q => kf q Lx H locs hl hP hD hS) (fun q => kt q Lx H locs hl hP hD hS)
  · cases hf
theorem sb_if_ne {X : Ctx} {M : MI} (h : sCx X M) {pc tgt : Nat} {off : Int} (hd : decode M.2.1 pc = .ok (.ifCond .ne off, 3)) (ht : (pc : Int) + off = (tgt : Int)) : Brn X M pc (pc + 3) tgt b_if_eq := by
  obtain ⟨p, l, e, R, s, m, args, below, meth, c, G, a, tc, A, H0, cells, slots, Q⟩ := X
  obtain ⟨hx, hb, hml, hown, hts, ⟨hK, hN⟩, hA, hc1, hs1, hf1, hl1, hlk, hrt⟩ := h
  intro ls st x P r hf kt kf Lx H locs hl hP hD hS
  unfold b_if_eq at hf
  split at hf
  · cases hf
    exact lv_if_ne hx hb hd ht (fun q => kf q Lx H locs hl hP hD hS) (fun q => kt q Lx H locs hl hP hD hS)
  · cases hf
