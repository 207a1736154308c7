/-! closing, undoing, a simulation -/
def bcS (m : Int32) : Nat → Int32
  | 0 => 0
  | j + 1 => bcS m j + (if bS m j then 1 else 0)
theorem bc_all : ∀ a, a < 64 → ∀ b, b < 64 → bcT (nI (64 * a + b)) = bcS (nI (64 * a + b)) 12 := by decide +kernel
theorem bc_nat {m : Int32} {n : Nat} (h : M12 m n) (hn : n ≤ 12) : ∃ k, k < 4096 ∧ m = nI k := by
  refine ⟨m.toBitVec.toNat, ?_, ?_⟩
  · have : m.toBitVec.toNat < 2 ^ 12 := Nat.lt_pow_two_of_testBit _ (fun i hi => h i (by omega))
    exact this
  · apply Int32.toBitVec_inj.1
    show m.toBitVec = BitVec.ofNat 32 m.toBitVec.toNat
    apply BitVec.eq_of_toNat_eq
    rw [BitVec.toNat_ofNat]
    exact (Nat.mod_eq_of_lt m.toBitVec.isLt).symm
theorem bc_is {m : Int32} {n : Nat} (h : M12 m n) (hn : n ≤ 12) : bcT m = bcS m n := by
  obtain ⟨k, hk, rfl⟩ := bc_nat h hn
  have q := bc_all (k / 64) (by omega) (k % 64) (by omega)
  rw [show 64 * (k / 64) + k % 64 = k by omega] at q
  rw [q]
  have key : ∀ d, n + d ≤ 12 → bcS (nI k) (n + d) = bcS (nI k) n := by
    intro d
    induction d with
    | zero => intro _; rfl
    | succ d ih =>
      intro hd
      have hb : ¬ bS (nI k) (n + d) := fun z => by rw [bS_iff (by omega), h (n + d) (by omega)] at z; cases z
      rw [show n + (d + 1) = n + d + 1 by omega]
      show bcS (nI k) (n + d) + (if bS (nI k) (n + d) then 1 else 0) = _
      rw [if_neg hb, Int32.add_zero]
      exact ih (by omega)
  have := key (12 - n) (by omega)
  rw [show n + (12 - n) = 12 by omega] at this
  exact this
theorem bc_cM {x : Hp} {m : Int32} {n : Nat} (h : ∀ k, k < n → x.1 84 (2 + 9 * k + 8) = (if bS m k then 1 else 0)) : ∀ j, j ≤ n → cM x j = bcS m j
  | 0, _ => rfl
  | j + 1, hj => by
    unfold cM bcS
    rw [bc_cM h j (by omega), h j (by omega)]
theorem opK_cg : ∀ {O : List Nat} {K K2 : Nat → Int32}, (∀ j, j < 12 → K j = K2 j) → ∀ j, j < 12 → opK O K j = opK O K2 j
  | [], _, _, h, j, hj => h j hj
  | r :: O, K, K2, h, j, hj => by
    refine opK_cg (O := O) (fun k hk => ?_) j hj
    unfold vf_upd
    by_cases q : k = r
    · rw [if_pos q, if_pos q, h r (by omega)]
    · rw [if_neg q, if_neg q, h k hk]
theorem rdC_cg {m st : Int32} {sh : Nat → Int32} {o T : Nat → UInt64} {om : Int32} {K K2 : Nat → Int32} {E : Ev} (h : ∀ j, j < 12 → K j = K2 j) : (rdC m st sh o T om K E).1 = (rdC m st sh o T om K2 E).1 ∧ (rdC m st sh o T om K E).2.1 = (rdC m st sh o T om K2 E).2.1 ∧ (∀ j, j < 12 → (rdC m st sh o T om K E).2.2.1 j = (rdC m st sh o T om K2 E).2.2.1 j) ∧ (rdC m st sh o T om K E).2.2.2 = (rdC m st sh o T om K2 E).2.2.2 := by
  obtain ⟨q, hq⟩ : ∃ q, tkC T st (ltC m o T 12) 9218868437227405312 [] E = q := ⟨_, rfl⟩
  by_cases h0 : q.1 = []
  · rw [rdC_0 hq h0, rdC_0 hq h0]
    exact ⟨rfl, rfl, h, rfl⟩
  · have hl : rlO q.1 < 12 := by
      have he := rlO_mem h0
      rw [← hq] at he
      rcases tkC_mem he with w | w
      · cases w
      · have := (ltC_mem (Nat.le_refl _) w).2.1
        rw [← hq]; exact this
    have hK := opK_cg (O := q.1) h
    by_cases h2 : opK q.1 K (rlO q.1) ≤ sh (rlO q.1)
    · rw [rdC_1 hq h0 h2, rdC_1 hq h0 (by rw [← hK _ hl]; exact h2)]
      exact ⟨rfl, rfl, hK, rfl⟩
    · rw [rdC_2 hq h0 h2, rdC_2 hq h0 (by rw [← hK _ hl]; exact h2)]
      exact ⟨rfl, rfl, hK, rfl⟩
theorem runC_cg {m st : Int32} {sh : Nat → Int32} {o : Nat → UInt64} {dur : UInt64} : ∀ {d : Nat} {t : UInt64} {om : Int32} {K K2 : Nat → Int32} {E : Ev} {cl : UInt64}, (∀ j, j < 12 → K j = K2 j) → runC m st sh o dur d t om K E cl = runC m st sh o dur d t om K2 E cl
  | 0, _, _, _, _, _, _, _ => rfl
  | d + 1, t, om, K, K2, E, cl, h => by
    by_cases a : m &&& om = 0
    · by_cases b : cml t dur < 0
      · obtain ⟨c1, c2, c3, c4⟩ := rdC_cg (m := m) (st := st) (sh := sh) (o := o) (T := fun r => FP.dadd t (o r)) (om := om) (E := E) h
        rw [runC_2 a b, runC_2 a b, c1, c2, c4]
        exact runC_cg c3
      · rw [runC_1 a b, runC_1 a b]
    · rw [runC_0 a, runC_0 a]
section
variable {Y : Kx} {x : Hp} {n ne i c : Nat}
theorem op_closeAll (hI : INVW x n ne i c) : OPG Y mX6_closeAll mX7_closeAll [] x := by
  have h12 := hI.1.1.1.1
  have p1 : ∀ a, a ≤ 15 → (pushS x i c).1 a = x.1 a := fun a ha => push_o1 hI.2.1.1 (Or.inl (by omega))
  have p2 : ∀ a, a ≤ 15 → (pushS x i c).2.1 a = x.2.1 a := fun a ha => push_o2 hI.2.1.1 (Or.inl (by omega))
  refine op_push hI (f_closeAll Y x i c hI.2.1) ?_
  rintro rr y ⟨rfl, rfl⟩
  refine ⟨_, n, ne, rfl, vok_i, fr1 fr_rf (by decide), fun x2 hm h5 hS => ⟨fun r2 w z => r2 = some (.int (cM x2 n)) ∧ z = (w8S w n, w.2), r_closeAll Y x2 c n hI.2.1.2.1 h5 (st_84 hS) h12, ?_⟩⟩
  rintro r2 w z w84 w85 ⟨rfl, rfl⟩
  have zo : ∀ a, a ≠ 84 → w8S w n a = w.1 a := fun a ha => w8S_o w n a ha
  have zk : ∀ j, (∀ e, e < n → j ≠ 2 + 9 * e + 8) → w8S w n 84 j = x.1 84 j := fun j hj => by rw [w8S_out w n j hj, w84]
  have ye : ∀ a, a ≤ 15 → a ≠ 7 → u2 (pushS x i c).1 7 6 0 a = x.1 a := fun a ha hb => by rw [u2_ne hb, p1 a ha]
  have y75 : u2 (pushS x i c).1 7 6 0 7 5 = x.1 7 5 := by rw [u2_k _ _ _ _ (by decide), p1 7 (by omega)]
  have y76 : u2 (pushS x i c).1 7 6 0 7 6 = 0 := u2_at (pushS x i c).1 7 6 0
  obtain ⟨v1, v2, v3, v4⟩ := hI.1.2.1
  obtain ⟨w1, w2, w3, w4, w5⟩ := hI.1.2.2.2.2
  refine ⟨?_, ⟨fun a ha => zo a (fun q => ha (by rw [q]; decide)), fun _ _ => rfl, rfl⟩, congrFun (zo 83 (by decide)) 5, congrFun (zo 83 (by decide)) 0, STR_sim hI.1 (fun a h1 => ye a (by omega) (by omega)) (fun a h1 => p2 a (by omega)) ?_ ?_ (fun j h1 h2 h3 => zk j (fun e he => (h3 e).2)) (fun j h1 h2 => ?_) (fun j hj => ?_) (fun j hj => ?_) ⟨v1, ?_, fun j hj => ?_, ?_⟩ ⟨w1, ?_, ?_, fun j hj => ⟨?_, ?_⟩, ?_⟩⟩
  · rw [bc_cM (m := x.1 7 6) hS.2.2.2.1 n (Nat.le_refl _), bc_is hI.1.1.2.2.2.2.2 h12]
  · show M12 (u2 (pushS x i c).1 7 6 0 7 5) n
    rw [y75]; exact hI.1.1.2.2.2.2.1
  · show M12 (u2 (pushS x i c).1 7 6 0 7 6) n
    rw [y76]; exact M12_0
  · show w.2.1 85 j = _
    rw [w85]
  · show w8S w n 84 _ = if bS (u2 (pushS x i c).1 7 6 0 7 5) j then 1 else 0
    rw [zk _ (fun e _ => by omega), y75]; exact (hI.1.2.2.1.2.2.2.2.2 j hj).2.2.2.2.2.2
  · show w8S w n 84 _ = if bS (u2 (pushS x i c).1 7 6 0 7 6) j then 1 else 0
    rw [w8S_in w n j hj, y76, if_neg (bS_0 (by omega))]
  · show u2 (pushS x i c).1 7 6 0 13 0 = _
    rw [ye 13 (by omega) (by omega)]; exact v2
  · show tv ((pushS x i c).2.1 15 j)
    rw [p2 15 (by omega)]; exact v3 j hj
  · show tvC ((pushS x i c).2.1 13 3)
    rw [p2 13 (by omega)]; exact v4
  · show u2 (pushS x i c).1 7 6 0 13 0 = _
    rw [ye 13 (by omega) (by omega)]; exact w2
  · show w8S w n 84 1 = _
    rw [zk _ (fun e _ => by omega)]; exact w3
  · show w8S w n 84 (110 + j) = u2 (pushS x i c).1 7 6 0 14 j
    rw [zk _ (fun e _ => by omega), ye 14 (by omega) (by omega)]; exact (w4 j hj).1
  · show w.2.1 85 (16 + j) = (pushS x i c).2.1 15 j
    rw [w85, p2 15 (by omega)]; exact (w4 j hj).2
  · show w.2.1 85 3 = (pushS x i c).2.1 13 3
    rw [w85, p2 13 (by omega)]; exact w5
theorem pop_o1 {x : Hp} {j c a : Nat} (h1 : 16 ≤ a) (h2 : a ≠ 76) : (popS x j c).1 a = x.1 a := by
  show u2 (cpA (wI x 76 1 (nI j)) 1 (16 + 15 * j)).1 76 0 _ a = _
  rw [u2_ne h2, cpA_o1 _ _ _ _ (Or.inr h1)]
  exact u2_ne h2
theorem pop_o2 {x : Hp} {j c a : Nat} (h1 : 16 ≤ a) : (popS x j c).2.1 a = x.2.1 a := cpA_o2 _ _ _ _ (Or.inr h1)
theorem op_undo (hfl : Y.1.stackTraces = false) (hI : INVW x n ne i c) : OPG Y mX6_undo mX7_undo [] x ∨ OPB Y mX6_undo mX7_undo [] x ISE 1 (.int 0) := by
  obtain ⟨u1, u2', u3, u4⟩ := hI.2.1
  rcases Nat.eq_zero_or_pos c with h0 | h0
  · subst h0
    exact Or.inr (op_ref hI (t_undo1 Y hfl x u4) (fun x2 hm hS => b_undo Y x2 ((congrFun (congrFun hm.1 83) 5).trans hI.2.2.1)))
  · obtain ⟨j, hj⟩ : ∃ j, j = (i + 3) % 4 := ⟨_, rfl⟩
    have hj4 : j < 4 := by omega
    have hji : (j + 1) % 4 = i := by omega
    obtain ⟨c2, rfl⟩ : ∃ c2, c = c2 + 1 := ⟨c - 1, by omega⟩
    refine Or.inl ⟨_, f_undo Y x j (c2 + 1) hj4 h0 u2' (by rw [hji]; exact u3) u4, ?_⟩
    rintro rr y ⟨rfl, rfl⟩
    refine ⟨_, rfl, vok_i, fun x2 hm => ?_⟩
    have x83 : x2.1 83 = x.1 83 := (congrFun hm.1 83).trans (pop_o1 (by decide) (by decide))
    have x86 : x2.1 86 = x.1 86 := (congrFun hm.1 86).trans (pop_o1 (by decide) (by decide))
    have x87 : x2.2.1 87 = x.2.1 87 := (hm.2 87 (by decide)).trans (pop_o2 (by decide))
    refine ⟨_, r_undo Y x2 c2 (by omega) (by rw [x83]; exact hI.2.2.1), fun r2 z hz => ?_⟩
    obtain ⟨rfl, q1, q2, q3, q4, q5, q6⟩ := hz
    have z1 : ∀ a, a ≤ 82 ∨ a = 86 → z.1 a = (popS x j (c2 + 1)).1 a := fun a ha => (q1.1 a (fun q => by simp at q; omega)).trans (congrFun hm.1 a)
    have z2 : ∀ a, a ≤ 82 ∨ a = 87 → z.2.1 a = (popS x j (c2 + 1)).2.1 a := fun a ha => (q1.2.1 a (fun q => by simp at q; omega)).trans (hm.2 a (by omega))
    obtain ⟨n2, ne2, hst⟩ := hI.2.2.2 c2 (by omega)
    have hs : slt i (c2 + 1) c2 = 16 + 15 * j := by
      unfold slt
      rw [hj, show (i + 4 - (c2 + 1) + c2) % 4 = (i + 3) % 4 by omega]
    rw [hs] at hst
    have e := EQ_pop x j (c2 + 1) hj4
    have e2 : EQG (popS x j (c2 + 1)) z := EQG_of (fun a ha => ⟨z1 a (by omega), z2 a (by omega)⟩)
    refine ⟨rfl, q3, q1.2.2, q1.2.1 95 (by decide), n2, ne2, j, c2, STR_cg (STR_cg hst e (EQR_of (r := rvk x c2) (s := rvk x c2) rfl rfl)) e2 ⟨fun k hk => ?_, fun k hk => ?_⟩, ⟨hj4, by omega, ?_, ?_⟩, q4, fun l hl => ?_⟩
    · rw [q5 k hk, x86]; rfl
    · rw [q6 k hk, x87]; rfl
    · rw [z1 76 (by omega)]; rfl
    · rw [z1 76 (by omega)]; rfl
    · obtain ⟨n3, ne3, hl2⟩ := hI.2.2.2 l (by omega)
      have hs2 : slt j c2 l = slt i (c2 + 1) l := by
        unfold slt
        rw [hj, show ((i + 3) % 4 + 4 - c2 + l) % 4 = (i + 4 - (c2 + 1) + l) % 4 by omega]
      have hm4 : (i + 4 - (c2 + 1) + l) % 4 < 4 := Nat.mod_lt _ (by decide)
      refine ⟨n3, ne3, STR_cg hl2 ?_ ⟨fun k hk => ?_, fun k hk => ?_⟩⟩
      · rw [hs2]
        refine EQG_cv (fun a p q => ?_)
        unfold slt at p q
        exact ⟨(z1 a (by omega)).trans (pop_o1 (by omega) (by omega)), (z2 a (by omega)).trans (pop_o2 (by omega))⟩
      · show z.1 86 _ = x.1 86 _
        rw [z1 86 (by omega), pop_o1 (by decide) (by decide)]
      · show z.2.1 87 _ = x.2.1 87 _
        rw [z2 87 (by omega), pop_o2 (by decide)]
theorem op_simulate (hfl : Y.1.stackTraces = false) (hI : INVW x n ne i c) (v p : Int32) (d : UInt64) : OPG Y mX6_simulate mX7_simulate [.int v, .int p, .double d] x ∨ OPB Y mX6_simulate mX7_simulate [.int v, .int p, .double d] x IAE 1 (.int 0) := by
  have h12 := hI.1.1.1.1
  by_cases h : 0 ≤ v ∧ v ≤ nI n - 1
  · obtain ⟨k, hk, rfl⟩ := nI_rng (by omega) h
    by_cases hp : 0 ≤ p ∧ p ≤ 100
    · obtain ⟨q, -, hq, rfl⟩ := nI_rg (v := p) (lo := 0) (hi := 100) (by decide) (by decide) hp
      by_cases hd : inD d 4562254508917369340 4696837146684686336
      · have p1 : ∀ a, a ≤ 15 → (pushS x i c).1 a = x.1 a := fun a ha => push_o1 hI.2.1.1 (Or.inl (by omega))
        have p2 : ∀ a, a ≤ 15 → (pushS x i c).2.1 a = x.2.1 a := fun a ha => push_o2 hI.2.1.1 (Or.inl (by omega))
        have hC := hI.1.1
        have hcur := zc_curB hC.1 hk hq
        have hdz := zi_dur hd
        have hbk := hC.2.2.1 k hk
        have hbn : ∀ j, j < 12 → bS (x.1 4 k) j → j < n := fun j hj hb => by
          rcases Nat.lt_or_ge j n with z | z
          · exact z
          · rw [bS_iff hj, hbk.2.2.1 j z] at hb; cases hb
        refine Or.inl (op_push hI (f_simulate Y x i c n k q d hI.2.1 (st_LN hI.1 hk) hq hd (zc_curOK hC.1 hk hq) _ (zs_tmQ hC.1 hbn hcur hdz)) ?_)
        rintro rr y ⟨rfl, K0, hK0, y6, yE, ycl, yj, yf⟩
        obtain ⟨RES, hRES⟩ : ∃ RES, RES = runC (x.1 4 k) (x.1 7 5) (x.1 12) (fun r => tfS x r (curS x k (nI q))) d 37 0 (x.1 7 6) K0 [] 0 := ⟨_, rfl⟩
        rw [← hRES] at y6 yE ycl
        obtain ⟨t1, t2, t3⟩ : M12 RES.1 n ∧ tvE RES.2.1 ∧ tvC RES.2.2 := by
          rw [hRES]
          exact tv_run hC.1 hbn hcur hdz 37 0 (x.1 7 6) K0 [] 0 (by decide +kernel) hC.2.2.2.2.2 (fun _ _ h => by cases h) (Or.inl rfl)
        have e : ∀ a, a ≤ 15 → a ≠ 7 → a ≠ 13 → a ≠ 14 → a ≠ 15 → y.1 a = x.1 a := fun a h0 h1 h2 h3 h4 => (yf.1 a (fun z => by simp at z; omega)).trans (p1 a h0)
        have ed : ∀ a, a ≤ 15 → a ≠ 7 → a ≠ 13 → a ≠ 14 → a ≠ 15 → y.2.1 a = x.2.1 a := fun a h0 h1 h2 h3 h4 => (yf.2.1 a (fun z => by simp at z; omega)).trans (p2 a h0)
        refine ⟨_, n, RES.2.1.length, rfl, vok_i, fr_mono yf (by decide), fun x2 hm h5 hS => ⟨_, r_simulate Y x x2 c n k q (x.1 7 6) d hI.2.1.2.1 h5 hS.2.2.1 (zc_RG1 hC.1) hk hq hd (zc_curOK hC.1 hk hq) hS.2.2.2.1 (fun r hr => (st_LR hI.1 hr).2.2.2.2.2) (fun om => sb_opB hC hk) (zs_smOK hC.1 (fun j hj => sb_fb hC j (by omega)) hk hbk.2.2.2 hcur hdz), ?_⟩⟩
        rintro r2 w z w84 w85 ⟨K1, hK1, rfl, z8, zE, zcl, zf⟩
        have hRR : runC (x.1 4 k) (x.1 7 5) (x.1 12) (fun r => tfS x r (curS x k (nI q))) d 37 0 (x.1 7 6) K1 [] 0 = RES := by
          rw [hRES]
          exact runC_cg (fun j hj => by rw [hK1 j hj, hK0 j hj])
        rw [hRR] at z8 zE zcl
        have y75 : y.1 7 5 = x.1 7 5 := yj 5 (by decide)
        have yat : ∀ j, j < RES.2.1.length → ∃ c t, RES.2.1[j]? = some (c, t) ∧ y.1 14 j = c ∧ y.2.1 15 j = t ∧ z.1 84 (110 + j) = c ∧ z.2.1 85 (16 + j) = t := fun j hj => by
          obtain ⟨ct, hct⟩ : ∃ ct, RES.2.1[j]? = some ct := ⟨_, List.getElem?_eq_getElem hj⟩
          obtain ⟨cc, tt⟩ := ct
          exact ⟨cc, tt, hct, (yE.2.2 j cc tt hct).1, (yE.2.2 j cc tt hct).2, (zE.2.2 j cc tt hct).1, (zE.2.2 j cc tt hct).2⟩
        refine ⟨by rw [zE.1, yE.1], fr_mono zf.1 (by decide), zf.2.1 5 (by decide) (by decide) (by decide), zf.2.1 0 (by decide) (by decide) (by decide), STR_sim hI.1 (fun a h1 => e a (by omega) (by omega) (by omega) (by omega) (by omega)) (fun a h1 => ed a (by omega) (by omega) (by omega) (by omega) (by omega)) (by rw [y75]; exact hC.2.2.2.2.1) (by rw [y6]; exact t1) (fun j h1 h2 h3 => ?_) (fun j h1 h2 => ?_) (fun j hj => ?_) (fun j hj => by rw [y6]; exact z8 j hj) ⟨yE.2.1, yE.1, fun j hj => ?_, by rw [ycl]; exact t3⟩ ⟨yE.2.1, yE.1, zE.1, fun j hj => ?_, by rw [zcl, ycl]⟩⟩
        · rw [zf.2.2.1 j h1 h2 (fun l => (h3 l).2), w84]
        · rw [zf.2.2.2 j h1 h2, w85]
        · rw [zf.2.2.1 _ (by omega) (by omega) (fun l z => by omega), w84, y75]
          exact (hI.1.2.2.1.2.2.2.2.2 j hj).2.2.2.2.2.2
        · obtain ⟨cc, tt, a1, a2, a3, -, -⟩ := yat j hj
          rw [a3]; exact t2 cc tt (List.mem_of_getElem? a1)
        · obtain ⟨cc, tt, a1, a2, a3, a4, a5⟩ := yat j hj
          rw [a4, a2, a5, a3]; exact ⟨rfl, rfl⟩
      · exact Or.inr (op_ref hI (t_simulate3 Y hfl x n k (st_LN hI.1 hk) q hq d hd) (fun x2 hm hS => b_simulate Y x2 _ _ d (fun z => hd z.2)))
    · exact Or.inr (op_ref hI (t_simulate2 Y hfl x n k (st_LN hI.1 hk) p d hp) (fun x2 hm hS => b_simulate Y x2 _ p d (fun z => hp z.1.2)))
  · exact Or.inr (op_ref hI (t_simulate1 Y hfl x v (by rw [hI.1.1.2.1]; exact h) p d) (fun x2 hm hS => b_simulate Y x2 v p d (by rw [st_84 hS]; exact fun z => h z.1.1)))
end
