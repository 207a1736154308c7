/-! currents, times, margins -/
def fbN (x : Hp) (k : Nat) : Nat := (x.1 3 k).toNatClampNeg
def bitS (m : Int32) (j : Nat) : Prop := ¬ (m >>> (nI j &&& 31)) &&& 1 = 0
/-- the impedance up to the first j lines of the path -/
def caS (x : Hp) (k : Nat) : Nat → UInt64
  | 0 => x.2.1 2 1
  | j + 1 => if (x.1 4 k >>> (nI j &&& 31)) &&& 1 = 0 then caS x k j else FP.dadd (caS x k j) (x.2.1 5 j)
def zS (x : Hp) (k : Nat) (p : Int32) : UInt64 := FP.dadd (caS x k k) (FP.ddiv (FP.dmul (x.2.1 5 k) (FP.i2d p)) 4636737291354636288)
def curS (x : Hp) (k : Nat) (p : Int32) : UInt64 := FP.ddiv (x.2.1 2 0) (zS x k p)
def curOK (x : Hp) (k : Nat) (p : Int32) : Prop := (∀ j, j < k → ¬ (x.1 4 k >>> (nI j &&& 31)) &&& 1 = 0 → vf_n64 (FP.dadd (caS x k j) (x.2.1 5 j))) ∧ vf_n64 (FP.dmul (x.2.1 5 k) (FP.i2d p)) ∧ vf_n64 (FP.ddiv (FP.dmul (x.2.1 5 k) (FP.i2d p)) 4636737291354636288) ∧ vf_n64 (zS x k p) ∧ vf_n64 (curS x k p)
theorem c_currentAt (Y : Kx) (x : Hp) (k : Nat) (p : Int32) (hk : k < 12) (ok : curOK x k p) : sM Y mX1_currentAt [.ref 2, .int (nI k), .int p] x (some (.double (curS x k p))) x := by
  refine sM_of (by decide +kernel) (Nat.le_of_ble_eq_true rfl) (fun X h hY hR => ?_)
  have hT := kX1_currentAt h
  obtain ⟨o1, o2, o3, o4, o5⟩ := ok
  have K : ∀ d j, d + j = k → SW X mX1_currentAt 8 [(5, .int (nI j)), (3, .double (caS x k j)), (0, .ref 2), (1, .int (nI k)), (2, .int p)] [] x := by
    intro d
    induction d with
    | zero =>
      intro j hj
      have hjk : j = k := by omega
      subst hjk
      repeat (refine sw_s hT rfl rfl ?_)
      refine sw_b hT rfl rfl (fun _ => ?_) (fun c => absurd ((Int32.le_refl _)) c)
      repeat (refine sw_s hT rfl rfl ?_)
      refine sw_dald hT rfl rfl (in12 hk) ?_
      rw [cl12 hk]
      repeat (refine sw_s hT rfl rfl ?_)
      refine sw_dmul hT rfl (o2) ?_
      repeat (refine sw_s hT rfl rfl ?_)
      refine sw_ddiv hT rfl (o3) ?_
      refine sw_dadd hT rfl (o4) ?_
      repeat (refine sw_s hT rfl rfl ?_)
      refine sw_ddiv hT rfl (o5) ?_
      exact sw_dret hT rfl rfl (hR)
    | succ d ih =>
      intro j hj
      have hj12 : j < 12 := by omega
      repeat (refine sw_s hT rfl rfl ?_)
      refine sw_b hT rfl rfl (fun c => absurd c ((nI_ge (by omega) (by omega)))) (fun _ => ?_)
      repeat (refine sw_s hT rfl rfl ?_)
      refine sw_iald hT rfl rfl (in12 hk) ?_
      rw [cl12 hk]
      repeat (refine sw_s hT rfl rfl ?_)
      have hl : caS x k (j + 1) = if (x.1 4 k >>> (nI j &&& 31)) &&& 1 = 0 then caS x k j else FP.dadd (caS x k j) (x.2.1 5 j) := rfl
      have q := ih (j + 1) (by omega)
      rw [hl, ← nI_1] at q
      refine sw_b hT rfl rfl (fun c2 => ?_) (fun c2 => ?_)
      · rw [if_pos c2] at q
        refine sw_s hT rfl rfl ?_
        repeat (first | exact (sw_pick [0, 1, 2, 3, 4] rfl q) | refine sw_s hT rfl rfl ?_)
      · rw [if_neg c2] at q
        repeat (refine sw_s hT rfl rfl ?_)
        refine sw_dald hT rfl rfl (in12 hj12) ?_
        rw [cl12 hj12]
        refine sw_dadd hT rfl (o1 j (by omega) c2) ?_
        repeat (first | exact (sw_pick [0, 1, 2, 3, 4] rfl q) | refine sw_s hT rfl rfl ?_)
  repeat (first | exact (K k 0 (by omega)) | refine sw_s hT rfl rfl ?_)
/-- the delayed time -/
def dlS (c : Int32) (b m : UInt64) : UInt64 := if c = 1 then FP.ddiv (FP.dmul b 4623789442425946112) (FP.dsub m 4607182418800017408) else if c = 2 then FP.ddiv (FP.dmul b 4635329916471083008) (FP.dsub (FP.dmul m m) 4607182418800017408) else if c = 3 then FP.ddiv (FP.dmul b 4638144666238189568) (FP.dsub m 4607182418800017408) else b
def dlOK (c : Int32) (b m : UInt64) : Prop := (c = 1 → vf_n64 (FP.dmul b 4623789442425946112) ∧ vf_n64 (FP.dsub m 4607182418800017408)) ∧ (c = 2 → vf_n64 (FP.dmul b 4635329916471083008) ∧ vf_n64 (FP.dmul m m) ∧ vf_n64 (FP.dsub (FP.dmul m m) 4607182418800017408)) ∧ (c = 3 → vf_n64 (FP.dmul b 4638144666238189568) ∧ vf_n64 (FP.dsub m 4607182418800017408)) ∧ vf_n64 (dlS c b m)
theorem i32_of {c v : Int32} (h : c.toInt = v.toInt) : c = v := Int32.toInt_inj.mp h
theorem c_delayedTime (Y : Kx) (x : Hp) (c : Int32) (b m : UInt64) (ok : dlOK c b m) : sM Y mX2_delayedTime [.int c, .double b, .double m] x (some (.double (dlS c b m))) x := by
  refine sM_of (by decide +kernel) (Nat.le_of_ble_eq_true rfl) (fun X h hY hR => ?_)
  have hT := kX2_delayedTime h
  obtain ⟨o1, o2, o3, o4⟩ := ok
  unfold dlS at hR o4
  repeat (refine sw_s hT rfl rfl ?_)
  refine sw_tsw hT rfl (fun j q hv hq => ?_) (fun hv => ?_)
  · match j, hq with
    | 0, hq =>
      cases hq
      have hc : c = 1 := i32_of hv
      rw [if_pos hc] at hR o4
      repeat (refine sw_s hT rfl rfl ?_)
      refine sw_dmul hT rfl ((o1 hc).1) ?_
      repeat (refine sw_s hT rfl rfl ?_)
      refine sw_dsub hT rfl ((o1 hc).2) ?_
      refine sw_ddiv hT rfl (o4) ?_
      exact sw_dret hT rfl rfl (hR)
    | 1, hq =>
      cases hq
      have hc : c = 2 := i32_of hv
      rw [if_neg (by rw [hc]; decide), if_pos hc] at hR o4
      repeat (refine sw_s hT rfl rfl ?_)
      refine sw_dmul hT rfl ((o2 hc).1) ?_
      repeat (refine sw_s hT rfl rfl ?_)
      refine sw_dmul hT rfl ((o2 hc).2.1) ?_
      repeat (refine sw_s hT rfl rfl ?_)
      refine sw_dsub hT rfl ((o2 hc).2.2) ?_
      refine sw_ddiv hT rfl (o4) ?_
      exact sw_dret hT rfl rfl (hR)
    | 2, hq =>
      cases hq
      have hc : c = 3 := i32_of hv
      rw [if_neg (by rw [hc]; decide), if_neg (by rw [hc]; decide), if_pos hc] at hR o4
      repeat (refine sw_s hT rfl rfl ?_)
      refine sw_dmul hT rfl ((o3 hc).1) ?_
      repeat (refine sw_s hT rfl rfl ?_)
      refine sw_dsub hT rfl ((o3 hc).2) ?_
      refine sw_ddiv hT rfl (o4) ?_
      exact sw_dret hT rfl rfl (hR)
    | j + 3, hq => cases hq
  · have h1 : ¬ c = 1 := fun h => by rw [h] at hv; revert hv; decide
    have h2 : ¬ c = 2 := fun h => by rw [h] at hv; revert hv; decide
    have h3 : ¬ c = 3 := fun h => by rw [h] at hv; revert hv; decide
    rw [if_neg h1, if_neg h2, if_neg h3] at hR
    repeat (refine sw_s hT rfl rfl ?_)
    exact sw_dret hT rfl rfl (hR)
def cml (a b : UInt64) : Int32 := Op.cmpValue (FP.dcmp a b) .l
def cmg (a b : UInt64) : Int32 := Op.cmpValue (FP.dcmp a b) .g
def tm2 (p c s : Int32) (cur : UInt64) : UInt64 := if 0 < cml (FP.ddiv cur (FP.i2d p)) 4607182418800017408 then dlS c (FP.dmul 4587366580439587226 (FP.i2d s)) (FP.ddiv cur (FP.i2d p)) else 9218868437227405312
/-- a relay's operating time -/
def tmS (i p c s : Int32) (cur : UInt64) : UInt64 := if i = 0 then tm2 p c s cur else if cml cur (FP.i2d i) < 0 then tm2 p c s cur else 4585925428558828667
def tmOK (p c s : Int32) (cur : UInt64) : Prop := vf_n64 (FP.ddiv cur (FP.i2d p)) ∧ (0 < cml (FP.ddiv cur (FP.i2d p)) 4607182418800017408 → vf_n64 (FP.dmul 4587366580439587226 (FP.i2d s)) ∧ dlOK c (FP.dmul 4587366580439587226 (FP.i2d s)) (FP.ddiv cur (FP.i2d p)))
def tfS (x : Hp) (k : Nat) (cur : UInt64) : UInt64 := tmS (x.1 11 k) (x.1 8 k) (x.1 9 k) (x.1 10 k) cur
def tfOK (x : Hp) (k : Nat) (cur : UInt64) : Prop := tmOK (x.1 8 k) (x.1 9 k) (x.1 10 k) cur
theorem c_timeFor (Y : Kx) (x : Hp) (k : Nat) (cur : UInt64) (hk : k < 12) (ok : tfOK x k cur) : sM Y mX2_timeFor [.ref 7, .int (nI k), .double cur] x (some (.double (tfS x k cur))) x := by
  refine sM_of (by decide +kernel) (Nat.le_of_ble_eq_true rfl) (fun X h hY hR => ?_)
  have hT := kX2_timeFor h
  obtain ⟨o1, o2⟩ := ok
  unfold tfS tmS at hR
  have tail : retOK X (some (.double (tm2 (x.1 8 k) (x.1 9 k) (x.1 10 k) cur))) x → SW X mX2_timeFor 25 [(0, .ref 7), (1, .int (nI k)), (2, .double cur)] [] x := by
    intro hR
    unfold tm2 at hR
    repeat (refine sw_s hT rfl rfl ?_)
    refine sw_iald hT rfl rfl (in12 hk) ?_
    rw [cl12 hk]
    repeat (refine sw_s hT rfl rfl ?_)
    refine sw_ddiv hT rfl (o1) ?_
    repeat (refine sw_s hT rfl rfl ?_)
    refine sw_b hT rfl rfl (fun c1 => ?_) (fun c1 => ?_)
    · obtain ⟨o3, o4⟩ := o2 c1
      rw [if_pos (show 0 < cml (FP.ddiv cur (FP.i2d (x.1 8 k))) 4607182418800017408 from c1)] at hR
      repeat (refine sw_s hT rfl rfl ?_)
      refine sw_iald hT rfl rfl (in12 hk) ?_
      rw [cl12 hk]
      repeat (refine sw_s hT rfl rfl ?_)
      refine sw_iald hT rfl rfl (in12 hk) ?_
      rw [cl12 hk]
      repeat (refine sw_s hT rfl rfl ?_)
      refine sw_dmul hT rfl (o3) ?_
      repeat (refine sw_s hT rfl rfl ?_)
      refine sw_cs hT rfl (c_delayedTime _ x _ _ _ o4) rfl rfl (Nat.le_of_ble_eq_true rfl) ?_
      exact sw_dret hT rfl rfl (hR)
    · rw [if_neg (show ¬ 0 < cml (FP.ddiv cur (FP.i2d (x.1 8 k))) 4607182418800017408 from c1)] at hR
      repeat (refine sw_s hT rfl rfl ?_)
      refine sw_cs hT rfl (c_infinity _ x) rfl rfl (Nat.le_of_ble_eq_true rfl) ?_
      exact sw_dret hT rfl rfl (hR)
  repeat (refine sw_s hT rfl rfl ?_)
  refine sw_iald hT rfl rfl (in12 hk) ?_
  rw [cl12 hk]
  refine sw_b hT rfl rfl (fun c1 => ?_) (fun c1 => ?_)
  · rw [if_pos c1] at hR
    exact tail hR
  · rw [if_neg c1] at hR
    repeat (refine sw_s hT rfl rfl ?_)
    refine sw_iald hT rfl rfl (in12 hk) ?_
    rw [cl12 hk]
    repeat (refine sw_s hT rfl rfl ?_)
    refine sw_b hT rfl rfl (fun c2 => ?_) (fun c2 => ?_)
    · rw [if_pos (show cml cur (FP.i2d (x.1 11 k)) < 0 from c2)] at hR
      exact tail hR
    · rw [if_neg (show ¬ cml cur (FP.i2d (x.1 11 k)) < 0 from c2)] at hR
      repeat (refine sw_s hT rfl rfl ?_)
      exact sw_dret hT rfl rfl (hR)
/-- the numbers that the grading makes are numbers -/
def NOK (x : Hp) (n : Nat) : Prop := ∀ k, k < n → ∀ p : Nat, p ≤ 100 → curOK x k (nI p) ∧ (∀ j, j < n → tfOK x j (curS x k (nI p))) ∧ ∀ i j, i < n → j < n → cml (tfS x i (curS x k (nI p))) 9218868437227405312 < 0 → vf_n64 (FP.dsub (tfS x i (curS x k (nI p))) (tfS x j (curS x k (nI p))))
def INV (x : Hp) (n : Nat) : Prop := n ≤ 12 ∧ x.1 2 2 = nI n ∧ (∀ k, k < n → x.1 3 k = nI (fbN x k) ∧ fbN x k ≤ k) ∧ NOK x n
def mgS (x : Hp) (k u : Nat) (p : Int32) : UInt64 := if cml (tfS x u (curS x k p)) 9218868437227405312 < 0 then FP.dsub (tfS x u (curS x k p)) (tfS x k (curS x k p)) else 9218868437227405312
theorem c_lineB0 (Y : Kx) (x : Hp) (k : Nat) (hk : k < 12) (h : x.1 3 k = nI (fbN x k)) (h0 : fbN x k = 0) : sM Y mX1_lineBefore [.ref 2, .int (nI k)] x (some (.int (-1))) x := by
  have c := c_lineBefore Y x k hk
  rw [if_pos (by rw [h, h0]; rfl)] at c
  exact c
theorem c_lineB1 (Y : Kx) (x : Hp) (k u : Nat) (hk : k < 12) (h : x.1 3 k = nI (fbN x k)) (h0 : fbN x k = u + 1) (hu : u < 12) : sM Y mX1_lineBefore [.ref 2, .int (nI k)] x (some (.int (nI u))) x := by
  have c := c_lineBefore Y x k hk
  rw [if_neg (by rw [h, h0]; exact nI_ne0 (by omega) (by omega)), h, h0, nI_pred] at c
  exact c
theorem c_marginAt (Y : Kx) (x : Hp) (n k u p : Nat) (hI : INV x n) (hk : k < n) (hu : fbN x k = u + 1) (hp : p ≤ 100) : sM Y mX4_marginAt [.ref 1, .int (nI k), .int (nI p)] x (some (.double (mgS x k u (nI p)))) x := by
  refine sM_of (by decide +kernel) (Nat.le_of_ble_eq_true rfl) (fun X h hY hR => ?_)
  have hT := kX4_marginAt h
  obtain ⟨h12, hn, hf, hN⟩ := hI
  obtain ⟨f1, f2⟩ := hf k hk
  obtain ⟨n1, n2, n3⟩ := hN k hk p hp
  unfold mgS at hR
  repeat (refine sw_s hT rfl rfl ?_)
  refine sw_cv hT rfl (c_currentAt _ x k (nI p) (by omega) n1) rfl rfl rfl rfl (Nat.le_of_ble_eq_true rfl) ?_
  repeat (refine sw_s hT rfl rfl ?_)
  refine sw_cv hT rfl (c_lineB1 _ x k u (by omega) f1 hu (by omega)) rfl rfl rfl rfl (Nat.le_of_ble_eq_true rfl) ?_
  repeat (refine sw_s hT rfl rfl ?_)
  refine sw_cv hT rfl (c_timeFor _ x u _ (by omega) (n2 u (by omega))) rfl rfl rfl rfl (Nat.le_of_ble_eq_true rfl) ?_
  repeat (refine sw_s hT rfl rfl ?_)
  refine sw_cs hT rfl (c_infinity _ x) rfl rfl (Nat.le_of_ble_eq_true rfl) ?_
  repeat (refine sw_s hT rfl rfl ?_)
  refine sw_b hT rfl rfl (fun c1 => ?_) (fun c1 => ?_)
  · rw [if_pos (show cml (tfS x u (curS x k (nI p))) 9218868437227405312 < 0 from c1)] at hR
    repeat (refine sw_s hT rfl rfl ?_)
    refine sw_cv hT rfl (c_timeFor _ x k _ (by omega) (n2 k hk)) rfl rfl rfl rfl (Nat.le_of_ble_eq_true rfl) ?_
    refine sw_dsub hT rfl (n3 u k (by omega) hk c1) ?_
    exact sw_dret hT rfl rfl (hR)
  · rw [if_neg (show ¬ cml (tfS x u (curS x k (nI p))) 9218868437227405312 < 0 from c1)] at hR
    repeat (refine sw_s hT rfl rfl ?_)
    refine sw_cs hT rfl (c_infinity _ x) rfl rfl (Nat.le_of_ble_eq_true rfl) ?_
    exact sw_dret hT rfl rfl (hR)
/-- the worst margin -/
def woS (x : Hp) (k : Nat) : UInt64 := match fbN x k with
  | 0 => 9218868437227405312
  | u + 1 => if cmg (mgS x k u (nI 100)) (mgS x k u (nI 0)) < 0 then mgS x k u (nI 100) else mgS x k u (nI 0)
theorem c_worstMargin (Y : Kx) (x : Hp) (n k : Nat) (hI : INV x n) (hk : k < n) : sM Y mX4_worstMargin [.ref 1, .int (nI k)] x (some (.double (woS x k))) x := by
  refine sM_of (by decide +kernel) (Nat.le_of_ble_eq_true rfl) (fun X h hY hR => ?_)
  have hT := kX4_worstMargin h
  have hI2 := hI
  obtain ⟨h12, hn, hf, hN⟩ := hI2
  obtain ⟨f1, f2⟩ := hf k hk
  unfold woS at hR
  repeat (refine sw_s hT rfl rfl ?_)
  cases hu : fbN x k with
  | zero =>
    rw [hu] at hR
    refine sw_cv hT rfl (c_lineB0 _ x k (by omega) f1 hu) rfl rfl rfl rfl (Nat.le_of_ble_eq_true rfl) ?_
    repeat (refine sw_s hT rfl rfl ?_)
    refine sw_b hT rfl rfl (fun _ => ?_) (fun c => absurd ((rfl : (-1 : Int32) = -1)) c)
    refine sw_cs hT rfl (c_infinity _ x) rfl rfl (Nat.le_of_ble_eq_true rfl) ?_
    exact sw_dret hT rfl rfl (hR)
  | succ u =>
    rw [hu] at hR
    dsimp only at hR
    refine sw_cv hT rfl (c_lineB1 _ x k u (by omega) f1 hu (by omega)) rfl rfl rfl rfl (Nat.le_of_ble_eq_true rfl) ?_
    repeat (refine sw_s hT rfl rfl ?_)
    refine sw_b hT rfl rfl (fun c => absurd c ?_) (fun _ => ?_)
    · intro c
      have := nI_pos' (n := u) (by omega)
      rw [c] at this
      exact absurd this (by decide)
    repeat (refine sw_s hT rfl rfl ?_)
    refine sw_cv hT rfl (c_marginAt _ x n k u 0 hI hk hu (by omega)) rfl rfl rfl rfl (Nat.le_of_ble_eq_true rfl) ?_
    repeat (refine sw_s hT rfl rfl ?_)
    refine sw_cv hT rfl (c_marginAt _ x n k u 100 hI hk hu (by omega)) rfl rfl rfl rfl (Nat.le_of_ble_eq_true rfl) ?_
    repeat (refine sw_s hT rfl rfl ?_)
    refine sw_b hT rfl rfl (fun c1 => ?_) (fun c1 => ?_)
    · rw [if_neg (show ¬ cmg (mgS x k u (nI 100)) (mgS x k u (nI 0)) < 0 from Int32.not_lt.mpr c1)] at hR
      repeat (refine sw_s hT rfl rfl ?_)
      exact sw_dret hT rfl rfl (hR)
    · rw [if_pos (show cmg (mgS x k u (nI 100)) (mgS x k u (nI 0)) < 0 from Int32.not_le.mp c1)] at hR
      repeat (refine sw_s hT rfl rfl ?_)
      exact sw_dret hT rfl rfl (hR)
