/-! the checksum -/
def mxS (h v : Int64) : Int64 := 31 * h + v
def lnS (x : Hp) (k : Nat) (h : Int64) : Int64 :=
  mxS (mxS (mxS (mxS (mxS (mxS (mxS (mxS (mxS (mxS h (x.1 3 k).toInt64) (bitS2 (x.2.1 5 k))) (x.1 6 k).toInt64) (x.1 8 k).toInt64) (x.1 9 k).toInt64) (x.1 10 k).toInt64) (x.1 11 k).toInt64) (x.1 12 k).toInt64) (if (x.1 7 5 >>> (nI k &&& 31)) &&& 1 = 0 then 0 else 1)) (bitS2 (curS x k (nI 100)))
theorem c_mixedLine (Y : Kx) (x : Hp) (k : Nat) (h0 : Int64) (hk : k < 12) (ok1 : curOK x k (nI 100)) (ok2 : bitOK (x.2.1 5 k)) (ok3 : bitOK (curS x k (nI 100))) : sM Y mX6_mixedLine [.ref 0, .long h0, .int (nI k)] x (some (.long (lnS x k h0))) x := by
  refine sM_of (by decide +kernel) (Nat.le_of_ble_eq_true rfl) (fun X h hY hR => ?_)
  have hT := kX6_mixedLine h
  unfold lnS mxS at hR
  repeat (refine sw_s hT rfl rfl ?_)
  refine sw_iald hT rfl rfl (in12 hk) ?_
  rw [cl12 hk]
  repeat (refine sw_s hT rfl rfl ?_)
  refine sw_cs hT rfl (c_mixed _ x _ _) rfl rfl (Nat.le_of_ble_eq_true rfl) ?_
  repeat (refine sw_s hT rfl rfl ?_)
  refine sw_dald hT rfl rfl (in12 hk) ?_
  rw [cl12 hk]
  refine sw_cs hT rfl (c_bitsOf _ x _ ok2) rfl rfl (Nat.le_of_ble_eq_true rfl) ?_
  refine sw_cs hT rfl (c_mixed _ x _ _) rfl rfl (Nat.le_of_ble_eq_true rfl) ?_
  repeat (refine sw_s hT rfl rfl ?_)
  refine sw_iald hT rfl rfl (in12 hk) ?_
  rw [cl12 hk]
  repeat (refine sw_s hT rfl rfl ?_)
  refine sw_cs hT rfl (c_mixed _ x _ _) rfl rfl (Nat.le_of_ble_eq_true rfl) ?_
  repeat (refine sw_s hT rfl rfl ?_)
  refine sw_iald hT rfl rfl (in12 hk) ?_
  rw [cl12 hk]
  repeat (refine sw_s hT rfl rfl ?_)
  refine sw_cs hT rfl (c_mixed _ x _ _) rfl rfl (Nat.le_of_ble_eq_true rfl) ?_
  repeat (refine sw_s hT rfl rfl ?_)
  refine sw_iald hT rfl rfl (in12 hk) ?_
  rw [cl12 hk]
  repeat (refine sw_s hT rfl rfl ?_)
  refine sw_cs hT rfl (c_mixed _ x _ _) rfl rfl (Nat.le_of_ble_eq_true rfl) ?_
  repeat (refine sw_s hT rfl rfl ?_)
  refine sw_iald hT rfl rfl (in12 hk) ?_
  rw [cl12 hk]
  repeat (refine sw_s hT rfl rfl ?_)
  refine sw_cs hT rfl (c_mixed _ x _ _) rfl rfl (Nat.le_of_ble_eq_true rfl) ?_
  repeat (refine sw_s hT rfl rfl ?_)
  refine sw_iald hT rfl rfl (in12 hk) ?_
  rw [cl12 hk]
  repeat (refine sw_s hT rfl rfl ?_)
  refine sw_cs hT rfl (c_mixed _ x _ _) rfl rfl (Nat.le_of_ble_eq_true rfl) ?_
  repeat (refine sw_s hT rfl rfl ?_)
  refine sw_iald hT rfl rfl (in12 hk) ?_
  rw [cl12 hk]
  repeat (refine sw_s hT rfl rfl ?_)
  refine sw_cs hT rfl (c_mixed _ x _ _) rfl rfl (Nat.le_of_ble_eq_true rfl) ?_
  repeat (refine sw_s hT rfl rfl ?_)
  refine sw_cv hT rfl (c_isStuck _ x (nI k)) rfl rfl rfl rfl (Nat.le_of_ble_eq_true rfl) ?_
  have e100 : (100 : Int32) = nI 100 := by decide
  refine sw_b hT rfl rfl (fun c1 => ?_) (fun c1 => ?_)
  · have c2 : (x.1 7 5 >>> (nI k &&& 31)) &&& 1 = 0 := Decidable.byContradiction (bI_0.mp c1)
    rw [if_pos c2] at hR
    repeat (refine sw_s hT rfl rfl ?_)
    refine sw_cs hT rfl (c_mixed _ x _ _) rfl rfl (Nat.le_of_ble_eq_true rfl) ?_
    repeat (refine sw_s hT rfl rfl ?_)
    refine sw_cv hT rfl (c_currentAt _ x k 100 hk (by rw [e100]; exact ok1)) rfl rfl rfl rfl (Nat.le_of_ble_eq_true rfl) ?_
    refine sw_cs hT rfl (c_bitsOf _ x _ (by rw [e100]; exact ok3)) rfl rfl (Nat.le_of_ble_eq_true rfl) ?_
    refine sw_cs hT rfl (c_mixed _ x _ _) rfl rfl (Nat.le_of_ble_eq_true rfl) ?_
    rw [e100]
    exact sw_lret hT rfl rfl (hR)
  · have c2 : ¬ (x.1 7 5 >>> (nI k &&& 31)) &&& 1 = 0 := fun q => c1 (bI_0.mpr (fun h => h q))
    rw [if_neg c2] at hR
    repeat (refine sw_s hT rfl rfl ?_)
    refine sw_cs hT rfl (c_mixed _ x _ _) rfl rfl (Nat.le_of_ble_eq_true rfl) ?_
    repeat (refine sw_s hT rfl rfl ?_)
    refine sw_cv hT rfl (c_currentAt _ x k 100 hk (by rw [e100]; exact ok1)) rfl rfl rfl rfl (Nat.le_of_ble_eq_true rfl) ?_
    refine sw_cs hT rfl (c_bitsOf _ x _ (by rw [e100]; exact ok3)) rfl rfl (Nat.le_of_ble_eq_true rfl) ?_
    refine sw_cs hT rfl (c_mixed _ x _ _) rfl rfl (Nat.le_of_ble_eq_true rfl) ?_
    rw [e100]
    exact sw_lret hT rfl rfl (hR)
def evS (x : Hp) : Nat → Int64 → Int64
  | 0, h => mxS h (x.1 13 0).toInt64
  | j + 1, h => mxS (mxS (evS x j h) (x.1 14 j).toInt64) (bitS2 (x.2.1 15 j))
theorem c_mixedEvents (Y : Kx) (x : Hp) (n : Nat) (h0 : Int64) (hn : x.1 13 0 = nI n) (hn60 : n ≤ 60) (ok : ∀ j, j < n → bitOK (x.2.1 15 j)) (ok2 : bitOK (x.2.1 13 3)) : sM Y mX6_mixedEvents [.ref 0, .long h0] x (some (.long (mxS (evS x n h0) (bitS2 (x.2.1 13 3))))) x := by
  refine sM_of (by decide +kernel) (Nat.le_of_ble_eq_true rfl) (fun X h hY hR => ?_)
  have hT := kX6_mixedEvents h
  have K : ∀ d j, d + j = n → SW X mX6_mixedEvents 22 [(6, .int (nI j)), (4, .long (evS x j h0)), (3, .ref 13), (0, .ref 0), (1, .long h0)] [] x := by
    intro d
    induction d with
    | zero =>
      intro j hj
      have hjn : j = n := by omega
      subst hjn
      repeat (refine sw_s hT rfl rfl ?_)
      refine sw_b hT rfl rfl (fun _ => ?_) (fun c => absurd ((by show x.1 13 0 ≤ _; rw [hn]; exact Int32.le_refl _)) c)
      repeat (refine sw_s hT rfl rfl ?_)
      refine sw_cs hT rfl (c_bitsOf _ x _ ok2) rfl rfl (Nat.le_of_ble_eq_true rfl) ?_
      refine sw_cs hT rfl (c_mixed _ x _ _) rfl rfl (Nat.le_of_ble_eq_true rfl) ?_
      exact sw_lret hT rfl rfl (hR)
    | succ d ih =>
      intro j hj
      have hin : vp_in (nI j) 60 := vp_in_nI (by omega) (by decide)
      have hcl : (nI j).toNatClampNeg = j := nI_clamp (by omega)
      have k := ih (j + 1) (by omega)
      rw [← nI_1] at k
      repeat (refine sw_s hT rfl rfl ?_)
      refine sw_b hT rfl rfl (fun c => absurd c ((by show ¬ x.1 13 0 ≤ _; rw [hn]; exact nI_ge (by omega) (by omega)))) (fun _ => ?_)
      repeat (refine sw_s hT rfl rfl ?_)
      refine sw_iald hT rfl rfl (hin) ?_
      rw [hcl]
      repeat (refine sw_s hT rfl rfl ?_)
      refine sw_cs hT rfl (c_mixed _ x _ _) rfl rfl (Nat.le_of_ble_eq_true rfl) ?_
      repeat (refine sw_s hT rfl rfl ?_)
      refine sw_dald hT rfl rfl (hin) ?_
      rw [hcl]
      refine sw_cs hT rfl (c_bitsOf _ x _ (ok j (by omega))) rfl rfl (Nat.le_of_ble_eq_true rfl) ?_
      refine sw_cs hT rfl (c_mixed _ x _ _) rfl rfl (Nat.le_of_ble_eq_true rfl) ?_
      repeat (first | (refine sw_at (n := 22) rfl ?_; exact (sw_pick [0, 1, 2, 3, 4] rfl k)) | refine sw_s hT rfl rfl ?_)
  repeat (refine sw_s hT rfl rfl ?_)
  refine sw_cs hT rfl (c_mixed _ x _ _) rfl rfl (Nat.le_of_ble_eq_true rfl) ?_
  repeat (first | (refine sw_at (n := 22) rfl ?_; exact (K n 0 (by omega))) | refine sw_s hT rfl rfl ?_)
def dgL (x : Hp) : Nat → Int64 → Int64
  | 0, h => h
  | j + 1, h => lnS x j (dgL x j h)
def dgH (x : Hp) : Int64 := mxS (mxS (mxS (mxS (mxS 11901 (x.1 76 0).toInt64) (bitS2 (x.2.1 2 0))) (bitS2 (x.2.1 2 1))) (bitS2 (x.2.1 1 3))) (x.1 2 2).toInt64
def dgS (x : Hp) (n ne : Nat) : Int64 := mxS (evS x ne (mxS (mxS (dgL x n (dgH x)) (x.1 7 6).toInt64) (nI (cvS x n)).toInt64)) (bitS2 (x.2.1 13 3))
theorem c_digest (Y : Kx) (x : Hp) (n ne : Nat) (hI : INV x n) (ok0 : bitOK (x.2.1 2 0) ∧ bitOK (x.2.1 2 1) ∧ bitOK (x.2.1 1 3)) (ok1 : ∀ k, k < n → bitOK (x.2.1 5 k) ∧ bitOK (curS x k (nI 100))) (hn : x.1 13 0 = nI ne) (hn60 : ne ≤ 60) (ok : ∀ j, j < ne → bitOK (x.2.1 15 j)) (ok2 : bitOK (x.2.1 13 3)) : sM Y mX6_digest [.ref 0] x (some (.long (dgS x n ne))) x := by
  refine sM_of (by decide +kernel) (Nat.le_of_ble_eq_true rfl) (fun X h hY hR => ?_)
  have hT := kX6_digest h
  have h12 := hI.1
  have hL := hI.2.1
  have K : ∀ d j, d + j = n → SW X mX6_digest 84 [(3, .int (nI j)), (1, .long (dgL x j (dgH x))), (0, .ref 0)] [] x := by
    intro d
    induction d with
    | zero =>
      intro j hj
      have hjn : j = n := by omega
      subst hjn
      repeat (refine sw_s hT rfl rfl ?_)
      refine sw_b hT rfl rfl (fun _ => ?_) (fun c => absurd ((by show x.1 2 2 ≤ _; rw [hL]; exact Int32.le_refl _)) c)
      repeat (refine sw_s hT rfl rfl ?_)
      refine sw_cs hT rfl (c_mixed _ x _ _) rfl rfl (Nat.le_of_ble_eq_true rfl) ?_
      repeat (refine sw_s hT rfl rfl ?_)
      refine sw_cv hT rfl (c_countViolations _ x j hI) rfl rfl rfl rfl (Nat.le_of_ble_eq_true rfl) ?_
      repeat (refine sw_s hT rfl rfl ?_)
      refine sw_cs hT rfl (c_mixed _ x _ _) rfl rfl (Nat.le_of_ble_eq_true rfl) ?_
      repeat (refine sw_s hT rfl rfl ?_)
      refine sw_cv hT rfl (c_mixedEvents _ x ne _ hn hn60 ok ok2) rfl rfl rfl rfl (Nat.le_of_ble_eq_true rfl) ?_
      exact sw_lret hT rfl rfl (hR)
    | succ d ih =>
      intro j hj
      have k := ih (j + 1) (by omega)
      rw [← nI_1] at k
      repeat (refine sw_s hT rfl rfl ?_)
      refine sw_b hT rfl rfl (fun c => absurd c ((by show ¬ x.1 2 2 ≤ _; rw [hL]; exact nI_ge (by omega) (by omega)))) (fun _ => ?_)
      repeat (refine sw_s hT rfl rfl ?_)
      refine sw_cv hT rfl (c_mixedLine _ x j _ (by omega) (hI.2.2.2 j (by omega) 100 (by omega)).1 (ok1 j (by omega)).1 (ok1 j (by omega)).2) rfl rfl rfl rfl (Nat.le_of_ble_eq_true rfl) ?_
      repeat (first | (refine sw_at (n := 84) rfl ?_; exact (sw_pick [0, 1, 2] rfl k)) | refine sw_s hT rfl rfl ?_)
  repeat (refine sw_s hT rfl rfl ?_)
  refine sw_cs hT rfl (c_mixed _ x _ _) rfl rfl (Nat.le_of_ble_eq_true rfl) ?_
  repeat (refine sw_s hT rfl rfl ?_)
  refine sw_cs hT rfl (c_bitsOf _ x _ ok0.1) rfl rfl (Nat.le_of_ble_eq_true rfl) ?_
  refine sw_cs hT rfl (c_mixed _ x _ _) rfl rfl (Nat.le_of_ble_eq_true rfl) ?_
  repeat (refine sw_s hT rfl rfl ?_)
  refine sw_cs hT rfl (c_bitsOf _ x _ ok0.2.1) rfl rfl (Nat.le_of_ble_eq_true rfl) ?_
  refine sw_cs hT rfl (c_mixed _ x _ _) rfl rfl (Nat.le_of_ble_eq_true rfl) ?_
  repeat (refine sw_s hT rfl rfl ?_)
  refine sw_cs hT rfl (c_bitsOf _ x _ ok0.2.2) rfl rfl (Nat.le_of_ble_eq_true rfl) ?_
  refine sw_cs hT rfl (c_mixed _ x _ _) rfl rfl (Nat.le_of_ble_eq_true rfl) ?_
  repeat (refine sw_s hT rfl rfl ?_)
  refine sw_cs hT rfl (c_mixed _ x _ _) rfl rfl (Nat.le_of_ble_eq_true rfl) ?_
  repeat (first | (refine sw_at (n := 84) rfl ?_; exact (K n 0 (by omega))) | refine sw_s hT rfl rfl ?_)
