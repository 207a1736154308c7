/-! copying, the undo stack, events, small helpers -/
def wI (x : Hp) (i k : Nat) (v : Int32) : Hp := (u2 x.1 i k v, x.2)
def wD (x : Hp) (i k : Nat) (v : UInt64) : Hp := (x.1, u2 x.2.1 i k v, x.2.2)
def rI (x : Hp) (j i n : Nat) : Hp := (uR x.1 j (va_cpy (x.1 i) (x.1 j) 0 0 n), x.2)
def rD (x : Hp) (j i n : Nat) : Hp := (x.1, uR x.2.1 j (va_cpy (x.2.1 i) (x.2.1 j) 0 0 n), x.2.2)
/-- the network at d becomes that at s -/
def cpN (x : Hp) (d s : Nat) : Hp :=
  let x := wD x (d + 1) 0 (x.2.1 (s + 1) 0)
  let x := wD x (d + 1) 1 (x.2.1 (s + 1) 1)
  let x := wI x (d + 1) 2 (x.1 (s + 1) 2)
  let x := rI x (d + 2) (s + 2) 12
  let x := rI x (d + 3) (s + 3) 12
  let x := rD x (d + 4) (s + 4) 12
  rI x (d + 5) (s + 5) 12
def cpR (x : Hp) (d s : Nat) : Hp :=
  let x := rI x (d + 7) (s + 7) 12
  let x := rI x (d + 8) (s + 8) 12
  let x := rI x (d + 9) (s + 9) 12
  let x := rI x (d + 10) (s + 10) 12
  let x := rI x (d + 11) (s + 11) 12
  let x := wI x (d + 6) 5 (x.1 (s + 6) 5)
  wI x (d + 6) 6 (x.1 (s + 6) 6)
def cpE (x : Hp) (d s : Nat) : Hp :=
  let x := wI x (d + 12) 0 (x.1 (s + 12) 0)
  let x := rI x (d + 13) (s + 13) 60
  let x := rD x (d + 14) (s + 14) 60
  wD x (d + 12) 3 (x.2.1 (s + 12) 3)
def cpA (x : Hp) (d s : Nat) : Hp :=
  let x := cpE (cpR (cpN x d s) d s) d s
  wD x d 3 (x.2.1 s 3)
theorem c_cpN_16_1 (Y : Kx) (x : Hp) : sM Y mX1_copyFrom [.ref 17, .ref 2] x none (cpN x 16 1) := by
  refine sM_of (by decide +kernel) (Nat.le_of_ble_eq_true rfl) (fun X h hY hR => ?_)
  have hT := kX1_copyFrom h
  repeat (refine sw_s hT rfl rfl ?_)
  refine sw_cpI hT rfl rfl rfl (by decide) (by decide) (by decide) (by decide) (by decide) (by decide +kernel) (by decide +kernel) ?_
  repeat (refine sw_s hT rfl rfl ?_)
  refine sw_cpI hT rfl rfl rfl (by decide) (by decide) (by decide) (by decide) (by decide) (by decide +kernel) (by decide +kernel) ?_
  repeat (refine sw_s hT rfl rfl ?_)
  refine sw_cpD hT rfl rfl rfl (by decide) (by decide) (by decide) (by decide) (by decide) (by decide +kernel) (by decide +kernel) ?_
  repeat (refine sw_s hT rfl rfl ?_)
  refine sw_cpI hT rfl rfl rfl (by decide) (by decide) (by decide) (by decide) (by decide) (by decide +kernel) (by decide +kernel) ?_
  exact sw_vret hT rfl rfl (hR)
theorem c_cpR_16_1 (Y : Kx) (x : Hp) : sM Y mX2_copyFrom [.ref 22, .ref 7] x none (cpR x 16 1) := by
  refine sM_of (by decide +kernel) (Nat.le_of_ble_eq_true rfl) (fun X h hY hR => ?_)
  have hT := kX2_copyFrom h
  repeat (refine sw_s hT rfl rfl ?_)
  refine sw_cpI hT rfl rfl rfl (by decide) (by decide) (by decide) (by decide) (by decide) (by decide +kernel) (by decide +kernel) ?_
  repeat (refine sw_s hT rfl rfl ?_)
  refine sw_cpI hT rfl rfl rfl (by decide) (by decide) (by decide) (by decide) (by decide) (by decide +kernel) (by decide +kernel) ?_
  repeat (refine sw_s hT rfl rfl ?_)
  refine sw_cpI hT rfl rfl rfl (by decide) (by decide) (by decide) (by decide) (by decide) (by decide +kernel) (by decide +kernel) ?_
  repeat (refine sw_s hT rfl rfl ?_)
  refine sw_cpI hT rfl rfl rfl (by decide) (by decide) (by decide) (by decide) (by decide) (by decide +kernel) (by decide +kernel) ?_
  repeat (refine sw_s hT rfl rfl ?_)
  refine sw_cpI hT rfl rfl rfl (by decide) (by decide) (by decide) (by decide) (by decide) (by decide +kernel) (by decide +kernel) ?_
  repeat (refine sw_s hT rfl rfl ?_)
  exact sw_vret hT rfl rfl (hR)
theorem c_cpE_16_1 (Y : Kx) (x : Hp) : sM Y mX0_copyFrom [.ref 28, .ref 13] x none (cpE x 16 1) := by
  refine sM_of (by decide +kernel) (Nat.le_of_ble_eq_true rfl) (fun X h hY hR => ?_)
  have hT := kX0_copyFrom h
  repeat (refine sw_s hT rfl rfl ?_)
  refine sw_cpI hT rfl rfl rfl (by decide) (by decide) (by decide) (by decide) (by decide) (by decide +kernel) (by decide +kernel) ?_
  repeat (refine sw_s hT rfl rfl ?_)
  refine sw_cpD hT rfl rfl rfl (by decide) (by decide) (by decide) (by decide) (by decide) (by decide +kernel) (by decide +kernel) ?_
  repeat (refine sw_s hT rfl rfl ?_)
  exact sw_vret hT rfl rfl (hR)
theorem c_cpA_16_1 (Y : Kx) (x : Hp) : sM Y mX4_copyFrom [.ref 16, .ref 1] x none (cpA x 16 1) := by
  refine sM_of (by decide +kernel) (Nat.le_of_ble_eq_true rfl) (fun X h hY hR => ?_)
  have hT := kX4_copyFrom h
  repeat (refine sw_s hT rfl rfl ?_)
  refine sw_cv0 hT rfl (c_cpN_16_1 _ x) rfl rfl rfl rfl (Nat.le_of_ble_eq_true rfl) ?_
  repeat (refine sw_s hT rfl rfl ?_)
  refine sw_cv0 hT rfl (c_cpR_16_1 _ _) rfl rfl rfl rfl (Nat.le_of_ble_eq_true rfl) ?_
  repeat (refine sw_s hT rfl rfl ?_)
  refine sw_cv0 hT rfl (c_cpE_16_1 _ _) rfl rfl rfl rfl (Nat.le_of_ble_eq_true rfl) ?_
  repeat (refine sw_s hT rfl rfl ?_)
  exact sw_vret hT rfl rfl (hR)
theorem c_cpN_31_1 (Y : Kx) (x : Hp) : sM Y mX1_copyFrom [.ref 32, .ref 2] x none (cpN x 31 1) := by
  refine sM_of (by decide +kernel) (Nat.le_of_ble_eq_true rfl) (fun X h hY hR => ?_)
  have hT := kX1_copyFrom h
  repeat (refine sw_s hT rfl rfl ?_)
  refine sw_cpI hT rfl rfl rfl (by decide) (by decide) (by decide) (by decide) (by decide) (by decide +kernel) (by decide +kernel) ?_
  repeat (refine sw_s hT rfl rfl ?_)
  refine sw_cpI hT rfl rfl rfl (by decide) (by decide) (by decide) (by decide) (by decide) (by decide +kernel) (by decide +kernel) ?_
  repeat (refine sw_s hT rfl rfl ?_)
  refine sw_cpD hT rfl rfl rfl (by decide) (by decide) (by decide) (by decide) (by decide) (by decide +kernel) (by decide +kernel) ?_
  repeat (refine sw_s hT rfl rfl ?_)
  refine sw_cpI hT rfl rfl rfl (by decide) (by decide) (by decide) (by decide) (by decide) (by decide +kernel) (by decide +kernel) ?_
  exact sw_vret hT rfl rfl (hR)
theorem c_cpR_31_1 (Y : Kx) (x : Hp) : sM Y mX2_copyFrom [.ref 37, .ref 7] x none (cpR x 31 1) := by
  refine sM_of (by decide +kernel) (Nat.le_of_ble_eq_true rfl) (fun X h hY hR => ?_)
  have hT := kX2_copyFrom h
  repeat (refine sw_s hT rfl rfl ?_)
  refine sw_cpI hT rfl rfl rfl (by decide) (by decide) (by decide) (by decide) (by decide) (by decide +kernel) (by decide +kernel) ?_
  repeat (refine sw_s hT rfl rfl ?_)
  refine sw_cpI hT rfl rfl rfl (by decide) (by decide) (by decide) (by decide) (by decide) (by decide +kernel) (by decide +kernel) ?_
  repeat (refine sw_s hT rfl rfl ?_)
  refine sw_cpI hT rfl rfl rfl (by decide) (by decide) (by decide) (by decide) (by decide) (by decide +kernel) (by decide +kernel) ?_
  repeat (refine sw_s hT rfl rfl ?_)
  refine sw_cpI hT rfl rfl rfl (by decide) (by decide) (by decide) (by decide) (by decide) (by decide +kernel) (by decide +kernel) ?_
  repeat (refine sw_s hT rfl rfl ?_)
  refine sw_cpI hT rfl rfl rfl (by decide) (by decide) (by decide) (by decide) (by decide) (by decide +kernel) (by decide +kernel) ?_
  repeat (refine sw_s hT rfl rfl ?_)
  exact sw_vret hT rfl rfl (hR)
theorem c_cpE_31_1 (Y : Kx) (x : Hp) : sM Y mX0_copyFrom [.ref 43, .ref 13] x none (cpE x 31 1) := by
  refine sM_of (by decide +kernel) (Nat.le_of_ble_eq_true rfl) (fun X h hY hR => ?_)
  have hT := kX0_copyFrom h
  repeat (refine sw_s hT rfl rfl ?_)
  refine sw_cpI hT rfl rfl rfl (by decide) (by decide) (by decide) (by decide) (by decide) (by decide +kernel) (by decide +kernel) ?_
  repeat (refine sw_s hT rfl rfl ?_)
  refine sw_cpD hT rfl rfl rfl (by decide) (by decide) (by decide) (by decide) (by decide) (by decide +kernel) (by decide +kernel) ?_
  repeat (refine sw_s hT rfl rfl ?_)
  exact sw_vret hT rfl rfl (hR)
theorem c_cpA_31_1 (Y : Kx) (x : Hp) : sM Y mX4_copyFrom [.ref 31, .ref 1] x none (cpA x 31 1) := by
  refine sM_of (by decide +kernel) (Nat.le_of_ble_eq_true rfl) (fun X h hY hR => ?_)
  have hT := kX4_copyFrom h
  repeat (refine sw_s hT rfl rfl ?_)
  refine sw_cv0 hT rfl (c_cpN_31_1 _ x) rfl rfl rfl rfl (Nat.le_of_ble_eq_true rfl) ?_
  repeat (refine sw_s hT rfl rfl ?_)
  refine sw_cv0 hT rfl (c_cpR_31_1 _ _) rfl rfl rfl rfl (Nat.le_of_ble_eq_true rfl) ?_
  repeat (refine sw_s hT rfl rfl ?_)
  refine sw_cv0 hT rfl (c_cpE_31_1 _ _) rfl rfl rfl rfl (Nat.le_of_ble_eq_true rfl) ?_
  repeat (refine sw_s hT rfl rfl ?_)
  exact sw_vret hT rfl rfl (hR)
theorem c_cpN_46_1 (Y : Kx) (x : Hp) : sM Y mX1_copyFrom [.ref 47, .ref 2] x none (cpN x 46 1) := by
  refine sM_of (by decide +kernel) (Nat.le_of_ble_eq_true rfl) (fun X h hY hR => ?_)
  have hT := kX1_copyFrom h
  repeat (refine sw_s hT rfl rfl ?_)
  refine sw_cpI hT rfl rfl rfl (by decide) (by decide) (by decide) (by decide) (by decide) (by decide +kernel) (by decide +kernel) ?_
  repeat (refine sw_s hT rfl rfl ?_)
  refine sw_cpI hT rfl rfl rfl (by decide) (by decide) (by decide) (by decide) (by decide) (by decide +kernel) (by decide +kernel) ?_
  repeat (refine sw_s hT rfl rfl ?_)
  refine sw_cpD hT rfl rfl rfl (by decide) (by decide) (by decide) (by decide) (by decide) (by decide +kernel) (by decide +kernel) ?_
  repeat (refine sw_s hT rfl rfl ?_)
  refine sw_cpI hT rfl rfl rfl (by decide) (by decide) (by decide) (by decide) (by decide) (by decide +kernel) (by decide +kernel) ?_
  exact sw_vret hT rfl rfl (hR)
theorem c_cpR_46_1 (Y : Kx) (x : Hp) : sM Y mX2_copyFrom [.ref 52, .ref 7] x none (cpR x 46 1) := by
  refine sM_of (by decide +kernel) (Nat.le_of_ble_eq_true rfl) (fun X h hY hR => ?_)
  have hT := kX2_copyFrom h
  repeat (refine sw_s hT rfl rfl ?_)
  refine sw_cpI hT rfl rfl rfl (by decide) (by decide) (by decide) (by decide) (by decide) (by decide +kernel) (by decide +kernel) ?_
  repeat (refine sw_s hT rfl rfl ?_)
  refine sw_cpI hT rfl rfl rfl (by decide) (by decide) (by decide) (by decide) (by decide) (by decide +kernel) (by decide +kernel) ?_
  repeat (refine sw_s hT rfl rfl ?_)
  refine sw_cpI hT rfl rfl rfl (by decide) (by decide) (by decide) (by decide) (by decide) (by decide +kernel) (by decide +kernel) ?_
  repeat (refine sw_s hT rfl rfl ?_)
  refine sw_cpI hT rfl rfl rfl (by decide) (by decide) (by decide) (by decide) (by decide) (by decide +kernel) (by decide +kernel) ?_
  repeat (refine sw_s hT rfl rfl ?_)
  refine sw_cpI hT rfl rfl rfl (by decide) (by decide) (by decide) (by decide) (by decide) (by decide +kernel) (by decide +kernel) ?_
  repeat (refine sw_s hT rfl rfl ?_)
  exact sw_vret hT rfl rfl (hR)
theorem c_cpE_46_1 (Y : Kx) (x : Hp) : sM Y mX0_copyFrom [.ref 58, .ref 13] x none (cpE x 46 1) := by
  refine sM_of (by decide +kernel) (Nat.le_of_ble_eq_true rfl) (fun X h hY hR => ?_)
  have hT := kX0_copyFrom h
  repeat (refine sw_s hT rfl rfl ?_)
  refine sw_cpI hT rfl rfl rfl (by decide) (by decide) (by decide) (by decide) (by decide) (by decide +kernel) (by decide +kernel) ?_
  repeat (refine sw_s hT rfl rfl ?_)
  refine sw_cpD hT rfl rfl rfl (by decide) (by decide) (by decide) (by decide) (by decide) (by decide +kernel) (by decide +kernel) ?_
  repeat (refine sw_s hT rfl rfl ?_)
  exact sw_vret hT rfl rfl (hR)
theorem c_cpA_46_1 (Y : Kx) (x : Hp) : sM Y mX4_copyFrom [.ref 46, .ref 1] x none (cpA x 46 1) := by
  refine sM_of (by decide +kernel) (Nat.le_of_ble_eq_true rfl) (fun X h hY hR => ?_)
  have hT := kX4_copyFrom h
  repeat (refine sw_s hT rfl rfl ?_)
  refine sw_cv0 hT rfl (c_cpN_46_1 _ x) rfl rfl rfl rfl (Nat.le_of_ble_eq_true rfl) ?_
  repeat (refine sw_s hT rfl rfl ?_)
  refine sw_cv0 hT rfl (c_cpR_46_1 _ _) rfl rfl rfl rfl (Nat.le_of_ble_eq_true rfl) ?_
  repeat (refine sw_s hT rfl rfl ?_)
  refine sw_cv0 hT rfl (c_cpE_46_1 _ _) rfl rfl rfl rfl (Nat.le_of_ble_eq_true rfl) ?_
  repeat (refine sw_s hT rfl rfl ?_)
  exact sw_vret hT rfl rfl (hR)
theorem c_cpN_61_1 (Y : Kx) (x : Hp) : sM Y mX1_copyFrom [.ref 62, .ref 2] x none (cpN x 61 1) := by
  refine sM_of (by decide +kernel) (Nat.le_of_ble_eq_true rfl) (fun X h hY hR => ?_)
  have hT := kX1_copyFrom h
  repeat (refine sw_s hT rfl rfl ?_)
  refine sw_cpI hT rfl rfl rfl (by decide) (by decide) (by decide) (by decide) (by decide) (by decide +kernel) (by decide +kernel) ?_
  repeat (refine sw_s hT rfl rfl ?_)
  refine sw_cpI hT rfl rfl rfl (by decide) (by decide) (by decide) (by decide) (by decide) (by decide +kernel) (by decide +kernel) ?_
  repeat (refine sw_s hT rfl rfl ?_)
  refine sw_cpD hT rfl rfl rfl (by decide) (by decide) (by decide) (by decide) (by decide) (by decide +kernel) (by decide +kernel) ?_
  repeat (refine sw_s hT rfl rfl ?_)
  refine sw_cpI hT rfl rfl rfl (by decide) (by decide) (by decide) (by decide) (by decide) (by decide +kernel) (by decide +kernel) ?_
  exact sw_vret hT rfl rfl (hR)
theorem c_cpR_61_1 (Y : Kx) (x : Hp) : sM Y mX2_copyFrom [.ref 67, .ref 7] x none (cpR x 61 1) := by
  refine sM_of (by decide +kernel) (Nat.le_of_ble_eq_true rfl) (fun X h hY hR => ?_)
  have hT := kX2_copyFrom h
  repeat (refine sw_s hT rfl rfl ?_)
  refine sw_cpI hT rfl rfl rfl (by decide) (by decide) (by decide) (by decide) (by decide) (by decide +kernel) (by decide +kernel) ?_
  repeat (refine sw_s hT rfl rfl ?_)
  refine sw_cpI hT rfl rfl rfl (by decide) (by decide) (by decide) (by decide) (by decide) (by decide +kernel) (by decide +kernel) ?_
  repeat (refine sw_s hT rfl rfl ?_)
  refine sw_cpI hT rfl rfl rfl (by decide) (by decide) (by decide) (by decide) (by decide) (by decide +kernel) (by decide +kernel) ?_
  repeat (refine sw_s hT rfl rfl ?_)
  refine sw_cpI hT rfl rfl rfl (by decide) (by decide) (by decide) (by decide) (by decide) (by decide +kernel) (by decide +kernel) ?_
  repeat (refine sw_s hT rfl rfl ?_)
  refine sw_cpI hT rfl rfl rfl (by decide) (by decide) (by decide) (by decide) (by decide) (by decide +kernel) (by decide +kernel) ?_
  repeat (refine sw_s hT rfl rfl ?_)
  exact sw_vret hT rfl rfl (hR)
theorem c_cpE_61_1 (Y : Kx) (x : Hp) : sM Y mX0_copyFrom [.ref 73, .ref 13] x none (cpE x 61 1) := by
  refine sM_of (by decide +kernel) (Nat.le_of_ble_eq_true rfl) (fun X h hY hR => ?_)
  have hT := kX0_copyFrom h
  repeat (refine sw_s hT rfl rfl ?_)
  refine sw_cpI hT rfl rfl rfl (by decide) (by decide) (by decide) (by decide) (by decide) (by decide +kernel) (by decide +kernel) ?_
  repeat (refine sw_s hT rfl rfl ?_)
  refine sw_cpD hT rfl rfl rfl (by decide) (by decide) (by decide) (by decide) (by decide) (by decide +kernel) (by decide +kernel) ?_
  repeat (refine sw_s hT rfl rfl ?_)
  exact sw_vret hT rfl rfl (hR)
theorem c_cpA_61_1 (Y : Kx) (x : Hp) : sM Y mX4_copyFrom [.ref 61, .ref 1] x none (cpA x 61 1) := by
  refine sM_of (by decide +kernel) (Nat.le_of_ble_eq_true rfl) (fun X h hY hR => ?_)
  have hT := kX4_copyFrom h
  repeat (refine sw_s hT rfl rfl ?_)
  refine sw_cv0 hT rfl (c_cpN_61_1 _ x) rfl rfl rfl rfl (Nat.le_of_ble_eq_true rfl) ?_
  repeat (refine sw_s hT rfl rfl ?_)
  refine sw_cv0 hT rfl (c_cpR_61_1 _ _) rfl rfl rfl rfl (Nat.le_of_ble_eq_true rfl) ?_
  repeat (refine sw_s hT rfl rfl ?_)
  refine sw_cv0 hT rfl (c_cpE_61_1 _ _) rfl rfl rfl rfl (Nat.le_of_ble_eq_true rfl) ?_
  repeat (refine sw_s hT rfl rfl ?_)
  exact sw_vret hT rfl rfl (hR)
theorem c_cpN_1_16 (Y : Kx) (x : Hp) : sM Y mX1_copyFrom [.ref 2, .ref 17] x none (cpN x 1 16) := by
  refine sM_of (by decide +kernel) (Nat.le_of_ble_eq_true rfl) (fun X h hY hR => ?_)
  have hT := kX1_copyFrom h
  repeat (refine sw_s hT rfl rfl ?_)
  refine sw_cpI hT rfl rfl rfl (by decide) (by decide) (by decide) (by decide) (by decide) (by decide +kernel) (by decide +kernel) ?_
  repeat (refine sw_s hT rfl rfl ?_)
  refine sw_cpI hT rfl rfl rfl (by decide) (by decide) (by decide) (by decide) (by decide) (by decide +kernel) (by decide +kernel) ?_
  repeat (refine sw_s hT rfl rfl ?_)
  refine sw_cpD hT rfl rfl rfl (by decide) (by decide) (by decide) (by decide) (by decide) (by decide +kernel) (by decide +kernel) ?_
  repeat (refine sw_s hT rfl rfl ?_)
  refine sw_cpI hT rfl rfl rfl (by decide) (by decide) (by decide) (by decide) (by decide) (by decide +kernel) (by decide +kernel) ?_
  exact sw_vret hT rfl rfl (hR)
theorem c_cpR_1_16 (Y : Kx) (x : Hp) : sM Y mX2_copyFrom [.ref 7, .ref 22] x none (cpR x 1 16) := by
  refine sM_of (by decide +kernel) (Nat.le_of_ble_eq_true rfl) (fun X h hY hR => ?_)
  have hT := kX2_copyFrom h
  repeat (refine sw_s hT rfl rfl ?_)
  refine sw_cpI hT rfl rfl rfl (by decide) (by decide) (by decide) (by decide) (by decide) (by decide +kernel) (by decide +kernel) ?_
  repeat (refine sw_s hT rfl rfl ?_)
  refine sw_cpI hT rfl rfl rfl (by decide) (by decide) (by decide) (by decide) (by decide) (by decide +kernel) (by decide +kernel) ?_
  repeat (refine sw_s hT rfl rfl ?_)
  refine sw_cpI hT rfl rfl rfl (by decide) (by decide) (by decide) (by decide) (by decide) (by decide +kernel) (by decide +kernel) ?_
  repeat (refine sw_s hT rfl rfl ?_)
  refine sw_cpI hT rfl rfl rfl (by decide) (by decide) (by decide) (by decide) (by decide) (by decide +kernel) (by decide +kernel) ?_
  repeat (refine sw_s hT rfl rfl ?_)
  refine sw_cpI hT rfl rfl rfl (by decide) (by decide) (by decide) (by decide) (by decide) (by decide +kernel) (by decide +kernel) ?_
  repeat (refine sw_s hT rfl rfl ?_)
  exact sw_vret hT rfl rfl (hR)
theorem c_cpE_1_16 (Y : Kx) (x : Hp) : sM Y mX0_copyFrom [.ref 13, .ref 28] x none (cpE x 1 16) := by
  refine sM_of (by decide +kernel) (Nat.le_of_ble_eq_true rfl) (fun X h hY hR => ?_)
  have hT := kX0_copyFrom h
  repeat (refine sw_s hT rfl rfl ?_)
  refine sw_cpI hT rfl rfl rfl (by decide) (by decide) (by decide) (by decide) (by decide) (by decide +kernel) (by decide +kernel) ?_
  repeat (refine sw_s hT rfl rfl ?_)
  refine sw_cpD hT rfl rfl rfl (by decide) (by decide) (by decide) (by decide) (by decide) (by decide +kernel) (by decide +kernel) ?_
  repeat (refine sw_s hT rfl rfl ?_)
  exact sw_vret hT rfl rfl (hR)
theorem c_cpA_1_16 (Y : Kx) (x : Hp) : sM Y mX4_copyFrom [.ref 1, .ref 16] x none (cpA x 1 16) := by
  refine sM_of (by decide +kernel) (Nat.le_of_ble_eq_true rfl) (fun X h hY hR => ?_)
  have hT := kX4_copyFrom h
  repeat (refine sw_s hT rfl rfl ?_)
  refine sw_cv0 hT rfl (c_cpN_1_16 _ x) rfl rfl rfl rfl (Nat.le_of_ble_eq_true rfl) ?_
  repeat (refine sw_s hT rfl rfl ?_)
  refine sw_cv0 hT rfl (c_cpR_1_16 _ _) rfl rfl rfl rfl (Nat.le_of_ble_eq_true rfl) ?_
  repeat (refine sw_s hT rfl rfl ?_)
  refine sw_cv0 hT rfl (c_cpE_1_16 _ _) rfl rfl rfl rfl (Nat.le_of_ble_eq_true rfl) ?_
  repeat (refine sw_s hT rfl rfl ?_)
  exact sw_vret hT rfl rfl (hR)
theorem c_cpN_1_31 (Y : Kx) (x : Hp) : sM Y mX1_copyFrom [.ref 2, .ref 32] x none (cpN x 1 31) := by
  refine sM_of (by decide +kernel) (Nat.le_of_ble_eq_true rfl) (fun X h hY hR => ?_)
  have hT := kX1_copyFrom h
  repeat (refine sw_s hT rfl rfl ?_)
  refine sw_cpI hT rfl rfl rfl (by decide) (by decide) (by decide) (by decide) (by decide) (by decide +kernel) (by decide +kernel) ?_
  repeat (refine sw_s hT rfl rfl ?_)
  refine sw_cpI hT rfl rfl rfl (by decide) (by decide) (by decide) (by decide) (by decide) (by decide +kernel) (by decide +kernel) ?_
  repeat (refine sw_s hT rfl rfl ?_)
  refine sw_cpD hT rfl rfl rfl (by decide) (by decide) (by decide) (by decide) (by decide) (by decide +kernel) (by decide +kernel) ?_
  repeat (refine sw_s hT rfl rfl ?_)
  refine sw_cpI hT rfl rfl rfl (by decide) (by decide) (by decide) (by decide) (by decide) (by decide +kernel) (by decide +kernel) ?_
  exact sw_vret hT rfl rfl (hR)
theorem c_cpR_1_31 (Y : Kx) (x : Hp) : sM Y mX2_copyFrom [.ref 7, .ref 37] x none (cpR x 1 31) := by
  refine sM_of (by decide +kernel) (Nat.le_of_ble_eq_true rfl) (fun X h hY hR => ?_)
  have hT := kX2_copyFrom h
  repeat (refine sw_s hT rfl rfl ?_)
  refine sw_cpI hT rfl rfl rfl (by decide) (by decide) (by decide) (by decide) (by decide) (by decide +kernel) (by decide +kernel) ?_
  repeat (refine sw_s hT rfl rfl ?_)
  refine sw_cpI hT rfl rfl rfl (by decide) (by decide) (by decide) (by decide) (by decide) (by decide +kernel) (by decide +kernel) ?_
  repeat (refine sw_s hT rfl rfl ?_)
  refine sw_cpI hT rfl rfl rfl (by decide) (by decide) (by decide) (by decide) (by decide) (by decide +kernel) (by decide +kernel) ?_
  repeat (refine sw_s hT rfl rfl ?_)
  refine sw_cpI hT rfl rfl rfl (by decide) (by decide) (by decide) (by decide) (by decide) (by decide +kernel) (by decide +kernel) ?_
  repeat (refine sw_s hT rfl rfl ?_)
  refine sw_cpI hT rfl rfl rfl (by decide) (by decide) (by decide) (by decide) (by decide) (by decide +kernel) (by decide +kernel) ?_
  repeat (refine sw_s hT rfl rfl ?_)
  exact sw_vret hT rfl rfl (hR)
theorem c_cpE_1_31 (Y : Kx) (x : Hp) : sM Y mX0_copyFrom [.ref 13, .ref 43] x none (cpE x 1 31) := by
  refine sM_of (by decide +kernel) (Nat.le_of_ble_eq_true rfl) (fun X h hY hR => ?_)
  have hT := kX0_copyFrom h
  repeat (refine sw_s hT rfl rfl ?_)
  refine sw_cpI hT rfl rfl rfl (by decide) (by decide) (by decide) (by decide) (by decide) (by decide +kernel) (by decide +kernel) ?_
  repeat (refine sw_s hT rfl rfl ?_)
  refine sw_cpD hT rfl rfl rfl (by decide) (by decide) (by decide) (by decide) (by decide) (by decide +kernel) (by decide +kernel) ?_
  repeat (refine sw_s hT rfl rfl ?_)
  exact sw_vret hT rfl rfl (hR)
theorem c_cpA_1_31 (Y : Kx) (x : Hp) : sM Y mX4_copyFrom [.ref 1, .ref 31] x none (cpA x 1 31) := by
  refine sM_of (by decide +kernel) (Nat.le_of_ble_eq_true rfl) (fun X h hY hR => ?_)
  have hT := kX4_copyFrom h
  repeat (refine sw_s hT rfl rfl ?_)
  refine sw_cv0 hT rfl (c_cpN_1_31 _ x) rfl rfl rfl rfl (Nat.le_of_ble_eq_true rfl) ?_
  repeat (refine sw_s hT rfl rfl ?_)
  refine sw_cv0 hT rfl (c_cpR_1_31 _ _) rfl rfl rfl rfl (Nat.le_of_ble_eq_true rfl) ?_
  repeat (refine sw_s hT rfl rfl ?_)
  refine sw_cv0 hT rfl (c_cpE_1_31 _ _) rfl rfl rfl rfl (Nat.le_of_ble_eq_true rfl) ?_
  repeat (refine sw_s hT rfl rfl ?_)
  exact sw_vret hT rfl rfl (hR)
theorem c_cpN_1_46 (Y : Kx) (x : Hp) : sM Y mX1_copyFrom [.ref 2, .ref 47] x none (cpN x 1 46) := by
  refine sM_of (by decide +kernel) (Nat.le_of_ble_eq_true rfl) (fun X h hY hR => ?_)
  have hT := kX1_copyFrom h
  repeat (refine sw_s hT rfl rfl ?_)
  refine sw_cpI hT rfl rfl rfl (by decide) (by decide) (by decide) (by decide) (by decide) (by decide +kernel) (by decide +kernel) ?_
  repeat (refine sw_s hT rfl rfl ?_)
  refine sw_cpI hT rfl rfl rfl (by decide) (by decide) (by decide) (by decide) (by decide) (by decide +kernel) (by decide +kernel) ?_
  repeat (refine sw_s hT rfl rfl ?_)
  refine sw_cpD hT rfl rfl rfl (by decide) (by decide) (by decide) (by decide) (by decide) (by decide +kernel) (by decide +kernel) ?_
  repeat (refine sw_s hT rfl rfl ?_)
  refine sw_cpI hT rfl rfl rfl (by decide) (by decide) (by decide) (by decide) (by decide) (by decide +kernel) (by decide +kernel) ?_
  exact sw_vret hT rfl rfl (hR)
theorem c_cpR_1_46 (Y : Kx) (x : Hp) : sM Y mX2_copyFrom [.ref 7, .ref 52] x none (cpR x 1 46) := by
  refine sM_of (by decide +kernel) (Nat.le_of_ble_eq_true rfl) (fun X h hY hR => ?_)
  have hT := kX2_copyFrom h
  repeat (refine sw_s hT rfl rfl ?_)
  refine sw_cpI hT rfl rfl rfl (by decide) (by decide) (by decide) (by decide) (by decide) (by decide +kernel) (by decide +kernel) ?_
  repeat (refine sw_s hT rfl rfl ?_)
  refine sw_cpI hT rfl rfl rfl (by decide) (by decide) (by decide) (by decide) (by decide) (by decide +kernel) (by decide +kernel) ?_
  repeat (refine sw_s hT rfl rfl ?_)
  refine sw_cpI hT rfl rfl rfl (by decide) (by decide) (by decide) (by decide) (by decide) (by decide +kernel) (by decide +kernel) ?_
  repeat (refine sw_s hT rfl rfl ?_)
  refine sw_cpI hT rfl rfl rfl (by decide) (by decide) (by decide) (by decide) (by decide) (by decide +kernel) (by decide +kernel) ?_
  repeat (refine sw_s hT rfl rfl ?_)
  refine sw_cpI hT rfl rfl rfl (by decide) (by decide) (by decide) (by decide) (by decide) (by decide +kernel) (by decide +kernel) ?_
  repeat (refine sw_s hT rfl rfl ?_)
  exact sw_vret hT rfl rfl (hR)
theorem c_cpE_1_46 (Y : Kx) (x : Hp) : sM Y mX0_copyFrom [.ref 13, .ref 58] x none (cpE x 1 46) := by
  refine sM_of (by decide +kernel) (Nat.le_of_ble_eq_true rfl) (fun X h hY hR => ?_)
  have hT := kX0_copyFrom h
  repeat (refine sw_s hT rfl rfl ?_)
  refine sw_cpI hT rfl rfl rfl (by decide) (by decide) (by decide) (by decide) (by decide) (by decide +kernel) (by decide +kernel) ?_
  repeat (refine sw_s hT rfl rfl ?_)
  refine sw_cpD hT rfl rfl rfl (by decide) (by decide) (by decide) (by decide) (by decide) (by decide +kernel) (by decide +kernel) ?_
  repeat (refine sw_s hT rfl rfl ?_)
  exact sw_vret hT rfl rfl (hR)
theorem c_cpA_1_46 (Y : Kx) (x : Hp) : sM Y mX4_copyFrom [.ref 1, .ref 46] x none (cpA x 1 46) := by
  refine sM_of (by decide +kernel) (Nat.le_of_ble_eq_true rfl) (fun X h hY hR => ?_)
  have hT := kX4_copyFrom h
  repeat (refine sw_s hT rfl rfl ?_)
  refine sw_cv0 hT rfl (c_cpN_1_46 _ x) rfl rfl rfl rfl (Nat.le_of_ble_eq_true rfl) ?_
  repeat (refine sw_s hT rfl rfl ?_)
  refine sw_cv0 hT rfl (c_cpR_1_46 _ _) rfl rfl rfl rfl (Nat.le_of_ble_eq_true rfl) ?_
  repeat (refine sw_s hT rfl rfl ?_)
  refine sw_cv0 hT rfl (c_cpE_1_46 _ _) rfl rfl rfl rfl (Nat.le_of_ble_eq_true rfl) ?_
  repeat (refine sw_s hT rfl rfl ?_)
  exact sw_vret hT rfl rfl (hR)
theorem c_cpN_1_61 (Y : Kx) (x : Hp) : sM Y mX1_copyFrom [.ref 2, .ref 62] x none (cpN x 1 61) := by
  refine sM_of (by decide +kernel) (Nat.le_of_ble_eq_true rfl) (fun X h hY hR => ?_)
  have hT := kX1_copyFrom h
  repeat (refine sw_s hT rfl rfl ?_)
  refine sw_cpI hT rfl rfl rfl (by decide) (by decide) (by decide) (by decide) (by decide) (by decide +kernel) (by decide +kernel) ?_
  repeat (refine sw_s hT rfl rfl ?_)
  refine sw_cpI hT rfl rfl rfl (by decide) (by decide) (by decide) (by decide) (by decide) (by decide +kernel) (by decide +kernel) ?_
  repeat (refine sw_s hT rfl rfl ?_)
  refine sw_cpD hT rfl rfl rfl (by decide) (by decide) (by decide) (by decide) (by decide) (by decide +kernel) (by decide +kernel) ?_
  repeat (refine sw_s hT rfl rfl ?_)
  refine sw_cpI hT rfl rfl rfl (by decide) (by decide) (by decide) (by decide) (by decide) (by decide +kernel) (by decide +kernel) ?_
  exact sw_vret hT rfl rfl (hR)
theorem c_cpR_1_61 (Y : Kx) (x : Hp) : sM Y mX2_copyFrom [.ref 7, .ref 67] x none (cpR x 1 61) := by
  refine sM_of (by decide +kernel) (Nat.le_of_ble_eq_true rfl) (fun X h hY hR => ?_)
  have hT := kX2_copyFrom h
  repeat (refine sw_s hT rfl rfl ?_)
  refine sw_cpI hT rfl rfl rfl (by decide) (by decide) (by decide) (by decide) (by decide) (by decide +kernel) (by decide +kernel) ?_
  repeat (refine sw_s hT rfl rfl ?_)
  refine sw_cpI hT rfl rfl rfl (by decide) (by decide) (by decide) (by decide) (by decide) (by decide +kernel) (by decide +kernel) ?_
  repeat (refine sw_s hT rfl rfl ?_)
  refine sw_cpI hT rfl rfl rfl (by decide) (by decide) (by decide) (by decide) (by decide) (by decide +kernel) (by decide +kernel) ?_
  repeat (refine sw_s hT rfl rfl ?_)
  refine sw_cpI hT rfl rfl rfl (by decide) (by decide) (by decide) (by decide) (by decide) (by decide +kernel) (by decide +kernel) ?_
  repeat (refine sw_s hT rfl rfl ?_)
  refine sw_cpI hT rfl rfl rfl (by decide) (by decide) (by decide) (by decide) (by decide) (by decide +kernel) (by decide +kernel) ?_
  repeat (refine sw_s hT rfl rfl ?_)
  exact sw_vret hT rfl rfl (hR)
theorem c_cpE_1_61 (Y : Kx) (x : Hp) : sM Y mX0_copyFrom [.ref 13, .ref 73] x none (cpE x 1 61) := by
  refine sM_of (by decide +kernel) (Nat.le_of_ble_eq_true rfl) (fun X h hY hR => ?_)
  have hT := kX0_copyFrom h
  repeat (refine sw_s hT rfl rfl ?_)
  refine sw_cpI hT rfl rfl rfl (by decide) (by decide) (by decide) (by decide) (by decide) (by decide +kernel) (by decide +kernel) ?_
  repeat (refine sw_s hT rfl rfl ?_)
  refine sw_cpD hT rfl rfl rfl (by decide) (by decide) (by decide) (by decide) (by decide) (by decide +kernel) (by decide +kernel) ?_
  repeat (refine sw_s hT rfl rfl ?_)
  exact sw_vret hT rfl rfl (hR)
theorem c_cpA_1_61 (Y : Kx) (x : Hp) : sM Y mX4_copyFrom [.ref 1, .ref 61] x none (cpA x 1 61) := by
  refine sM_of (by decide +kernel) (Nat.le_of_ble_eq_true rfl) (fun X h hY hR => ?_)
  have hT := kX4_copyFrom h
  repeat (refine sw_s hT rfl rfl ?_)
  refine sw_cv0 hT rfl (c_cpN_1_61 _ x) rfl rfl rfl rfl (Nat.le_of_ble_eq_true rfl) ?_
  repeat (refine sw_s hT rfl rfl ?_)
  refine sw_cv0 hT rfl (c_cpR_1_61 _ _) rfl rfl rfl rfl (Nat.le_of_ble_eq_true rfl) ?_
  repeat (refine sw_s hT rfl rfl ?_)
  refine sw_cv0 hT rfl (c_cpE_1_61 _ _) rfl rfl rfl rfl (Nat.le_of_ble_eq_true rfl) ?_
  repeat (refine sw_s hT rfl rfl ?_)
  exact sw_vret hT rfl rfl (hR)
theorem cpA_o1 (x : Hp) (d s i : Nat) (h : i < d ∨ d + 15 ≤ i) : (cpA x d s).1 i = x.1 i := by
  unfold cpA cpE cpR cpN wI wD rI rD
  dsimp only
  simp (disch := omega) only [u2_ne, uR_ne]
theorem cpA_o2 (x : Hp) (d s i : Nat) (h : i < d ∨ d + 15 ≤ i) : (cpA x d s).2.1 i = x.2.1 i := by
  unfold cpA cpE cpR cpN wI wD rI rD
  dsimp only
  simp (disch := omega) only [u2_ne, uR_ne]
theorem cpA_o3 (x : Hp) (d s : Nat) : (cpA x d s).2.2 = x.2.2 := rfl
/-- a state goes on the stack: its place i, c states were there -/
def pushS (x : Hp) (i c : Nat) : Hp := wI (wI (cpA x (16 + 15 * i) 1) 76 1 (nI ((i + 1) % 4))) 76 0 (nI (min (c + 1) 4))
theorem push_min {c : Nat} (hc : c ≤ 4) : (if (4 : Int32) < nI c + 1 then (4 : Int32) else nI c + 1) = nI (min (c + 1) 4) := by
  rw [nI_1]
  have e4 : (4 : Int32) = nI 4 := by decide
  by_cases h : c + 1 ≤ 4
  · rw [if_neg (by rw [e4]; exact Int32.not_lt.mpr (nI_le h (by omega))), Nat.min_eq_left h]
  · rw [if_pos (by rw [e4]; exact nI_lt (by omega) (by omega)), Nat.min_eq_right (by omega)]
    exact e4
theorem push_mod {i : Nat} (hi : i < 4) : nI i + 1 - (nI i + 1) / 4 * 4 = nI ((i + 1) % 4) := by
  rw [nI_1]
  exact pk_rem (by omega) (by decide) (by decide)
theorem pop_mod {i : Nat} (hi : i < 4) : nI i + 4 - 1 - (nI i + 4 - 1) / 4 * 4 = nI ((i + 3) % 4) := by
  have e : nI i + 4 - 1 = nI (i + 3) := by
    rw [show (4 : Int32) = nI 4 by decide, nI_add, show i + 4 = (i + 3) + 1 by omega, nI_pred]
  rw [e]
  exact pk_rem (by omega) (by decide) (by decide)
