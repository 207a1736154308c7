/-! contracts of the class, leaves first -/
def bI (c : Prop) [Decidable c] : Int32 := if c then 1 else 0
theorem bI_t {c : Prop} [Decidable c] (h : c) : bI c = 1 := if_pos h
theorem bI_f {c : Prop} [Decidable c] (h : ¬ c) : bI c = 0 := if_neg h
theorem bI_0 {c : Prop} [Decidable c] : bI c = 0 ↔ ¬ c := by
  unfold bI
  split
  · next h => exact ⟨fun q => absurd q (by decide), fun q => absurd h q⟩
  · next h => exact ⟨fun _ => h, fun _ => rfl⟩
theorem bI_n {c : Prop} [Decidable c] : narrow .boolean (.int (bI c)) = .int (bI c) := by
  unfold bI
  split <;> rfl
theorem in12 {k : Nat} (h : k < 12) : vp_in (nI k) 12 := vp_in_nI h (by decide)
theorem cl12 {k : Nat} (h : k < 12) : (nI k).toNatClampNeg = k := nI_clamp (by omega)
theorem c_infinity (Y : Kx) (x : Hp) : sM Y mX6_infinity [] x (some (.double 9218868437227405312)) x := by
  refine sM_of (by decide +kernel) (Nat.le_of_ble_eq_true rfl) (fun X h hY hR => ?_)
  have hT := kX6_infinity h
  repeat (refine sw_s hT rfl rfl ?_)
  exact sw_dret hT rfl rfl (hR)
theorem c_within (Y : Kx) (x : Hp) (v lo hi : Int32) : sM Y mX6_within [.int v, .int lo, .int hi] x (some (.int (bI (lo ≤ v ∧ v ≤ hi)))) x := by
  refine sM_of (by decide +kernel) (Nat.le_of_ble_eq_true rfl) (fun X h hY hR => ?_)
  have hT := kX6_within h
  repeat (refine sw_s hT rfl rfl ?_)
  refine sw_b hT rfl rfl (fun c1 => ?_) (fun c1 => ?_)
  · repeat (refine sw_s hT rfl rfl ?_)
    rw [bI_f (fun q => Int32.not_le.mpr c1 q.1)] at hR
    exact sw_iret hT rfl rfl rfl (hR)
  · repeat (refine sw_s hT rfl rfl ?_)
    refine sw_b hT rfl rfl (fun c2 => ?_) (fun c2 => ?_)
    · repeat (refine sw_s hT rfl rfl ?_)
      rw [bI_f (fun q => Int32.not_le.mpr c2 q.2)] at hR
      exact sw_iret hT rfl rfl rfl (hR)
    · repeat (refine sw_s hT rfl rfl ?_)
      rw [bI_t ⟨Int32.not_lt.mp c1, Int32.not_lt.mp c2⟩] at hR
      exact sw_iret hT rfl rfl rfl (hR)
/-- v is from lo to hi, as the class asks it -/
def wiD (v lo hi : UInt64) : Prop := ¬ Op.cmpValue (FP.dcmp v lo) .l < 0 ∧ ¬ 0 < Op.cmpValue (FP.dcmp v hi) .g
def bD (v lo hi : UInt64) : Int32 := bI (¬ Op.cmpValue (FP.dcmp v lo) .l < 0 ∧ ¬ 0 < Op.cmpValue (FP.dcmp v hi) .g)
theorem c_withinD (Y : Kx) (x : Hp) (v lo hi : UInt64) : sM Y mX6_within_ [.double v, .double lo, .double hi] x (some (.int (bD v lo hi))) x := by
  refine sM_of (by decide +kernel) (Nat.le_of_ble_eq_true rfl) (fun X h hY hR => ?_)
  have hT := kX6_within_ h
  unfold bD at hR
  repeat (refine sw_s hT rfl rfl ?_)
  refine sw_b hT rfl rfl (fun c1 => ?_) (fun c1 => ?_)
  · repeat (refine sw_s hT rfl rfl ?_)
    rw [bI_f (fun q => q.1 c1)] at hR
    exact sw_iret hT rfl rfl rfl (hR)
  · repeat (refine sw_s hT rfl rfl ?_)
    refine sw_b hT rfl rfl (fun c2 => ?_) (fun c2 => ?_)
    · repeat (refine sw_s hT rfl rfl ?_)
      rw [bI_f (fun q => q.2 c2)] at hR
      exact sw_iret hT rfl rfl rfl (hR)
    · repeat (refine sw_s hT rfl rfl ?_)
      rw [bI_t ⟨c1, c2⟩] at hR
      exact sw_iret hT rfl rfl rfl (hR)
def stkS (x : Hp) (v : Int32) : Prop := ¬ (x.1 7 5 >>> (v &&& 31)) &&& 1 = 0
theorem c_isStuck (Y : Kx) (x : Hp) (v : Int32) : sM Y mX2_isStuck [.ref 7, .int v] x (some (.int (bI (¬ (x.1 7 5 >>> (v &&& 31)) &&& 1 = 0)))) x := by
  refine sM_of (by decide +kernel) (Nat.le_of_ble_eq_true rfl) (fun X h hY hR => ?_)
  have hT := kX2_isStuck h
  repeat (refine sw_s hT rfl rfl ?_)
  refine sw_b hT rfl rfl (fun c1 => ?_) (fun c1 => ?_)
  · repeat (refine sw_s hT rfl rfl ?_)
    rw [bI_f (fun q => q c1)] at hR
    exact sw_iret hT rfl rfl rfl (hR)
  · repeat (refine sw_s hT rfl rfl ?_)
    rw [bI_t c1] at hR
    exact sw_iret hT rfl rfl rfl (hR)
theorem c_makeStuck (Y : Kx) (x : Hp) (v b : Int32) : sM Y mX2_makeStuck [.ref 7, .int v, .int b] x none (u2 x.1 7 5 (if b = 0 then x.1 7 5 &&& ((1 <<< (v &&& 31)) ^^^ -1) else x.1 7 5 ||| (1 <<< (v &&& 31))), x.2) := by
  refine sM_of (by decide +kernel) (Nat.le_of_ble_eq_true rfl) (fun X h hY hR => ?_)
  have hT := kX2_makeStuck h
  repeat (refine sw_s hT rfl rfl ?_)
  refine sw_b hT rfl rfl (fun c1 => ?_) (fun c1 => ?_)
  · repeat (refine sw_s hT rfl rfl ?_)
    rw [if_pos c1] at hR
    exact sw_vret hT rfl rfl (hR)
  · repeat (refine sw_s hT rfl rfl ?_)
    rw [if_neg c1] at hR
    exact sw_vret hT rfl rfl (hR)
theorem c_lineBefore (Y : Kx) (x : Hp) (k : Nat) (hk : k < 12) : sM Y mX1_lineBefore [.ref 2, .int (nI k)] x (some (.int (if x.1 3 k = 0 then -1 else x.1 3 k - 1))) x := by
  refine sM_of (by decide +kernel) (Nat.le_of_ble_eq_true rfl) (fun X h hY hR => ?_)
  have hT := kX1_lineBefore h
  repeat (refine sw_s hT rfl rfl ?_)
  refine sw_iald hT rfl rfl (in12 hk) ?_
  rw [cl12 hk]
  refine sw_b hT rfl rfl (fun c1 => ?_) (fun c1 => ?_)
  · repeat (refine sw_s hT rfl rfl ?_)
    rw [if_pos c1] at hR
    exact sw_iret hT rfl rfl rfl (hR)
  · repeat (refine sw_s hT rfl rfl ?_)
    refine sw_iald hT rfl rfl (in12 hk) ?_
    rw [cl12 hk]
    repeat (refine sw_s hT rfl rfl ?_)
    rw [if_neg c1] at hR
    exact sw_iret hT rfl rfl rfl (hR)
/-- the loads of the first j ends whose path meets the mask -/
def loS (x : Hp) (m : Int32) : Nat → Int32
  | 0 => 0
  | j + 1 => if x.1 4 j &&& m = 0 then loS x m j else loS x m j + x.1 6 j
theorem c_loadOver (Y : Kx) (x : Hp) (m : Int32) (n : Nat) (hn : x.1 2 2 = nI n) (hn12 : n ≤ 12) : sM Y mX1_loadOver [.ref 2, .int m] x (some (.int (loS x m n))) x := by
  refine sM_of (by decide +kernel) (Nat.le_of_ble_eq_true rfl) (fun X h hY hR => ?_)
  have hT := kX1_loadOver h
  have K : ∀ d j, d + j = n → SW X mX1_loadOver 4 [(3, .int (nI j)), (2, .int (loS x m j)), (0, .ref 2), (1, .int m)] [] x := by
    intro d
    induction d with
    | zero =>
      intro j hj
      repeat (refine sw_s hT rfl rfl ?_)
      refine sw_b hT rfl rfl (fun c1 => ?_) (fun c1 => absurd (by rw [hn]; exact nI_le (by omega) (by omega)) c1)
      repeat (refine sw_s hT rfl rfl ?_)
      rw [show j = n by omega]
      exact sw_iret hT rfl rfl rfl (hR)
    | succ d ih =>
      intro j hj
      have hj12 : j < 12 := by omega
      repeat (refine sw_s hT rfl rfl ?_)
      refine sw_b hT rfl rfl (fun c1 => absurd c1 (by rw [hn]; exact nI_ge (by omega) (by omega))) (fun c1 => ?_)
      repeat (refine sw_s hT rfl rfl ?_)
      refine sw_iald hT rfl rfl (in12 hj12) ?_
      rw [cl12 hj12]
      repeat (refine sw_s hT rfl rfl ?_)
      have hl : loS x m (j + 1) = if x.1 4 j &&& m = 0 then loS x m j else loS x m j + x.1 6 j := rfl
      refine sw_b hT rfl rfl (fun c2 => ?_) (fun c2 => ?_)
      · rw [if_pos c2] at hl
        have k := ih (j + 1) (by omega)
        rw [hl, ← nI_1] at k
        repeat (first | exact (k) | refine sw_s hT rfl rfl ?_)
      · repeat (refine sw_s hT rfl rfl ?_)
        refine sw_iald hT rfl rfl (in12 hj12) ?_
        rw [cl12 hj12]
        rw [if_neg c2] at hl
        have k := ih (j + 1) (by omega)
        rw [hl, ← nI_1] at k
        repeat (first | exact (k) | refine sw_s hT rfl rfl ?_)
  repeat (first | exact (K n 0 (by omega)) | refine sw_s hT rfl rfl ?_)
