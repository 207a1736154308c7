/-! append, bitCount, bitsOf, the checksum -/
def apS (x : Hp) (n f : Nat) (z : UInt64) : Hp := (u2 (u2 (u2 x.1 3 n (nI f)) 4 n ((if f = 0 then 0 else x.1 4 (f - 1)) ||| (1 <<< (nI n &&& 31)))) 2 2 (nI n + 1), u2 x.2.1 5 n z, x.2.2)
theorem c_append (Y : Kx) (x : Hp) (n f : Nat) (z : UInt64) (hn : x.1 2 2 = nI n) (hn12 : n < 12) (hf : f ≤ n) : sM Y mX1_append [.ref 2, .int (nI f), .double z] x (some (.int (nI n))) (apS x n f z) := by
  refine sM_of (by decide +kernel) (Nat.le_of_ble_eq_true rfl) (fun X h hY hR => ?_)
  have hT := kX1_append h
  have tail : ∀ (b : Int32) (L : Lo), lv_pick L [0, 1, 2, 3, 4] = [(5, .int b), (4, .int (nI n)), (0, .ref 2), (1, .int (nI f)), (2, .double z)] → retOK X (some (.int (nI n))) (u2 (u2 (u2 x.1 3 n (nI f)) 4 n (b ||| (1 <<< (nI n &&& 31)))) 2 2 (nI n + 1), u2 x.2.1 5 n z, x.2.2) → SW X mX1_append 24 L [] x := by
    intro b L hL hR
    refine sw_pick [0, 1, 2, 3, 4] hL ?_
    repeat (refine sw_s hT rfl rfl ?_)
    refine sw_iast hT rfl rfl (in12 hn12) ?_
    rw [cl12 hn12]
    repeat (refine sw_s hT rfl rfl ?_)
    refine sw_iast hT rfl rfl (in12 hn12) ?_
    rw [cl12 hn12]
    repeat (refine sw_s hT rfl rfl ?_)
    refine sw_dast hT rfl rfl (in12 hn12) ?_
    rw [cl12 hn12]
    repeat (refine sw_s hT rfl rfl ?_)
    exact sw_iret hT rfl rfl rfl (hR)
  unfold apS at hR
  repeat (refine sw_s hT rfl rfl ?_)
  rw [hn]
  cases f with
  | zero =>
    rw [if_pos rfl] at hR
    refine sw_b hT rfl rfl (fun _ => ?_) (fun c => absurd ((by decide)) c)
    refine sw_s hT rfl rfl ?_
    refine sw_s hT rfl rfl ?_
    refine sw_s hT rfl rfl ?_
    refine tail 0 _ ?_ hR
    rfl
  | succ f =>
    rw [if_neg (by omega)] at hR
    refine sw_b hT rfl rfl (fun c => absurd c ((nI_ne0 (Nat.succ_pos f) (by omega)))) (fun _ => ?_)
    repeat (refine sw_s hT rfl rfl ?_)
    rw [nI_pred]
    refine sw_iald hT rfl rfl (in12 (by omega)) ?_
    rw [cl12 (by omega)]
    refine sw_s hT rfl rfl ?_
    refine tail _ _ ?_ hR
    rfl
def pflS (l p : Int32) : Int32 := if (if (l * p + 99) / 100 < 20000 then (l * p + 99) / 100 else 20000) < 1 then 1 else (if (l * p + 99) / 100 < 20000 then (l * p + 99) / 100 else 20000)
theorem c_mixed (Y : Kx) (x : Hp) (h v : Int64) : sM Y mX6_mixed [.long h, .long v] x (some (.long (31 * h + v))) x := by
  refine sM_of (by decide +kernel) (Nat.le_of_ble_eq_true rfl) (fun X h hY hR => ?_)
  have hT := kX6_mixed h
  repeat (refine sw_s hT rfl rfl ?_)
  exact sw_lret hT rfl rfl (hR)
/-- the steps of bitsOf: doubling up to 2^52, then halving below 2^53 -/
def bUp : Nat → UInt64 → Int64 → UInt64 × Int64
  | 0, s, e => (s, e)
  | d + 1, s, e => if cmg s 4841369599423283200 < 0 then bUp d (FP.dmul s 4611686018427387904) (e - 1) else (s, e)
def bDn : Nat → UInt64 → Int64 → UInt64 × Int64
  | 0, s, e => (s, e)
  | d + 1, s, e => if cml s 4845873199050653696 < 0 then (s, e) else bDn d (FP.ddiv s 4611686018427387904) (e + 1)
theorem bDn_n {d : Nat} {s : UInt64} {e : Int64} (h : ¬ cml s 4845873199050653696 < 0) : bDn (d + 1) s e = bDn d (FP.ddiv s 4611686018427387904) (e + 1) := if_neg h
def bUpOK : Nat → UInt64 → Prop
  | 0, _ => True
  | d + 1, s => cmg s 4841369599423283200 < 0 → vf_n64 (FP.dmul s 4611686018427387904) ∧ bUpOK d (FP.dmul s 4611686018427387904)
def bDnOK : Nat → UInt64 → Prop
  | 0, _ => True
  | d + 1, s => ¬ cml s 4845873199050653696 < 0 → vf_n64 (FP.ddiv s 4611686018427387904) ∧ bDnOK d (FP.ddiv s 4611686018427387904)
def bitS2 (v : UInt64) : Int64 := if 0 < cml v 0 then (if cml v 9218868437227405312 < 0 then
    (((bDn 1100 (bUp 1100 v 1075).1 (bUp 1100 v 1075).2).2 <<< ((52 : Int32).toInt64 &&& 63)) + (FP.d2l (bDn 1100 (bUp 1100 v 1075).1 (bUp 1100 v 1075).2).1 - 4503599627370496)) else 9218868437227405312) else 0
def bitOK (v : UInt64) : Prop := bUpOK 1100 v ∧ bDnOK 1100 (bUp 1100 v 1075).1
theorem c_bitsOf (Y : Kx) (x : Hp) (v : UInt64) (ok : bitOK v) : sM Y mX6_bitsOf [.double v] x (some (.long (bitS2 v))) x := by
  refine sM_of (by decide +kernel) (Nat.le_of_ble_eq_true rfl) (fun X h hY hR => ?_)
  have hT := kX6_bitsOf h
  unfold bitS2 at hR
  obtain ⟨o1, o2⟩ := ok
  obtain ⟨u, hu⟩ : ∃ u, u = bUp 1100 v 1075 := ⟨_, rfl⟩
  rw [← hu] at hR o2
  have K2 : ∀ d j, d + j = 1100 → ∀ s e, bDnOK d s → bDn 1100 u.1 u.2 = bDn d s e → retOK X (some (.long (((bDn 1100 u.1 u.2).2 <<< ((52 : Int32).toInt64 &&& 63)) + (FP.d2l (bDn 1100 u.1 u.2).1 - 4503599627370496)))) x → SW X mX6_bitsOf 67 [(6, .int (nI j)), (4, .long e), (2, .double s)] [] x := by
    intro d
    induction d with
    | zero =>
      intro j hj s e _ he hR
      have hj0 : j = 1100 := by omega
      subst hj0
      rw [he] at hR
      repeat (refine sw_s hT rfl rfl ?_)
      refine sw_b hT rfl rfl (fun _ => ?_) (fun c => absurd ((by decide)) c)
      repeat (refine sw_s hT rfl rfl ?_)
      exact sw_lret hT rfl rfl (hR)
    | succ d ih =>
      intro j hj s e hok he hR
      repeat (refine sw_s hT rfl rfl ?_)
      refine sw_b hT rfl rfl (fun c => absurd c ((nI_ge (b := 1100) (by omega) (by omega)))) (fun _ => ?_)
      repeat (refine sw_s hT rfl rfl ?_)
      refine sw_b hT rfl rfl (fun c1 => ?_) (fun c1 => ?_)
      · have hp : cml s 4845873199050653696 < 0 := c1
        rw [he, bDn, if_pos hp] at hR
        repeat (refine sw_s hT rfl rfl ?_)
        exact sw_lret hT rfl rfl (hR)
      · have hn : ¬ cml s 4845873199050653696 < 0 := c1
        rw [bDn_n hn] at he
        obtain ⟨h1, h2⟩ := hok hn
        have k := ih (j + 1) (by omega) _ _ h2 he hR
        rw [← nI_1] at k
        repeat (refine sw_s hT rfl rfl ?_)
        refine sw_ddiv hT rfl (h1) ?_
        repeat (first | (refine sw_at (n := 67) rfl ?_; exact (sw_pick [0, 1, 2] rfl k)) | refine sw_s hT rfl rfl ?_)
  have K1 : ∀ d j, d + j = 1100 → ∀ s e, bUpOK d s → u = bUp d s e → retOK X (some (.long (((bDn 1100 u.1 u.2).2 <<< ((52 : Int32).toInt64 &&& 63)) + (FP.d2l (bDn 1100 u.1 u.2).1 - 4503599627370496)))) x → SW X mX6_bitsOf 30 [(6, .int (nI j)), (4, .long e), (2, .double s)] [] x := by
    intro d
    induction d with
    | zero =>
      intro j hj s e _ he hR
      have hj0 : j = 1100 := by omega
      subst hj0
      have k := K2 1100 0 (by omega) u.1 u.2 o2 rfl hR
      rw [he] at k
      repeat (refine sw_s hT rfl rfl ?_)
      refine sw_b hT rfl rfl (fun _ => ?_) (fun c => absurd ((by decide)) c)
      repeat (first | (refine sw_at (n := 67) rfl ?_; exact (k)) | refine sw_s hT rfl rfl ?_)
    | succ d ih =>
      intro j hj s e hok he hR
      repeat (refine sw_s hT rfl rfl ?_)
      refine sw_b hT rfl rfl (fun c => absurd c ((nI_ge (b := 1100) (by omega) (by omega)))) (fun _ => ?_)
      repeat (refine sw_s hT rfl rfl ?_)
      refine sw_b hT rfl rfl (fun c1 => ?_) (fun c1 => ?_)
      · have hn : ¬ cmg s 4841369599423283200 < 0 := Int32.not_lt.mpr c1
        rw [bUp, if_neg hn] at he
        have k := K2 1100 0 (by omega) u.1 u.2 o2 rfl hR
        rw [he] at k
        repeat (first | (refine sw_at (n := 67) rfl ?_; exact (k)) | refine sw_s hT rfl rfl ?_)
      · have hp : cmg s 4841369599423283200 < 0 := Int32.not_le.mp c1
        rw [bUp, if_pos hp] at he
        obtain ⟨h1, h2⟩ := hok hp
        have k := ih (j + 1) (by omega) _ _ h2 he hR
        rw [← nI_1] at k
        repeat (refine sw_s hT rfl rfl ?_)
        refine sw_dmul hT rfl (h1) ?_
        repeat (first | (refine sw_at (n := 30) rfl ?_; exact (sw_pick [0, 1, 2] rfl k)) | refine sw_s hT rfl rfl ?_)
  repeat (refine sw_s hT rfl rfl ?_)
  refine sw_b hT rfl rfl (fun c1 => ?_) (fun c1 => ?_)
  · rw [if_pos (show 0 < cml v 0 from c1)] at hR
    repeat (refine sw_s hT rfl rfl ?_)
    refine sw_cs hT rfl (c_infinity _ x) rfl rfl (Nat.le_of_ble_eq_true rfl) ?_
    repeat (refine sw_s hT rfl rfl ?_)
    refine sw_b hT rfl rfl (fun c2 => ?_) (fun c2 => ?_)
    · rw [if_pos (show cml v 9218868437227405312 < 0 from c2)] at hR
      have k := K1 1100 0 (by omega) v 1075 o1 hu hR
      repeat (first | (refine sw_at (n := 30) rfl ?_; exact (sw_pick [0, 1, 2] rfl k)) | refine sw_s hT rfl rfl ?_)
    · rw [if_neg (show ¬ cml v 9218868437227405312 < 0 from c2)] at hR
      repeat (refine sw_s hT rfl rfl ?_)
      exact sw_lret hT rfl rfl (hR)
  · rw [if_neg (show ¬ 0 < cml v 0 from c1)] at hR
    repeat (refine sw_s hT rfl rfl ?_)
    exact sw_lret hT rfl rfl (hR)
