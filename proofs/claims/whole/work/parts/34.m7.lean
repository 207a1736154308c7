/-! the reference's face: questions and setters -/
def th (x : Hp) (v : Int32) : Hp := (u2 x.1 83 0 v, x.2)
theorem th_def {x : Hp} {v : Int32} : ((u2 x.1 83 0 v, x.2) : Hp) = th x v := rfl
theorem fks_th {x : Hp} {v : Int32} : fks (th x v) 83 0 0 = .int v := congrArg Value.int (u2_at x.1 83 0 v)
theorem th_o {x : Hp} {v : Int32} {i : Nat} (h : i ≠ 83) : (th x v).1 i = x.1 i := u2_ne h
theorem th_k {x : Hp} {v : Int32} {k : Nat} (h : k ≠ 0) : (th x v).1 83 k = x.1 83 k := u2_k x.1 83 0 v h
theorem th_0 {x : Hp} {v : Int32} : (th x v).1 83 0 = v := u2_at x.1 83 0 v
theorem th_2 {x : Hp} {v : Int32} : (th x v).2 = x.2 := rfl
theorem REL_th {g x : Hp} {n : Nat} {v : Int32} (h : REL g x n) : REL g (th x v) n := REL_fr h (th_o (by decide)) rfl
theorem MO_th {g x : Hp} {n : Nat} {v : Int32} (h : MO g x n) : MO g (th x v) n := MO_sc0 sc0_0 h
theorem bI_1' {c : Prop} [Decidable c] (h : c) : bI c ≠ 0 := bI_1 h
theorem isL {x : Hp} {n k : Nat} (h0 : x.1 84 0 = nI n) (h12 : n ≤ 12) (hk : k < n) : ¬ bI (0 ≤ nI k ∧ nI k ≤ x.1 84 0 - 1) = 0 := by
  rw [h0, show nI n - 1 = nI (n - 1) by rw [show nI n = nI ((n - 1) + 1) by rw [Nat.sub_add_cancel (by omega)], nI_pred]]
  exact bI_1 ⟨nI_pos' (by omega), nI_le (by omega) (by omega)⟩
theorem inN {a lo hi : Nat} (h1 : lo ≤ a) (h2 : a ≤ hi) (h3 : hi < 2147483648) : ¬ bI (nI lo ≤ nI a ∧ nI a ≤ nI hi) = 0 := bI_1 ⟨nI_le h1 (by omega), nI_le h2 h3⟩
theorem r_change (Y : Kx) (x : Hp) (c j : Nat) (v : Int32) (hc : c ≤ 4) (h5 : x.1 83 5 = nI c) (hj : j < 170) : sR Y mX7_change [.ref 83, .int (nI j), .int v] x (fun rr x' => ∃ z, svP x c z ∧ rr = some (.int (x.1 84 j)) ∧ x' = (u2 z.1 84 j v, z.2)) := by
  refine sR_of (by decide +kernel) (Nat.le_of_ble_eq_true rfl) (fun X h hY hR => ?_)
  have hT := kX7_change h
  repeat (refine sw_s hT rfl rfl ?_)
  refine sw_cvR hT rfl (r_save _ x c hc h5) rfl rfl rfl rfl (Nat.le_of_ble_eq_true rfl) ?_
  rintro _ z ⟨rfl, hz⟩
  have e84 : z.1 84 = x.1 84 := hz.1.1 84 (by decide)
  show SW X mX7_change 4 _ [] z
  repeat (refine sw_s hT rfl rfl ?_)
  refine sw_iald hT rfl rfl (inW hj) ?_
  rw [clW (by omega), e84]
  repeat (refine sw_s hT rfl rfl ?_)
  refine sw_iast hT rfl rfl (inW hj) ?_
  rw [clW (by omega)]
  repeat (refine sw_s hT rfl rfl ?_)
  refine sw_iretP hT rfl rfl rfl hR ?_
  exact ⟨z, hz, rfl, rfl⟩
theorem r_told (Y : Kx) (x : Hp) (n k w : Nat) (h0 : x.1 84 0 = nI n) (h12 : n ≤ 12) (hk : k < n) (hw : w ≤ 8) : sM Y mX7_told [.ref 83, .int (nI k), .int (nI w)] x (some (.int (x.1 84 (2 + 9 * k + w)))) (th x 0) := by
  refine sM_of (by decide +kernel) (Nat.le_of_ble_eq_true rfl) (fun X h hY hR => ?_)
  have hT := kX7_told h
  repeat (refine sw_s hT rfl rfl ?_)
  refine sw_cv hT rfl (r_isLine _ x (nI k)) rfl rfl rfl rfl (Nat.le_of_ble_eq_true rfl) ?_
  refine sw_b hT rfl rfl (fun c => absurd c ((isL h0 h12 hk))) (fun _ => ?_)
  repeat (refine sw_s hT rfl rfl ?_)
  rw [th_def, fks_th]
  refine sw_b hT rfl rfl (fun _ => ?_) (fun c => absurd ((by decide)) c)
  repeat (refine sw_s hT rfl rfl ?_)
  refine sw_cs hT rfl (r_at _ (th x 0) k w) rfl rfl (Nat.le_of_ble_eq_true rfl) ?_
  refine sw_iald hT rfl rfl (inW (by omega)) ?_
  rw [clW (by omega), th_o (by decide)]
  repeat (refine sw_s hT rfl rfl ?_)
  exact sw_iret hT rfl rfl rfl (hR)
theorem b_told (Y : Kx) (x : Hp) (v w : Int32) (hv : ¬ (0 ≤ v ∧ v ≤ x.1 84 0 - 1)) : sM Y mX7_told [.ref 83, .int v, .int w] x (some (.int 0)) (th x 1) := by
  refine sM_of (by decide +kernel) (Nat.le_of_ble_eq_true rfl) (fun X h hY hR => ?_)
  have hT := kX7_told h
  repeat (refine sw_s hT rfl rfl ?_)
  refine sw_cv hT rfl (r_isLine _ x v) rfl rfl rfl rfl (Nat.le_of_ble_eq_true rfl) ?_
  refine sw_b hT rfl rfl (fun _ => ?_) (fun c => absurd (bI_f hv) c)
  repeat (refine sw_s hT rfl rfl ?_)
  rw [th_def, fks_th]
  refine sw_b hT rfl rfl (fun c => absurd c ((by decide))) (fun _ => ?_)
  repeat (refine sw_s hT rfl rfl ?_)
  exact sw_iret hT rfl rfl rfl (hR)
theorem r_pickup (Y : Kx) (x : Hp) (n k : Nat) (h0 : x.1 84 0 = nI n) (h12 : n ≤ 12) (hk : k < n) : sM Y mX7_pickup [.ref 83, .int (nI k)] x (some (.int (x.1 84 (2 + 9 * k + 2)))) (th x 0) := by
  refine sM_of (by decide +kernel) (Nat.le_of_ble_eq_true rfl) (fun X h hY hR => ?_)
  have hT := kX7_pickup h
  repeat (refine sw_s hT rfl rfl ?_)
  rw [show (2 : Int32) = nI 2 by decide]
  refine sw_cv hT rfl (r_told _ x n k 2 h0 h12 hk (by omega)) rfl rfl rfl rfl (Nat.le_of_ble_eq_true rfl) ?_
  exact sw_iret hT rfl rfl rfl (hR)
theorem b_pickup (Y : Kx) (x : Hp) (v : Int32) (hv : ¬ (0 ≤ v ∧ v ≤ x.1 84 0 - 1)) : sM Y mX7_pickup [.ref 83, .int v] x (some (.int 0)) (th x 1) := by
  refine sM_of (by decide +kernel) (Nat.le_of_ble_eq_true rfl) (fun X h hY hR => ?_)
  have hT := kX7_pickup h
  repeat (refine sw_s hT rfl rfl ?_)
  refine sw_cv hT rfl (b_told _ x v _ hv) rfl rfl rfl rfl (Nat.le_of_ble_eq_true rfl) ?_
  exact sw_iret hT rfl rfl rfl (hR)
theorem r_steps (Y : Kx) (x : Hp) (n k : Nat) (h0 : x.1 84 0 = nI n) (h12 : n ≤ 12) (hk : k < n) : sM Y mX7_steps [.ref 83, .int (nI k)] x (some (.int (x.1 84 (2 + 9 * k + 4)))) (th x 0) := by
  refine sM_of (by decide +kernel) (Nat.le_of_ble_eq_true rfl) (fun X h hY hR => ?_)
  have hT := kX7_steps h
  repeat (refine sw_s hT rfl rfl ?_)
  rw [show (4 : Int32) = nI 4 by decide]
  refine sw_cv hT rfl (r_told _ x n k 4 h0 h12 hk (by omega)) rfl rfl rfl rfl (Nat.le_of_ble_eq_true rfl) ?_
  exact sw_iret hT rfl rfl rfl (hR)
theorem b_steps (Y : Kx) (x : Hp) (v : Int32) (hv : ¬ (0 ≤ v ∧ v ≤ x.1 84 0 - 1)) : sM Y mX7_steps [.ref 83, .int v] x (some (.int 0)) (th x 1) := by
  refine sM_of (by decide +kernel) (Nat.le_of_ble_eq_true rfl) (fun X h hY hR => ?_)
  have hT := kX7_steps h
  repeat (refine sw_s hT rfl rfl ?_)
  refine sw_cv hT rfl (b_told _ x v _ hv) rfl rfl rfl rfl (Nat.le_of_ble_eq_true rfl) ?_
  exact sw_iret hT rfl rfl rfl (hR)
theorem r_upstream (Y : Kx) (x : Hp) (n k : Nat) (h0 : x.1 84 0 = nI n) (h12 : n ≤ 12) (hk : k < n) : sM Y mX7_upstream [.ref 83, .int (nI k)] x (some (.int (if x.1 84 (2 + 9 * k) = 0 then -1 else x.1 84 (2 + 9 * k) - 1))) (th x 0) := by
  refine sM_of (by decide +kernel) (Nat.le_of_ble_eq_true rfl) (fun X h hY hR => ?_)
  have hT := kX7_upstream h
  repeat (refine sw_s hT rfl rfl ?_)
  rw [show (0 : Int32) = nI 0 by decide]
  refine sw_cv hT rfl (r_told _ x n k 0 h0 h12 hk (by omega)) rfl rfl rfl rfl (Nat.le_of_ble_eq_true rfl) ?_
  repeat (refine sw_s hT rfl rfl ?_)
  rw [fks_th]
  refine sw_b hT rfl rfl (fun _ => ?_) (fun c => absurd ((by decide)) c)
  repeat (refine sw_s hT rfl rfl ?_)
  refine sw_b hT rfl rfl (fun c1 => ?_) (fun c1 => ?_)
  · rw [if_pos (show x.1 84 (2 + 9 * k) = 0 from c1)] at hR
    repeat (refine sw_s hT rfl rfl ?_)
    exact sw_iret hT rfl rfl rfl (hR)
  · rw [if_neg (show ¬ x.1 84 (2 + 9 * k) = 0 from c1)] at hR
    repeat (refine sw_s hT rfl rfl ?_)
    exact sw_iret hT rfl rfl rfl (hR)
theorem b_upstream (Y : Kx) (x : Hp) (v : Int32) (hv : ¬ (0 ≤ v ∧ v ≤ x.1 84 0 - 1)) : sM Y mX7_upstream [.ref 83, .int v] x (some (.int 0)) (th x 1) := by
  refine sM_of (by decide +kernel) (Nat.le_of_ble_eq_true rfl) (fun X h hY hR => ?_)
  have hT := kX7_upstream h
  repeat (refine sw_s hT rfl rfl ?_)
  refine sw_cv hT rfl (b_told _ x v _ hv) rfl rfl rfl rfl (Nat.le_of_ble_eq_true rfl) ?_
  repeat (refine sw_s hT rfl rfl ?_)
  rw [fks_th]
  refine sw_b hT rfl rfl (fun c => absurd c ((by decide))) (fun _ => ?_)
  repeat (refine sw_s hT rfl rfl ?_)
  exact sw_iret hT rfl rfl rfl (hR)
theorem r_loadCurrent (Y : Kx) (g x : Hp) (n k : Nat) (hB : MB g x n) (hk : k < n) : sM Y mX7_loadCurrent [.ref 83, .int (nI k)] x (some (.int (loM g x k n))) (th x 0) := by
  refine sM_of (by decide +kernel) (Nat.le_of_ble_eq_true rfl) (fun X h hY hR => ?_)
  have hT := kX7_loadCurrent h
  have hB2 : MB g (th x 0) n := ⟨hB.1, by rw [th_o (by decide)]; exact hB.2.1, fun k hk => by rw [th_o (by decide)]; exact hB.2.2 k hk⟩
  have hl : ∀ b, loM g (th x 0) k b = loM g x k b := by
    intro b
    induction b with
    | zero => rfl
    | succ b ih => unfold loM; rw [ih, th_o (by decide)]
  repeat (refine sw_s hT rfl rfl ?_)
  refine sw_cv hT rfl (r_isLine _ x (nI k)) rfl rfl rfl rfl (Nat.le_of_ble_eq_true rfl) ?_
  refine sw_b hT rfl rfl (fun c => absurd c ((isL hB.2.1 hB.1 hk))) (fun _ => ?_)
  repeat (refine sw_s hT rfl rfl ?_)
  rw [th_def, fks_th]
  refine sw_b hT rfl rfl (fun _ => ?_) (fun c => absurd ((by decide)) c)
  repeat (refine sw_s hT rfl rfl ?_)
  refine sw_cv hT rfl (r_loadOver _ g (th x 0) n k hB2 hk) rfl rfl rfl rfl (Nat.le_of_ble_eq_true rfl) ?_
  rw [hl]
  exact sw_iret hT rfl rfl rfl (hR)
theorem b_loadCurrent (Y : Kx) (x : Hp) (v : Int32) (hv : ¬ (0 ≤ v ∧ v ≤ x.1 84 0 - 1)) : sM Y mX7_loadCurrent [.ref 83, .int v] x (some (.int 0)) (th x 1) := by
  refine sM_of (by decide +kernel) (Nat.le_of_ble_eq_true rfl) (fun X h hY hR => ?_)
  have hT := kX7_loadCurrent h
  repeat (refine sw_s hT rfl rfl ?_)
  refine sw_cv hT rfl (r_isLine _ x v) rfl rfl rfl rfl (Nat.le_of_ble_eq_true rfl) ?_
  refine sw_b hT rfl rfl (fun _ => ?_) (fun c => absurd (bI_f hv) c)
  repeat (refine sw_s hT rfl rfl ?_)
  rw [th_def, fks_th]
  refine sw_b hT rfl rfl (fun c => absurd c ((by decide))) (fun _ => ?_)
  repeat (refine sw_s hT rfl rfl ?_)
  exact sw_iret hT rfl rfl rfl (hR)
theorem r_isLocation (Y : Kx) (x : Hp) (v p : Int32) : sM Y mX7_isLocation [.ref 83, .int v, .int p] x (some (.int (bI ((0 ≤ v ∧ v ≤ x.1 84 0 - 1) ∧ 0 ≤ p ∧ p ≤ 100)))) x := by
  refine sM_of (by decide +kernel) (Nat.le_of_ble_eq_true rfl) (fun X h hY hR => ?_)
  have hT := kX7_isLocation h
  repeat (refine sw_s hT rfl rfl ?_)
  refine sw_cv hT rfl (r_isLine _ x v) rfl rfl rfl rfl (Nat.le_of_ble_eq_true rfl) ?_
  refine sw_b hT rfl rfl (fun c1 => ?_) (fun c1 => ?_)
  · repeat (refine sw_s hT rfl rfl ?_)
    rw [bI_f (fun q => bI_0.mp c1 q.1)] at hR
    exact sw_iret hT rfl rfl rfl (hR)
  · repeat (refine sw_s hT rfl rfl ?_)
    refine sw_cs hT rfl (r_in _ x p 0 100) rfl rfl (Nat.le_of_ble_eq_true rfl) ?_
    refine sw_b hT rfl rfl (fun c2 => ?_) (fun c2 => ?_)
    · repeat (refine sw_s hT rfl rfl ?_)
      rw [bI_f (fun q => bI_0.mp c2 q.2)] at hR
      exact sw_iret hT rfl rfl rfl (hR)
    · repeat (refine sw_s hT rfl rfl ?_)
      rw [bI_t ⟨Decidable.byContradiction (fun q => c1 (bI_0.mpr q)), Decidable.byContradiction (fun q => c2 (bI_0.mpr q))⟩] at hR
      exact sw_iret hT rfl rfl rfl (hR)
theorem isP {x : Hp} {n k p : Nat} (h0 : x.1 84 0 = nI n) (h12 : n ≤ 12) (hk : k < n) (hp : p ≤ 100) : ¬ bI ((0 ≤ nI k ∧ nI k ≤ x.1 84 0 - 1) ∧ 0 ≤ nI p ∧ nI p ≤ 100) = 0 :=
  bI_1 ⟨Decidable.byContradiction (fun q => isL h0 h12 hk (bI_0.mpr q)), Decidable.byContradiction (fun q => inN (a := p) (lo := 0) (hi := 100) (by omega) hp (by omega) (bI_0.mpr q))⟩
theorem r_faultCurrent (Y : Kx) (g x : Hp) (n k p : Nat) (hR0 : REL g x n) (hk : k < n) (hp : p ≤ 100) (ok : curOK g k (nI p)) : sR Y mX7_faultCurrent [.ref 83, .int (nI k), .int (nI p)] x (fun rr x' => rr = some (.double (curS g k (nI p))) ∧ scr (th x 0) x') := by
  refine sR_of (by decide +kernel) (Nat.le_of_ble_eq_true rfl) (fun X h hY hR => ?_)
  have hT := kX7_faultCurrent h
  repeat (refine sw_s hT rfl rfl ?_)
  refine sw_cv hT rfl (r_isLocation _ x (nI k) (nI p)) rfl rfl rfl rfl (Nat.le_of_ble_eq_true rfl) ?_
  refine sw_b hT rfl rfl (fun c => absurd c ((isP hR0.1.2.1 hR0.1.1 hk hp))) (fun _ => ?_)
  repeat (refine sw_s hT rfl rfl ?_)
  rw [th_def, fks_th]
  refine sw_b hT rfl rfl (fun _ => ?_) (fun c => absurd ((by decide)) c)
  repeat (refine sw_s hT rfl rfl ?_)
  refine sw_cvR hT rfl (r_currentAt _ g (th x 0) n k p (REL_th hR0) hk hp ok) rfl rfl rfl rfl (Nat.le_of_ble_eq_true rfl) ?_
  rintro _ y ⟨rfl, ys, -⟩
  show SW X mX7_faultCurrent 35 _ [_] y
  refine sw_dretP hT rfl rfl hR ?_
  exact ⟨rfl, ys⟩
theorem b_faultCurrent (Y : Kx) (x : Hp) (v p : Int32) (hv : ¬ ((0 ≤ v ∧ v ≤ x.1 84 0 - 1) ∧ 0 ≤ p ∧ p ≤ 100)) : sM Y mX7_faultCurrent [.ref 83, .int v, .int p] x (some (.double 0)) (th x 1) := by
  refine sM_of (by decide +kernel) (Nat.le_of_ble_eq_true rfl) (fun X h hY hR => ?_)
  have hT := kX7_faultCurrent h
  repeat (refine sw_s hT rfl rfl ?_)
  refine sw_cv hT rfl (r_isLocation _ x v p) rfl rfl rfl rfl (Nat.le_of_ble_eq_true rfl) ?_
  refine sw_b hT rfl rfl (fun _ => ?_) (fun c => absurd (bI_f hv) c)
  repeat (refine sw_s hT rfl rfl ?_)
  rw [th_def, fks_th]
  refine sw_b hT rfl rfl (fun c => absurd c ((by decide))) (fun _ => ?_)
  repeat (refine sw_s hT rfl rfl ?_)
  exact sw_dret hT rfl rfl (hR)
theorem r_operatingTime (Y : Kx) (g x : Hp) (n k : Nat) (v : UInt64) (hR0 : REL g x n) (hG : RG1 g n) (hk : k < n) (hv : inD v 0 4741671816366391296) (ok : tfOK g k v) : sM Y mX7_operatingTime [.ref 83, .int (nI k), .double v] x (some (.double (tfS g k v))) (th x 0) := by
  refine sM_of (by decide +kernel) (Nat.le_of_ble_eq_true rfl) (fun X h hY hR => ?_)
  have hT := kX7_operatingTime h
  repeat (refine sw_s hT rfl rfl ?_)
  refine sw_cv hT rfl (r_isLine _ x (nI k)) rfl rfl rfl rfl (Nat.le_of_ble_eq_true rfl) ?_
  refine sw_b hT rfl rfl (fun c => absurd c ((isL hR0.1.2.1 hR0.1.1 hk))) (fun _ => ?_)
  repeat (refine sw_s hT rfl rfl ?_)
  refine sw_cs hT rfl (r_inReal _ x v 0 4741671816366391296) rfl rfl (Nat.le_of_ble_eq_true rfl) ?_
  refine sw_b hT rfl rfl (fun c => absurd c ((hv))) (fun _ => ?_)
  repeat (refine sw_s hT rfl rfl ?_)
  rw [th_def, fks_th]
  refine sw_b hT rfl rfl (fun _ => ?_) (fun c => absurd ((by decide)) c)
  repeat (refine sw_s hT rfl rfl ?_)
  refine sw_cv hT rfl (r_timeOf _ g (th x 0) n k v (REL_th hR0) hG hk ok) rfl rfl rfl rfl (Nat.le_of_ble_eq_true rfl) ?_
  exact sw_dret hT rfl rfl (hR)
theorem b_operatingTime (Y : Kx) (x : Hp) (v : Int32) (d : UInt64) (hv : ¬ ((0 ≤ v ∧ v ≤ x.1 84 0 - 1) ∧ inD d 0 4741671816366391296)) : sM Y mX7_operatingTime [.ref 83, .int v, .double d] x (some (.double 0)) (th x 1) := by
  refine sM_of (by decide +kernel) (Nat.le_of_ble_eq_true rfl) (fun X h hY hR => ?_)
  have hT := kX7_operatingTime h
  repeat (refine sw_s hT rfl rfl ?_)
  refine sw_cv hT rfl (r_isLine _ x v) rfl rfl rfl rfl (Nat.le_of_ble_eq_true rfl) ?_
  refine sw_b hT rfl rfl (fun c1 => ?_) (fun c1 => ?_)
  · repeat (refine sw_s hT rfl rfl ?_)
    rw [th_def, fks_th]
    refine sw_b hT rfl rfl (fun c => absurd c ((by decide))) (fun _ => ?_)
    repeat (refine sw_s hT rfl rfl ?_)
    exact sw_dret hT rfl rfl (hR)
  · repeat (refine sw_s hT rfl rfl ?_)
    refine sw_cs hT rfl (r_inReal _ x d 0 4741671816366391296) rfl rfl (Nat.le_of_ble_eq_true rfl) ?_
    refine sw_b hT rfl rfl (fun c2 => ?_) (fun c2 => ?_)
    · repeat (refine sw_s hT rfl rfl ?_)
      rw [th_def, fks_th]
      refine sw_b hT rfl rfl (fun c => absurd c ((by decide))) (fun _ => ?_)
      repeat (refine sw_s hT rfl rfl ?_)
      exact sw_dret hT rfl rfl (hR)
    · exact absurd ⟨Decidable.byContradiction (fun q => c1 (bI_0.mpr q)), c2⟩ hv
theorem r_sensitivity (Y : Kx) (g x : Hp) (n k : Nat) (hR0 : REL g x n) (hk : k < n) (ok : curOK g k (nI 100)) (o2 : vf_n64 (FP.dmul (curS g k (nI 100)) 4605975454099882115)) (o3 : vf_n64 (FP.ddiv (FP.dmul (curS g k (nI 100)) 4605975454099882115) (FP.i2d (g.1 8 k)))) : sR Y mX7_sensitivity [.ref 83, .int (nI k)] x (fun rr x' => rr = some (.double (FP.ddiv (FP.dmul (curS g k (nI 100)) 4605975454099882115) (FP.i2d (g.1 8 k)))) ∧ scr (th x 0) x') := by
  refine sR_of (by decide +kernel) (Nat.le_of_ble_eq_true rfl) (fun X h hY hR => ?_)
  have hT := kX7_sensitivity h
  have h12 := hR0.1.1
  repeat (refine sw_s hT rfl rfl ?_)
  refine sw_cv hT rfl (r_isLine _ x (nI k)) rfl rfl rfl rfl (Nat.le_of_ble_eq_true rfl) ?_
  refine sw_b hT rfl rfl (fun c => absurd c ((isL hR0.1.2.1 hR0.1.1 hk))) (fun _ => ?_)
  repeat (refine sw_s hT rfl rfl ?_)
  rw [th_def, fks_th]
  refine sw_b hT rfl rfl (fun _ => ?_) (fun c => absurd ((by decide)) c)
  repeat (refine sw_s hT rfl rfl ?_)
  rw [show (100 : Int32) = nI 100 by decide]
  refine sw_cvR hT rfl (r_currentAt _ g (th x 0) n k 100 (REL_th hR0) hk (by omega) ok) rfl rfl rfl rfl (Nat.le_of_ble_eq_true rfl) ?_
  rintro _ y ⟨rfl, ys, -⟩
  have yR := REL_scr (REL_th hR0) ys
  show SW X mX7_sensitivity 35 _ [_] y
  repeat (refine sw_s hT rfl rfl ?_)
  refine sw_dmul hT rfl (o2) ?_
  repeat (refine sw_s hT rfl rfl ?_)
  refine sw_cs hT rfl (r_atL _ y k 2 2 (by decide)) rfl rfl (Nat.le_of_ble_eq_true rfl) ?_
  refine sw_iald hT rfl rfl (inW (by omega)) ?_
  rw [clW (by omega), (yR.2.2.2.2.2 k hk).2.1]
  repeat (refine sw_s hT rfl rfl ?_)
  refine sw_ddiv hT rfl (o3) ?_
  refine sw_dretP hT rfl rfl hR ?_
  exact ⟨rfl, ys⟩
theorem b_sensitivity (Y : Kx) (x : Hp) (v : Int32) (hv : ¬ (0 ≤ v ∧ v ≤ x.1 84 0 - 1)) : sM Y mX7_sensitivity [.ref 83, .int v] x (some (.double 0)) (th x 1) := by
  refine sM_of (by decide +kernel) (Nat.le_of_ble_eq_true rfl) (fun X h hY hR => ?_)
  have hT := kX7_sensitivity h
  repeat (refine sw_s hT rfl rfl ?_)
  refine sw_cv hT rfl (r_isLine _ x v) rfl rfl rfl rfl (Nat.le_of_ble_eq_true rfl) ?_
  refine sw_b hT rfl rfl (fun _ => ?_) (fun c => absurd (bI_f hv) c)
  repeat (refine sw_s hT rfl rfl ?_)
  rw [th_def, fks_th]
  refine sw_b hT rfl rfl (fun c => absurd c ((by decide))) (fun _ => ?_)
  repeat (refine sw_s hT rfl rfl ?_)
  exact sw_dret hT rfl rfl (hR)
theorem r_margin (Y : Kx) (g x : Hp) (n k u p : Nat) (hM : MG g x n) (hk : k < n) (hu : fbN g k = u + 1) (hp : p ≤ 100) : sR Y mX7_margin [.ref 83, .int (nI k), .int (nI p)] x (fun rr x' => rr = some (.double (mgS g k u (nI p))) ∧ scr (th x 0) x') := by
  refine sR_of (by decide +kernel) (Nat.le_of_ble_eq_true rfl) (fun X h hY hR => ?_)
  have hT := kX7_margin h
  have h12 := hM.1.1.1
  have f2 := (hM.2.1.2.2.1 k hk).2
  repeat (refine sw_s hT rfl rfl ?_)
  refine sw_cv hT rfl (r_isLocation _ x (nI k) (nI p)) rfl rfl rfl rfl (Nat.le_of_ble_eq_true rfl) ?_
  refine sw_b hT rfl rfl (fun c => absurd c ((isP hM.1.1.2.1 hM.1.1.1 hk hp))) (fun _ => ?_)
  repeat (refine sw_s hT rfl rfl ?_)
  refine sw_cv hT rfl (r_above _ g x n k hM.1.1 hk) rfl rfl rfl rfl (Nat.le_of_ble_eq_true rfl) ?_
  rw [hu, nI_pred]
  refine sw_b hT rfl rfl (fun _ => ?_) (fun c => absurd ((nI_pos' (by omega))) c)
  repeat (refine sw_s hT rfl rfl ?_)
  rw [th_def, fks_th]
  refine sw_b hT rfl rfl (fun _ => ?_) (fun c => absurd ((by decide)) c)
  repeat (refine sw_s hT rfl rfl ?_)
  refine sw_cvR hT rfl (r_marginOf _ g (th x 0) n k u p ⟨REL_th hM.1, hM.2⟩ hk hu hp) rfl rfl rfl rfl (Nat.le_of_ble_eq_true rfl) ?_
  rintro _ y ⟨rfl, ys⟩
  show SW X mX7_margin 47 _ [_] y
  refine sw_dretP hT rfl rfl hR ?_
  exact ⟨rfl, ys⟩
theorem b_margin1 (Y : Kx) (x : Hp) (v p : Int32) (hv : ¬ ((0 ≤ v ∧ v ≤ x.1 84 0 - 1) ∧ 0 ≤ p ∧ p ≤ 100)) : sM Y mX7_margin [.ref 83, .int v, .int p] x (some (.double 0)) (th x 1) := by
  refine sM_of (by decide +kernel) (Nat.le_of_ble_eq_true rfl) (fun X h hY hR => ?_)
  have hT := kX7_margin h
  repeat (refine sw_s hT rfl rfl ?_)
  refine sw_cv hT rfl (r_isLocation _ x v p) rfl rfl rfl rfl (Nat.le_of_ble_eq_true rfl) ?_
  refine sw_b hT rfl rfl (fun _ => ?_) (fun c => absurd (bI_f hv) c)
  repeat (refine sw_s hT rfl rfl ?_)
  rw [th_def, fks_th]
  refine sw_b hT rfl rfl (fun c => absurd c ((by decide))) (fun _ => ?_)
  repeat (refine sw_s hT rfl rfl ?_)
  exact sw_dret hT rfl rfl (hR)
theorem b_margin2 (Y : Kx) (g x : Hp) (n k p : Nat) (hB : MB g x n) (hk : k < n) (hu : fbN g k = 0) (hp : p ≤ 100) : sM Y mX7_margin [.ref 83, .int (nI k), .int (nI p)] x (some (.double 0)) (th x 2) := by
  refine sM_of (by decide +kernel) (Nat.le_of_ble_eq_true rfl) (fun X h hY hR => ?_)
  have hT := kX7_margin h
  repeat (refine sw_s hT rfl rfl ?_)
  refine sw_cv hT rfl (r_isLocation _ x (nI k) (nI p)) rfl rfl rfl rfl (Nat.le_of_ble_eq_true rfl) ?_
  refine sw_b hT rfl rfl (fun c => absurd c ((isP hB.2.1 hB.1 hk hp))) (fun _ => ?_)
  repeat (refine sw_s hT rfl rfl ?_)
  refine sw_cv hT rfl (r_above _ g x n k hB hk) rfl rfl rfl rfl (Nat.le_of_ble_eq_true rfl) ?_
  rw [hu]
  refine sw_b hT rfl rfl (fun c => absurd c ((by decide))) (fun _ => ?_)
  repeat (refine sw_s hT rfl rfl ?_)
  rw [th_def, fks_th]
  refine sw_b hT rfl rfl (fun c => absurd c ((by decide))) (fun _ => ?_)
  repeat (refine sw_s hT rfl rfl ?_)
  exact sw_dret hT rfl rfl (hR)
theorem r_violationCount (Y : Kx) (g x : Hp) (n : Nat) (hM : MO g x n) : sR Y mX7_violationCount [.ref 83] x (fun rr x' => rr = some (.int (nI (cvS g n))) ∧ scr (th x 0) x') := by
  refine sR_of (by decide +kernel) (Nat.le_of_ble_eq_true rfl) (fun X h hY hR => ?_)
  have hT := kX7_violationCount h
  repeat (refine sw_s hT rfl rfl ?_)
  rw [th_def]
  refine sw_cvR hT rfl (r_violations _ g (th x 0) n (MO_th hM)) rfl rfl rfl rfl (Nat.le_of_ble_eq_true rfl) ?_
  rintro _ y ⟨rfl, ys⟩
  show SW X mX7_violationCount 9 _ [_] y
  refine sw_iretP hT rfl rfl rfl hR ?_
  exact ⟨rfl, ys⟩
theorem r_eventCount (Y : Kx) (x : Hp) : sM Y mX7_eventCount [.ref 83] x (some (.int (x.1 84 1))) (th x 0) := by
  refine sM_of (by decide +kernel) (Nat.le_of_ble_eq_true rfl) (fun X h hY hR => ?_)
  have hT := kX7_eventCount h
  repeat (refine sw_s hT rfl rfl ?_)
  rw [th_def]
  refine sw_iald hT rfl rfl (inW (by omega : 1 < 170)) ?_
  rw [show (1 : Int32).toNatClampNeg = 1 by decide, th_o (by decide)]
  exact sw_iret hT rfl rfl rfl (hR)
theorem isE {x : Hp} {n k : Nat} (h0 : x.1 84 1 = nI n) (h12 : n ≤ 60) (hk : k < n) : ¬ bI (0 ≤ nI k ∧ nI k ≤ x.1 84 1 - 1) = 0 := by
  rw [h0, show nI n - 1 = nI (n - 1) by rw [show nI n = nI ((n - 1) + 1) by rw [Nat.sub_add_cancel (by omega)], nI_pred]]
  exact bI_1 ⟨nI_pos' (by omega), nI_le (by omega) (by omega)⟩
theorem r_event (Y : Kx) (x : Hp) (n k : Nat) (h0 : x.1 84 1 = nI n) (h60 : n ≤ 60) (hk : k < n) : sM Y mX7_event [.ref 83, .int (nI k)] x (some (.int (x.1 84 (110 + k)))) (th x 0) := by
  refine sM_of (by decide +kernel) (Nat.le_of_ble_eq_true rfl) (fun X h hY hR => ?_)
  have hT := kX7_event h
  repeat (refine sw_s hT rfl rfl ?_)
  refine sw_iald hT rfl rfl (inW (by omega : 1 < 170)) ?_
  rw [show (1 : Int32).toNatClampNeg = 1 by decide]
  repeat (refine sw_s hT rfl rfl ?_)
  refine sw_cs hT rfl (r_in _ x (nI k) 0 _) rfl rfl (Nat.le_of_ble_eq_true rfl) ?_
  refine sw_b hT rfl rfl (fun c => absurd c ((isE h0 h60 hk))) (fun _ => ?_)
  repeat (refine sw_s hT rfl rfl ?_)
  rw [th_def, fks_th]
  refine sw_b hT rfl rfl (fun _ => ?_) (fun c => absurd ((by decide)) c)
  repeat (refine sw_s hT rfl rfl ?_)
  rw [show (110 : Int32) + nI k = nI (110 + k) by rw [show (110 : Int32) = nI 110 by decide, nI_add]]
  refine sw_iald hT rfl rfl (inW (by omega)) ?_
  rw [clW (by omega), th_o (by decide)]
  repeat (refine sw_s hT rfl rfl ?_)
  exact sw_iret hT rfl rfl rfl (hR)
theorem b_event (Y : Kx) (x : Hp) (v : Int32) (hv : ¬ (0 ≤ v ∧ v ≤ x.1 84 1 - 1)) : sM Y mX7_event [.ref 83, .int v] x (some (.int 0)) (th x 1) := by
  refine sM_of (by decide +kernel) (Nat.le_of_ble_eq_true rfl) (fun X h hY hR => ?_)
  have hT := kX7_event h
  repeat (refine sw_s hT rfl rfl ?_)
  refine sw_iald hT rfl rfl (inW (by omega : 1 < 170)) ?_
  rw [show (1 : Int32).toNatClampNeg = 1 by decide]
  repeat (refine sw_s hT rfl rfl ?_)
  refine sw_cs hT rfl (r_in _ x v 0 _) rfl rfl (Nat.le_of_ble_eq_true rfl) ?_
  refine sw_b hT rfl rfl (fun _ => ?_) (fun c => absurd (bI_f hv) c)
  repeat (refine sw_s hT rfl rfl ?_)
  rw [th_def, fks_th]
  refine sw_b hT rfl rfl (fun c => absurd c ((by decide))) (fun _ => ?_)
  repeat (refine sw_s hT rfl rfl ?_)
  exact sw_iret hT rfl rfl rfl (hR)
theorem r_eventTime (Y : Kx) (x : Hp) (n k : Nat) (h0 : x.1 84 1 = nI n) (h60 : n ≤ 60) (hk : k < n) : sM Y mX7_eventTime [.ref 83, .int (nI k)] x (some (.double (x.2.1 85 (16 + k)))) (th x 0) := by
  refine sM_of (by decide +kernel) (Nat.le_of_ble_eq_true rfl) (fun X h hY hR => ?_)
  have hT := kX7_eventTime h
  repeat (refine sw_s hT rfl rfl ?_)
  refine sw_iald hT rfl rfl (inW (by omega : 1 < 170)) ?_
  rw [show (1 : Int32).toNatClampNeg = 1 by decide]
  repeat (refine sw_s hT rfl rfl ?_)
  refine sw_cs hT rfl (r_in _ x (nI k) 0 _) rfl rfl (Nat.le_of_ble_eq_true rfl) ?_
  refine sw_b hT rfl rfl (fun c => absurd c ((isE h0 h60 hk))) (fun _ => ?_)
  repeat (refine sw_s hT rfl rfl ?_)
  rw [th_def, fks_th]
  refine sw_b hT rfl rfl (fun _ => ?_) (fun c => absurd ((by decide)) c)
  repeat (refine sw_s hT rfl rfl ?_)
  rw [show (16 : Int32) + nI k = nI (16 + k) by rw [show (16 : Int32) = nI 16 by decide, nI_add]]
  refine sw_dald hT rfl rfl (inV (by omega)) ?_
  rw [clW (by omega), th_2]
  repeat (refine sw_s hT rfl rfl ?_)
  exact sw_dret hT rfl rfl (hR)
theorem b_eventTime (Y : Kx) (x : Hp) (v : Int32) (hv : ¬ (0 ≤ v ∧ v ≤ x.1 84 1 - 1)) : sM Y mX7_eventTime [.ref 83, .int v] x (some (.double 0)) (th x 1) := by
  refine sM_of (by decide +kernel) (Nat.le_of_ble_eq_true rfl) (fun X h hY hR => ?_)
  have hT := kX7_eventTime h
  repeat (refine sw_s hT rfl rfl ?_)
  refine sw_iald hT rfl rfl (inW (by omega : 1 < 170)) ?_
  rw [show (1 : Int32).toNatClampNeg = 1 by decide]
  repeat (refine sw_s hT rfl rfl ?_)
  refine sw_cs hT rfl (r_in _ x v 0 _) rfl rfl (Nat.le_of_ble_eq_true rfl) ?_
  refine sw_b hT rfl rfl (fun _ => ?_) (fun c => absurd (bI_f hv) c)
  repeat (refine sw_s hT rfl rfl ?_)
  rw [th_def, fks_th]
  refine sw_b hT rfl rfl (fun c => absurd c ((by decide))) (fun _ => ?_)
  repeat (refine sw_s hT rfl rfl ?_)
  exact sw_dret hT rfl rfl (hR)
theorem r_clearedTime (Y : Kx) (x : Hp) : sM Y mX7_clearedTime [.ref 83] x (some (.double (x.2.1 85 3))) (th x 0) := by
  refine sM_of (by decide +kernel) (Nat.le_of_ble_eq_true rfl) (fun X h hY hR => ?_)
  have hT := kX7_clearedTime h
  repeat (refine sw_s hT rfl rfl ?_)
  rw [th_def]
  refine sw_dald hT rfl rfl (inV (by omega : 3 < 76)) ?_
  rw [show (3 : Int32).toNatClampNeg = 3 by decide, th_2]
  exact sw_dret hT rfl rfl (hR)
