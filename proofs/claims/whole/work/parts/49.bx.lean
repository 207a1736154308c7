/-! the reference's refusals that were left -/
theorem b_simulate (Y : Kx) (x : Hp) (v p : Int32) (d : UInt64) (hv : ¬ (((0 ≤ v ∧ v ≤ x.1 84 0 - 1) ∧ 0 ≤ p ∧ p ≤ 100) ∧ inD d 4562254508917369340 4696837146684686336)) : sM Y mX7_simulate [.ref 83, .int v, .int p, .double d] x (some (.int 0)) (th x 1) := by
  refine sM_of (by decide +kernel) (Nat.le_of_ble_eq_true rfl) (fun X h hY hR => ?_)
  have hT := kX7_simulate h
  repeat (refine sw_s hT rfl rfl ?_)
  refine sw_cv hT rfl (r_isLocation _ x v p) rfl rfl rfl rfl (Nat.le_of_ble_eq_true rfl) ?_
  refine sw_b hT rfl rfl (fun c1 => ?_) (fun c1 => ?_)
  · repeat (refine sw_s hT rfl rfl ?_)
    rw [th_def, fks_th]
    refine sw_b hT rfl rfl (fun c => absurd c ((by decide))) (fun _ => ?_)
    repeat (refine sw_s hT rfl rfl ?_)
    exact sw_iret hT rfl rfl rfl (hR)
  · repeat (refine sw_s hT rfl rfl ?_)
    refine sw_cs hT rfl (r_inReal _ x d 4562254508917369340 4696837146684686336) rfl rfl (Nat.le_of_ble_eq_true rfl) ?_
    refine sw_b hT rfl rfl (fun c2 => ?_) (fun c2 => ?_)
    · repeat (refine sw_s hT rfl rfl ?_)
      rw [th_def, fks_th]
      refine sw_b hT rfl rfl (fun c => absurd c ((by decide))) (fun _ => ?_)
      repeat (refine sw_s hT rfl rfl ?_)
      exact sw_iret hT rfl rfl rfl (hR)
    · exact absurd ⟨Decidable.byContradiction (fun q => c1 (bI_0.mpr q)), c2⟩ hv
theorem b_autoPickup (Y : Kx) (x : Hp) (p : Int32) (hv : ¬ (100 ≤ p ∧ p ≤ 300)) : sM Y mX7_autoPickup [.ref 83, .int p] x (some (.int 0)) (th x 1) := by
  refine sM_of (by decide +kernel) (Nat.le_of_ble_eq_true rfl) (fun X h hY hR => ?_)
  have hT := kX7_autoPickup h
  repeat (refine sw_s hT rfl rfl ?_)
  refine sw_cs hT rfl (r_in _ x p 100 300) rfl rfl (Nat.le_of_ble_eq_true rfl) ?_
  refine sw_b hT rfl rfl (fun _ => ?_) (fun c => absurd (bI_f hv) c)
  repeat (refine sw_s hT rfl rfl ?_)
  rw [th_def, fks_th]
  refine sw_b hT rfl rfl (fun c => absurd c ((by decide))) (fun _ => ?_)
  repeat (refine sw_s hT rfl rfl ?_)
  exact sw_iret hT rfl rfl rfl (hR)
