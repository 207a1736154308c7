/-! the reference's face: what changes the state -/
/-- the state saved behind c ones, thrown = 0 -/
def sv0 (x : Hp) (c : Nat) (z : Hp) : Prop := svP (th x 0) c z
theorem sv0_84 {x z : Hp} {c : Nat} (h : sv0 x c z) : z.1 84 = x.1 84 := (h.1.1 84 (by decide)).trans (th_o (by decide))
theorem sv0_85 {x z : Hp} {c : Nat} (h : sv0 x c z) : z.2.1 85 = x.2.1 85 := h.1.2.1 85 (by decide)
theorem th_5 {x : Hp} {c : Nat} {v : Int32} (h5 : x.1 83 5 = nI c) : (th x v).1 83 5 = nI c := (th_k (by decide)).trans h5
theorem r_setSource (Y : Kx) (x : Hp) (c : Nat) (v z : UInt64) (hc : c ≤ 4) (h5 : x.1 83 5 = nI c) (h1 : inD v 4636737291354636288 4696837146684686336) (h2 : inD z 4576918229304087675 4652007308841189376) : sR Y mX7_setSource [.ref 83, .double v, .double z] x (fun rr x' => ∃ y, sv0 x c y ∧ rr = some (.double (x.2.1 85 1)) ∧ x' = (y.1, u2 (u2 y.2.1 85 0 v) 85 1 z, y.2.2)) := by
  refine sR_of (by decide +kernel) (Nat.le_of_ble_eq_true rfl) (fun X h hY hR => ?_)
  have hT := kX7_setSource h
  repeat (refine sw_s hT rfl rfl ?_)
  refine sw_cs hT rfl (r_inReal _ x v _ _) rfl rfl (Nat.le_of_ble_eq_true rfl) ?_
  refine sw_b hT rfl rfl (fun c => absurd c ((h1))) (fun _ => ?_)
  repeat (refine sw_s hT rfl rfl ?_)
  refine sw_cs hT rfl (r_inReal _ x z _ _) rfl rfl (Nat.le_of_ble_eq_true rfl) ?_
  refine sw_b hT rfl rfl (fun c => absurd c ((h2))) (fun _ => ?_)
  repeat (refine sw_s hT rfl rfl ?_)
  rw [th_def, fks_th]
  refine sw_b hT rfl rfl (fun _ => ?_) (fun c => absurd ((by decide)) c)
  repeat (refine sw_s hT rfl rfl ?_)
  refine sw_cvR hT rfl (r_save _ (th x 0) c hc (th_5 h5)) rfl rfl rfl rfl (Nat.le_of_ble_eq_true rfl) ?_
  rintro _ y ⟨rfl, hy⟩
  have e85 := sv0_85 hy
  show SW X mX7_setSource 48 _ [] y
  repeat (refine sw_s hT rfl rfl ?_)
  refine sw_dald hT rfl rfl (inV (by omega : 1 < 76)) ?_
  rw [show (1 : Int32).toNatClampNeg = 1 by decide, e85]
  repeat (refine sw_s hT rfl rfl ?_)
  refine sw_dast hT rfl rfl (inV (by omega : 0 < 76)) ?_
  rw [show (0 : Int32).toNatClampNeg = 0 by decide]
  repeat (refine sw_s hT rfl rfl ?_)
  refine sw_dast hT rfl rfl (inV (by omega : 1 < 76)) ?_
  rw [show (1 : Int32).toNatClampNeg = 1 by decide]
  repeat (refine sw_s hT rfl rfl ?_)
  refine sw_dretP hT rfl rfl hR ?_
  exact ⟨y, hy, rfl, rfl⟩
theorem b_setSource (Y : Kx) (x : Hp) (v z : UInt64) (hv : ¬ (inD v 4636737291354636288 4696837146684686336 ∧ inD z 4576918229304087675 4652007308841189376)) : sM Y mX7_setSource [.ref 83, .double v, .double z] x (some (.double 0)) (th x 1) := by
  refine sM_of (by decide +kernel) (Nat.le_of_ble_eq_true rfl) (fun X h hY hR => ?_)
  have hT := kX7_setSource h
  repeat (refine sw_s hT rfl rfl ?_)
  refine sw_cs hT rfl (r_inReal _ x v _ _) rfl rfl (Nat.le_of_ble_eq_true rfl) ?_
  refine sw_b hT rfl rfl (fun c1 => ?_) (fun c1 => ?_)
  · repeat (refine sw_s hT rfl rfl ?_)
    rw [th_def, fks_th]
    refine sw_b hT rfl rfl (fun c => absurd c ((by decide))) (fun _ => ?_)
    repeat (refine sw_s hT rfl rfl ?_)
    exact sw_dret hT rfl rfl (hR)
  · repeat (refine sw_s hT rfl rfl ?_)
    refine sw_cs hT rfl (r_inReal _ x z _ _) rfl rfl (Nat.le_of_ble_eq_true rfl) ?_
    refine sw_b hT rfl rfl (fun c2 => ?_) (fun c2 => ?_)
    · repeat (refine sw_s hT rfl rfl ?_)
      rw [th_def, fks_th]
      refine sw_b hT rfl rfl (fun c => absurd c ((by decide))) (fun _ => ?_)
      repeat (refine sw_s hT rfl rfl ?_)
      exact sw_dret hT rfl rfl (hR)
    · exact absurd ⟨c1, c2⟩ hv
theorem r_setMargin (Y : Kx) (x : Hp) (c : Nat) (v : UInt64) (hc : c ≤ 4) (h5 : x.1 83 5 = nI c) (h1 : inD v 4587366580439587226 4617315517961601024) : sR Y mX7_setMargin [.ref 83, .double v] x (fun rr x' => ∃ y, sv0 x c y ∧ rr = some (.double (x.2.1 85 2)) ∧ x' = (y.1, u2 y.2.1 85 2 v, y.2.2)) := by
  refine sR_of (by decide +kernel) (Nat.le_of_ble_eq_true rfl) (fun X h hY hR => ?_)
  have hT := kX7_setMargin h
  repeat (refine sw_s hT rfl rfl ?_)
  refine sw_cs hT rfl (r_inReal _ x v _ _) rfl rfl (Nat.le_of_ble_eq_true rfl) ?_
  refine sw_b hT rfl rfl (fun c => absurd c ((h1))) (fun _ => ?_)
  repeat (refine sw_s hT rfl rfl ?_)
  rw [th_def, fks_th]
  refine sw_b hT rfl rfl (fun _ => ?_) (fun c => absurd ((by decide)) c)
  repeat (refine sw_s hT rfl rfl ?_)
  refine sw_cvR hT rfl (r_save _ (th x 0) c hc (th_5 h5)) rfl rfl rfl rfl (Nat.le_of_ble_eq_true rfl) ?_
  rintro _ y ⟨rfl, hy⟩
  have e85 := sv0_85 hy
  show SW X mX7_setMargin 35 _ [] y
  repeat (refine sw_s hT rfl rfl ?_)
  refine sw_dald hT rfl rfl (inV (by omega : 2 < 76)) ?_
  rw [show (2 : Int32).toNatClampNeg = 2 by decide, e85]
  repeat (refine sw_s hT rfl rfl ?_)
  refine sw_dast hT rfl rfl (inV (by omega : 2 < 76)) ?_
  rw [show (2 : Int32).toNatClampNeg = 2 by decide]
  repeat (refine sw_s hT rfl rfl ?_)
  refine sw_dretP hT rfl rfl hR ?_
  exact ⟨y, hy, rfl, rfl⟩
theorem b_setMargin (Y : Kx) (x : Hp) (v : UInt64) (hv : ¬ inD v 4587366580439587226 4617315517961601024) : sM Y mX7_setMargin [.ref 83, .double v] x (some (.double 0)) (th x 1) := by
  refine sM_of (by decide +kernel) (Nat.le_of_ble_eq_true rfl) (fun X h hY hR => ?_)
  have hT := kX7_setMargin h
  repeat (refine sw_s hT rfl rfl ?_)
  refine sw_cs hT rfl (r_inReal _ x v _ _) rfl rfl (Nat.le_of_ble_eq_true rfl) ?_
  refine sw_b hT rfl rfl (fun _ => ?_) (fun c => absurd (Decidable.byContradiction hv) c)
  repeat (refine sw_s hT rfl rfl ?_)
  rw [th_def, fks_th]
  refine sw_b hT rfl rfl (fun c => absurd c ((by decide))) (fun _ => ?_)
  repeat (refine sw_s hT rfl rfl ?_)
  exact sw_dret hT rfl rfl (hR)
theorem r_setLoad (Y : Kx) (x : Hp) (c n k a : Nat) (hc : c ≤ 4) (h5 : x.1 83 5 = nI c) (h0 : x.1 84 0 = nI n) (h12 : n ≤ 12) (hk : k < n) (ha : a ≤ 5000) : sR Y mX7_setLoad [.ref 83, .int (nI (k + 1)), .int (nI a)] x (fun rr x' => ∃ y, sv0 x c y ∧ rr = some (.int (x.1 84 (2 + 9 * k + 1))) ∧ x' = (u2 y.1 84 (2 + 9 * k + 1) (nI a), y.2)) := by
  refine sR_of (by decide +kernel) (Nat.le_of_ble_eq_true rfl) (fun X h hY hR => ?_)
  have hT := kX7_setLoad h
  repeat (refine sw_s hT rfl rfl ?_)
  refine sw_iald hT rfl rfl (inW (by omega : 0 < 170)) ?_
  rw [show (0 : Int32).toNatClampNeg = 0 by decide, h0]
  refine sw_cs hT rfl (r_in _ x (nI (k + 1)) 1 (nI n)) rfl rfl (Nat.le_of_ble_eq_true rfl) ?_
  refine sw_b hT rfl rfl (fun c => absurd c ((inN (a := k + 1) (lo := 1) (hi := n) (by omega) (by omega) (by omega)))) (fun _ => ?_)
  repeat (refine sw_s hT rfl rfl ?_)
  refine sw_cs hT rfl (r_in _ x (nI a) 0 5000) rfl rfl (Nat.le_of_ble_eq_true rfl) ?_
  refine sw_b hT rfl rfl (fun c => absurd c ((inN (a := a) (lo := 0) (hi := 5000) (by omega) (by omega) (by omega)))) (fun _ => ?_)
  repeat (refine sw_s hT rfl rfl ?_)
  rw [th_def, fks_th]
  refine sw_b hT rfl rfl (fun _ => ?_) (fun c => absurd ((by decide)) c)
  repeat (refine sw_s hT rfl rfl ?_)
  rw [nI_pred]
  refine sw_cs hT rfl (r_atL _ (th x 0) k 1 1 (by decide)) rfl rfl (Nat.le_of_ble_eq_true rfl) ?_
  repeat (refine sw_s hT rfl rfl ?_)
  refine sw_cvR hT rfl (r_change _ (th x 0) c (2 + 9 * k + 1) (nI a) hc (th_5 h5) (by omega)) rfl rfl rfl rfl (Nat.le_of_ble_eq_true rfl) ?_
  rintro _ w ⟨y, hy, rfl, hw⟩
  show SW X mX7_setLoad 57 _ [_] w
  refine sw_iretP hT rfl rfl rfl hR ?_
  exact ⟨y, hy, by rw [th_o (by decide)], hw⟩
theorem b_setLoad (Y : Kx) (x : Hp) (b a : Int32) (hv : ¬ ((1 ≤ b ∧ b ≤ x.1 84 0) ∧ 0 ≤ a ∧ a ≤ 5000)) : sM Y mX7_setLoad [.ref 83, .int b, .int a] x (some (.int 0)) (th x 1) := by
  refine sM_of (by decide +kernel) (Nat.le_of_ble_eq_true rfl) (fun X h hY hR => ?_)
  have hT := kX7_setLoad h
  repeat (refine sw_s hT rfl rfl ?_)
  refine sw_iald hT rfl rfl (inW (by omega : 0 < 170)) ?_
  rw [show (0 : Int32).toNatClampNeg = 0 by decide]
  refine sw_cs hT rfl (r_in _ x b 1 _) rfl rfl (Nat.le_of_ble_eq_true rfl) ?_
  refine sw_b hT rfl rfl (fun c1 => ?_) (fun c1 => ?_)
  · repeat (refine sw_s hT rfl rfl ?_)
    rw [th_def, fks_th]
    refine sw_b hT rfl rfl (fun c => absurd c ((by decide))) (fun _ => ?_)
    repeat (refine sw_s hT rfl rfl ?_)
    exact sw_iret hT rfl rfl rfl (hR)
  · repeat (refine sw_s hT rfl rfl ?_)
    refine sw_cs hT rfl (r_in _ x a 0 5000) rfl rfl (Nat.le_of_ble_eq_true rfl) ?_
    refine sw_b hT rfl rfl (fun c2 => ?_) (fun c2 => ?_)
    · repeat (refine sw_s hT rfl rfl ?_)
      rw [th_def, fks_th]
      refine sw_b hT rfl rfl (fun c => absurd c ((by decide))) (fun _ => ?_)
      repeat (refine sw_s hT rfl rfl ?_)
      exact sw_iret hT rfl rfl rfl (hR)
    · exact absurd ⟨Decidable.byContradiction (fun q => c1 (bI_0.mpr q)), Decidable.byContradiction (fun q => c2 (bI_0.mpr q))⟩ hv
theorem r_setRelay (Y : Kx) (x : Hp) (c n k p cv s : Nat) (hc : c ≤ 4) (h5 : x.1 83 5 = nI c) (h0 : x.1 84 0 = nI n) (h12 : n ≤ 12) (hk : k < n) (hp : 1 ≤ p ∧ p ≤ 20000) (hcv : cv ≤ 3) (hs : 1 ≤ s ∧ s ≤ 20) : sR Y mX7_setRelay [.ref 83, .int (nI k), .int (nI p), .int (nI cv), .int (nI s)] x (fun rr x' => ∃ y, sv0 x c y ∧ rr = some (.int (x.1 84 (2 + 9 * k + 2))) ∧ x' = (u2 (u2 (u2 y.1 84 (2 + 9 * k + 2) (nI p)) 84 (2 + 9 * k + 3) (nI cv)) 84 (2 + 9 * k + 4) (nI s), y.2)) := by
  refine sR_of (by decide +kernel) (Nat.le_of_ble_eq_true rfl) (fun X h hY hR => ?_)
  have hT := kX7_setRelay h
  repeat (refine sw_s hT rfl rfl ?_)
  refine sw_cv hT rfl (r_isLine _ x (nI k)) rfl rfl rfl rfl (Nat.le_of_ble_eq_true rfl) ?_
  refine sw_b hT rfl rfl (fun c => absurd c ((isL h0 h12 hk))) (fun _ => ?_)
  repeat (refine sw_s hT rfl rfl ?_)
  refine sw_cs hT rfl (r_in _ x (nI p) 1 20000) rfl rfl (Nat.le_of_ble_eq_true rfl) ?_
  refine sw_b hT rfl rfl (fun c => absurd c ((inN (a := p) (lo := 1) (hi := 20000) (by omega) (by omega) (by omega)))) (fun _ => ?_)
  repeat (refine sw_s hT rfl rfl ?_)
  refine sw_cs hT rfl (r_in _ x (nI cv) 0 3) rfl rfl (Nat.le_of_ble_eq_true rfl) ?_
  refine sw_b hT rfl rfl (fun c => absurd c ((inN (a := cv) (lo := 0) (hi := 3) (by omega) (by omega) (by omega)))) (fun _ => ?_)
  repeat (refine sw_s hT rfl rfl ?_)
  refine sw_cs hT rfl (r_in _ x (nI s) 1 20) rfl rfl (Nat.le_of_ble_eq_true rfl) ?_
  refine sw_b hT rfl rfl (fun c => absurd c ((inN (a := s) (lo := 1) (hi := 20) (by omega) (by omega) (by omega)))) (fun _ => ?_)
  repeat (refine sw_s hT rfl rfl ?_)
  rw [th_def, fks_th]
  refine sw_b hT rfl rfl (fun _ => ?_) (fun c => absurd ((by decide)) c)
  repeat (refine sw_s hT rfl rfl ?_)
  refine sw_cs hT rfl (r_atL _ (th x 0) k 2 2 (by decide)) rfl rfl (Nat.le_of_ble_eq_true rfl) ?_
  repeat (refine sw_s hT rfl rfl ?_)
  refine sw_cvR hT rfl (r_change _ (th x 0) c (2 + 9 * k + 2) (nI p) hc (th_5 h5) (by omega)) rfl rfl rfl rfl (Nat.le_of_ble_eq_true rfl) ?_
  rintro _ w ⟨y, hy, rfl, rfl⟩
  show SW X mX7_setRelay 67 _ [_] _
  repeat (refine sw_s hT rfl rfl ?_)
  refine sw_cs hT rfl (r_atL _ _ k 3 3 (by decide)) rfl rfl (Nat.le_of_ble_eq_true rfl) ?_
  repeat (refine sw_s hT rfl rfl ?_)
  refine sw_iast hT rfl rfl (inW (by omega)) ?_
  rw [clW (by omega)]
  repeat (refine sw_s hT rfl rfl ?_)
  refine sw_cs hT rfl (r_atL _ _ k 4 4 (by decide)) rfl rfl (Nat.le_of_ble_eq_true rfl) ?_
  repeat (refine sw_s hT rfl rfl ?_)
  refine sw_iast hT rfl rfl (inW (by omega)) ?_
  rw [clW (by omega)]
  repeat (refine sw_s hT rfl rfl ?_)
  refine sw_iretP hT rfl rfl rfl hR ?_
  exact ⟨y, hy, by rw [th_o (by decide)], rfl⟩
theorem b_setRelay (Y : Kx) (x : Hp) (v p cv s : Int32) (hv : ¬ ((0 ≤ v ∧ v ≤ x.1 84 0 - 1) ∧ (1 ≤ p ∧ p ≤ 20000) ∧ (0 ≤ cv ∧ cv ≤ 3) ∧ 1 ≤ s ∧ s ≤ 20)) : sM Y mX7_setRelay [.ref 83, .int v, .int p, .int cv, .int s] x (some (.int 0)) (th x 1) := by
  refine sM_of (by decide +kernel) (Nat.le_of_ble_eq_true rfl) (fun X h hY hR => ?_)
  have hT := kX7_setRelay h
  repeat (refine sw_s hT rfl rfl ?_)
  refine sw_cv hT rfl (r_isLine _ x v) rfl rfl rfl rfl (Nat.le_of_ble_eq_true rfl) ?_
  refine sw_b hT rfl rfl (fun c1 => ?_) (fun c1 => ?_)
  · repeat (refine sw_s hT rfl rfl ?_)
    rw [th_def, fks_th]
    refine sw_b hT rfl rfl (fun c => absurd c ((by decide))) (fun _ => ?_)
    repeat (refine sw_s hT rfl rfl ?_)
    exact sw_iret hT rfl rfl rfl (hR)
  · repeat (refine sw_s hT rfl rfl ?_)
    refine sw_cs hT rfl (r_in _ x p 1 20000) rfl rfl (Nat.le_of_ble_eq_true rfl) ?_
    refine sw_b hT rfl rfl (fun c2 => ?_) (fun c2 => ?_)
    · repeat (refine sw_s hT rfl rfl ?_)
      rw [th_def, fks_th]
      refine sw_b hT rfl rfl (fun c => absurd c ((by decide))) (fun _ => ?_)
      repeat (refine sw_s hT rfl rfl ?_)
      exact sw_iret hT rfl rfl rfl (hR)
    · repeat (refine sw_s hT rfl rfl ?_)
      refine sw_cs hT rfl (r_in _ x cv 0 3) rfl rfl (Nat.le_of_ble_eq_true rfl) ?_
      refine sw_b hT rfl rfl (fun c3 => ?_) (fun c3 => ?_)
      · repeat (refine sw_s hT rfl rfl ?_)
        rw [th_def, fks_th]
        refine sw_b hT rfl rfl (fun c => absurd c ((by decide))) (fun _ => ?_)
        repeat (refine sw_s hT rfl rfl ?_)
        exact sw_iret hT rfl rfl rfl (hR)
      · repeat (refine sw_s hT rfl rfl ?_)
        refine sw_cs hT rfl (r_in _ x s 1 20) rfl rfl (Nat.le_of_ble_eq_true rfl) ?_
        refine sw_b hT rfl rfl (fun c4 => ?_) (fun c4 => ?_)
        · repeat (refine sw_s hT rfl rfl ?_)
          rw [th_def, fks_th]
          refine sw_b hT rfl rfl (fun c => absurd c ((by decide))) (fun _ => ?_)
          repeat (refine sw_s hT rfl rfl ?_)
          exact sw_iret hT rfl rfl rfl (hR)
        · exact absurd ⟨Decidable.byContradiction (fun q => c1 (bI_0.mpr q)), Decidable.byContradiction (fun q => c2 (bI_0.mpr q)), Decidable.byContradiction (fun q => c3 (bI_0.mpr q)), Decidable.byContradiction (fun q => c4 (bI_0.mpr q))⟩ hv
theorem r_setInstantaneous (Y : Kx) (x : Hp) (c n k a : Nat) (hc : c ≤ 4) (h5 : x.1 83 5 = nI c) (h0 : x.1 84 0 = nI n) (h12 : n ≤ 12) (hk : k < n) (ha : a ≤ 100000) : sR Y mX7_setInstantaneous [.ref 83, .int (nI k), .int (nI a)] x (fun rr x' => ∃ y, sv0 x c y ∧ rr = some (.int (x.1 84 (2 + 9 * k + 5))) ∧ x' = (u2 y.1 84 (2 + 9 * k + 5) (nI a), y.2)) := by
  refine sR_of (by decide +kernel) (Nat.le_of_ble_eq_true rfl) (fun X h hY hR => ?_)
  have hT := kX7_setInstantaneous h
  repeat (refine sw_s hT rfl rfl ?_)
  refine sw_cv hT rfl (r_isLine _ x (nI k)) rfl rfl rfl rfl (Nat.le_of_ble_eq_true rfl) ?_
  refine sw_b hT rfl rfl (fun c => absurd c ((isL h0 h12 hk))) (fun _ => ?_)
  repeat (refine sw_s hT rfl rfl ?_)
  refine sw_cs hT rfl (r_in _ x (nI a) 0 100000) rfl rfl (Nat.le_of_ble_eq_true rfl) ?_
  refine sw_b hT rfl rfl (fun c => absurd c ((inN (a := a) (lo := 0) (hi := 100000) (by omega) (by omega) (by omega)))) (fun _ => ?_)
  repeat (refine sw_s hT rfl rfl ?_)
  rw [th_def, fks_th]
  refine sw_b hT rfl rfl (fun _ => ?_) (fun c => absurd ((by decide)) c)
  repeat (refine sw_s hT rfl rfl ?_)
  refine sw_cs hT rfl (r_atL _ (th x 0) k 5 5 (by decide)) rfl rfl (Nat.le_of_ble_eq_true rfl) ?_
  repeat (refine sw_s hT rfl rfl ?_)
  refine sw_cvR hT rfl (r_change _ (th x 0) c (2 + 9 * k + 5) (nI a) hc (th_5 h5) (by omega)) rfl rfl rfl rfl (Nat.le_of_ble_eq_true rfl) ?_
  rintro _ w ⟨y, hy, rfl, hw⟩
  show SW X mX7_setInstantaneous 48 _ [_] w
  refine sw_iretP hT rfl rfl rfl hR ?_
  exact ⟨y, hy, by rw [th_o (by decide)], hw⟩
theorem b_setInstantaneous (Y : Kx) (x : Hp) (v a : Int32) (hv : ¬ ((0 ≤ v ∧ v ≤ x.1 84 0 - 1) ∧ 0 ≤ a ∧ a ≤ 100000)) : sM Y mX7_setInstantaneous [.ref 83, .int v, .int a] x (some (.int 0)) (th x 1) := by
  refine sM_of (by decide +kernel) (Nat.le_of_ble_eq_true rfl) (fun X h hY hR => ?_)
  have hT := kX7_setInstantaneous h
  repeat (refine sw_s hT rfl rfl ?_)
  refine sw_cv hT rfl (r_isLine _ x v) rfl rfl rfl rfl (Nat.le_of_ble_eq_true rfl) ?_
  refine sw_b hT rfl rfl (fun c1 => ?_) (fun c1 => ?_)
  · repeat (refine sw_s hT rfl rfl ?_)
    rw [th_def, fks_th]
    refine sw_b hT rfl rfl (fun c => absurd c ((by decide))) (fun _ => ?_)
    repeat (refine sw_s hT rfl rfl ?_)
    exact sw_iret hT rfl rfl rfl (hR)
  · repeat (refine sw_s hT rfl rfl ?_)
    refine sw_cs hT rfl (r_in _ x a 0 100000) rfl rfl (Nat.le_of_ble_eq_true rfl) ?_
    refine sw_b hT rfl rfl (fun c2 => ?_) (fun c2 => ?_)
    · repeat (refine sw_s hT rfl rfl ?_)
      rw [th_def, fks_th]
      refine sw_b hT rfl rfl (fun c => absurd c ((by decide))) (fun _ => ?_)
      repeat (refine sw_s hT rfl rfl ?_)
      exact sw_iret hT rfl rfl rfl (hR)
    · exact absurd ⟨Decidable.byContradiction (fun q => c1 (bI_0.mpr q)), Decidable.byContradiction (fun q => c2 (bI_0.mpr q))⟩ hv
theorem r_setShots (Y : Kx) (x : Hp) (c n k a : Nat) (hc : c ≤ 4) (h5 : x.1 83 5 = nI c) (h0 : x.1 84 0 = nI n) (h12 : n ≤ 12) (hk : k < n) (ha : a ≤ 3) : sR Y mX7_setShots [.ref 83, .int (nI k), .int (nI a)] x (fun rr x' => ∃ y, sv0 x c y ∧ rr = some (.int (x.1 84 (2 + 9 * k + 6))) ∧ x' = (u2 y.1 84 (2 + 9 * k + 6) (nI a), y.2)) := by
  refine sR_of (by decide +kernel) (Nat.le_of_ble_eq_true rfl) (fun X h hY hR => ?_)
  have hT := kX7_setShots h
  repeat (refine sw_s hT rfl rfl ?_)
  refine sw_cv hT rfl (r_isLine _ x (nI k)) rfl rfl rfl rfl (Nat.le_of_ble_eq_true rfl) ?_
  refine sw_b hT rfl rfl (fun c => absurd c ((isL h0 h12 hk))) (fun _ => ?_)
  repeat (refine sw_s hT rfl rfl ?_)
  refine sw_cs hT rfl (r_in _ x (nI a) 0 3) rfl rfl (Nat.le_of_ble_eq_true rfl) ?_
  refine sw_b hT rfl rfl (fun c => absurd c ((inN (a := a) (lo := 0) (hi := 3) (by omega) (by omega) (by omega)))) (fun _ => ?_)
  repeat (refine sw_s hT rfl rfl ?_)
  rw [th_def, fks_th]
  refine sw_b hT rfl rfl (fun _ => ?_) (fun c => absurd ((by decide)) c)
  repeat (refine sw_s hT rfl rfl ?_)
  refine sw_cs hT rfl (r_atL _ (th x 0) k 6 6 (by decide)) rfl rfl (Nat.le_of_ble_eq_true rfl) ?_
  repeat (refine sw_s hT rfl rfl ?_)
  refine sw_cvR hT rfl (r_change _ (th x 0) c (2 + 9 * k + 6) (nI a) hc (th_5 h5) (by omega)) rfl rfl rfl rfl (Nat.le_of_ble_eq_true rfl) ?_
  rintro _ w ⟨y, hy, rfl, hw⟩
  show SW X mX7_setShots 48 _ [_] w
  refine sw_iretP hT rfl rfl rfl hR ?_
  exact ⟨y, hy, by rw [th_o (by decide)], hw⟩
theorem b_setShots (Y : Kx) (x : Hp) (v a : Int32) (hv : ¬ ((0 ≤ v ∧ v ≤ x.1 84 0 - 1) ∧ 0 ≤ a ∧ a ≤ 3)) : sM Y mX7_setShots [.ref 83, .int v, .int a] x (some (.int 0)) (th x 1) := by
  refine sM_of (by decide +kernel) (Nat.le_of_ble_eq_true rfl) (fun X h hY hR => ?_)
  have hT := kX7_setShots h
  repeat (refine sw_s hT rfl rfl ?_)
  refine sw_cv hT rfl (r_isLine _ x v) rfl rfl rfl rfl (Nat.le_of_ble_eq_true rfl) ?_
  refine sw_b hT rfl rfl (fun c1 => ?_) (fun c1 => ?_)
  · repeat (refine sw_s hT rfl rfl ?_)
    rw [th_def, fks_th]
    refine sw_b hT rfl rfl (fun c => absurd c ((by decide))) (fun _ => ?_)
    repeat (refine sw_s hT rfl rfl ?_)
    exact sw_iret hT rfl rfl rfl (hR)
  · repeat (refine sw_s hT rfl rfl ?_)
    refine sw_cs hT rfl (r_in _ x a 0 3) rfl rfl (Nat.le_of_ble_eq_true rfl) ?_
    refine sw_b hT rfl rfl (fun c2 => ?_) (fun c2 => ?_)
    · repeat (refine sw_s hT rfl rfl ?_)
      rw [th_def, fks_th]
      refine sw_b hT rfl rfl (fun c => absurd c ((by decide))) (fun _ => ?_)
      repeat (refine sw_s hT rfl rfl ?_)
      exact sw_iret hT rfl rfl rfl (hR)
    · exact absurd ⟨Decidable.byContradiction (fun q => c1 (bI_0.mpr q)), Decidable.byContradiction (fun q => c2 (bI_0.mpr q))⟩ hv
theorem r_setStuck (Y : Kx) (x : Hp) (c n k : Nat) (b : Int32) (hc : c ≤ 4) (h5 : x.1 83 5 = nI c) (h0 : x.1 84 0 = nI n) (h12 : n ≤ 12) (hk : k < n) : sR Y mX7_setStuck [.ref 83, .int (nI k), .int b] x (fun rr x' => ∃ y, sv0 x c y ∧ rr = some (.int (if x.1 84 (2 + 9 * k + 7) = 1 then 1 else 0)) ∧ x' = (u2 y.1 84 (2 + 9 * k + 7) (if b = 0 then 0 else 1), y.2)) := by
  refine sR_of (by decide +kernel) (Nat.le_of_ble_eq_true rfl) (fun X h hY hR => ?_)
  have hT := kX7_setStuck h
  have tail : ∀ u : Int32, u = (if b = 0 then 0 else 1) → SW X mX7_setStuck 40 [(0, .ref 83), (1, .int (nI k)), (2, .int b)] [.int u, .int (nI (2 + 9 * k + 7)), .ref 83] (th x 0) := by
    intro u hu
    refine sw_cvR hT rfl (r_change _ (th x 0) c (2 + 9 * k + 7) u hc (th_5 h5) (by omega)) rfl rfl rfl rfl (Nat.le_of_ble_eq_true rfl) ?_
    rintro _ w ⟨y, hy, rfl, hw⟩
    rw [th_o (by decide)]
    rw [hu] at hw
    show SW X mX7_setStuck 43 _ [_] w
    repeat (refine sw_s hT rfl rfl ?_)
    refine sw_b hT rfl rfl (fun c1 => ?_) (fun c1 => ?_)
    · repeat (refine sw_s hT rfl rfl ?_)
      refine sw_iretP hT rfl rfl rfl hR ⟨y, hy, by rw [if_pos c1], hw⟩
    · repeat (refine sw_s hT rfl rfl ?_)
      refine sw_iretP hT rfl rfl rfl hR ⟨y, hy, by rw [if_neg c1], hw⟩
  repeat (refine sw_s hT rfl rfl ?_)
  refine sw_cv hT rfl (r_isLine _ x (nI k)) rfl rfl rfl rfl (Nat.le_of_ble_eq_true rfl) ?_
  refine sw_b hT rfl rfl (fun c => absurd c ((isL h0 h12 hk))) (fun _ => ?_)
  repeat (refine sw_s hT rfl rfl ?_)
  rw [th_def, fks_th]
  refine sw_b hT rfl rfl (fun _ => ?_) (fun c => absurd (rfl) c)
  repeat (refine sw_s hT rfl rfl ?_)
  refine sw_cs hT rfl (r_atL _ (th x 0) k 7 7 (by decide)) rfl rfl (Nat.le_of_ble_eq_true rfl) ?_
  repeat (refine sw_s hT rfl rfl ?_)
  refine sw_b hT rfl rfl (fun c2 => ?_) (fun c2 => ?_)
  · have q := tail 0 (by rw [if_pos c2])
    repeat (first | (refine sw_at (n := 40) rfl ?_; exact (q)) | refine sw_s hT rfl rfl ?_)
  · have q := tail 1 (by rw [if_neg c2])
    repeat (first | (refine sw_at (n := 40) rfl ?_; exact (q)) | refine sw_s hT rfl rfl ?_)
theorem b_setStuck (Y : Kx) (x : Hp) (v b : Int32) (hv : ¬ (0 ≤ v ∧ v ≤ x.1 84 0 - 1)) : sM Y mX7_setStuck [.ref 83, .int v, .int b] x (some (.int 0)) (th x 1) := by
  refine sM_of (by decide +kernel) (Nat.le_of_ble_eq_true rfl) (fun X h hY hR => ?_)
  have hT := kX7_setStuck h
  repeat (refine sw_s hT rfl rfl ?_)
  refine sw_cv hT rfl (r_isLine _ x v) rfl rfl rfl rfl (Nat.le_of_ble_eq_true rfl) ?_
  refine sw_b hT rfl rfl (fun _ => ?_) (fun c => absurd (bI_f hv) c)
  repeat (refine sw_s hT rfl rfl ?_)
  rw [th_def, fks_th]
  refine sw_b hT rfl rfl (fun c => absurd c ((by decide))) (fun _ => ?_)
  repeat (refine sw_s hT rfl rfl ?_)
  exact sw_iret hT rfl rfl rfl (hR)
/-- the row of a line behind n ones, emptied -/
def clS (y : Hp) (n : Nat) : Nat → Nat → Nat → Int32
  | 0 => y.1
  | j + 1 => u2 (clS y n j) 84 (2 + 9 * n + j) 0
theorem clS_o (y : Hp) (n : Nat) : ∀ j i, i ≠ 84 → clS y n j i = y.1 i
  | 0, _, _ => rfl
  | j + 1, i, h => by
    show u2 (clS y n j) 84 _ 0 i = _
    rw [u2_ne h, clS_o y n j i h]
theorem clS_k (y : Hp) (n : Nat) : ∀ j k, clS y n j 84 k = if 2 + 9 * n ≤ k ∧ k < 2 + 9 * n + j then 0 else y.1 84 k
  | 0, k => by rw [if_neg (by omega)]; rfl
  | j + 1, k => by
    show u2 (clS y n j) 84 (2 + 9 * n + j) 0 84 k = _
    by_cases h : k = 2 + 9 * n + j
    · subst h; rw [u2_at, if_pos (by omega)]
    · rw [u2_k _ _ _ _ h, clS_k y n j k]
      by_cases h2 : 2 + 9 * n ≤ k ∧ k < 2 + 9 * n + j
      · rw [if_pos h2, if_pos (by omega)]
      · rw [if_neg h2, if_neg (by omega)]
/-- a line behind n ones -/
def adS (y : Hp) (n : Nat) (f : Int32) (z : UInt64) : Hp := (u2 (u2 (u2 (u2 (clS y n 9) 84 (2 + 9 * n) f) 84 (2 + 9 * n + 2) 100) 84 (2 + 9 * n + 4) 1) 84 0 (nI n + 1), u2 y.2.1 85 (4 + n) z, y.2.2)
theorem r_addLine (Y : Kx) (x : Hp) (c n f : Nat) (z : UInt64) (hc : c ≤ 4) (h5 : x.1 83 5 = nI c) (h0 : x.1 84 0 = nI n) (h12 : n < 12) (hf : f ≤ n) (h2 : inD z 4576918229304087675 4652007308841189376) : sR Y mX7_addLine [.ref 83, .int (nI f), .double z] x (fun rr x' => ∃ y, sv0 x c y ∧ rr = some (.int (nI n)) ∧ x' = adS y n (nI f) z) := by
  refine sR_of (by decide +kernel) (Nat.le_of_ble_eq_true rfl) (fun X h hY hR => ?_)
  have hT := kX7_addLine h
  repeat (refine sw_s hT rfl rfl ?_)
  refine sw_iald hT rfl rfl (inW (by omega : 0 < 170)) ?_
  rw [show (0 : Int32).toNatClampNeg = 0 by decide, h0]
  refine sw_cs hT rfl (r_in _ x (nI f) 0 (nI n)) rfl rfl (Nat.le_of_ble_eq_true rfl) ?_
  refine sw_b hT rfl rfl (fun c => absurd c ((inN (a := f) (lo := 0) (hi := n) (by omega) (by omega) (by omega)))) (fun _ => ?_)
  repeat (refine sw_s hT rfl rfl ?_)
  refine sw_cs hT rfl (r_inReal _ x z _ _) rfl rfl (Nat.le_of_ble_eq_true rfl) ?_
  refine sw_b hT rfl rfl (fun c => absurd c h2) (fun _ => ?_)
  repeat (refine sw_s hT rfl rfl ?_)
  refine sw_iald hT rfl rfl (inW (by omega : 0 < 170)) ?_
  rw [show (0 : Int32).toNatClampNeg = 0 by decide, h0]
  repeat (refine sw_s hT rfl rfl ?_)
  refine sw_b hT rfl rfl (fun c => ?_) (fun _ => ?_)
  · exact absurd ((nI_eq (a := n) (b := 12) (by omega) (by omega)).mp c) (by omega)
  repeat (refine sw_s hT rfl rfl ?_)
  rw [th_def, fks_th]
  refine sw_b hT rfl rfl (fun _ => ?_) (fun c => absurd ((by decide)) c)
  repeat (refine sw_s hT rfl rfl ?_)
  refine sw_cvR hT rfl (r_save _ (th x 0) c hc (th_5 h5)) rfl rfl rfl rfl (Nat.le_of_ble_eq_true rfl) ?_
  rintro _ y ⟨rfl, hy⟩
  have e84 := sv0_84 hy
  show SW X mX7_addLine 64 _ [] y
  repeat (refine sw_s hT rfl rfl ?_)
  refine sw_iald hT rfl rfl (inW (by omega : 0 < 170)) ?_
  rw [show (0 : Int32).toNatClampNeg = 0 by decide, e84, h0]
  have K : ∀ d j, d + j = 9 → SW X mX7_addLine 75 [(5, .int (nI j)), (4, .int (nI n)), (0, .ref 83), (1, .int (nI f)), (2, .double z)] [] (clS y n j, y.2) := by
    intro d
    induction d with
    | zero =>
      intro j hj
      have hj : j = 9 := by omega
      subst hj
      repeat (refine sw_s hT rfl rfl ?_)
      refine sw_b hT rfl rfl (fun _ => ?_) (fun c => absurd ((by decide)) c)
      repeat (refine sw_s hT rfl rfl ?_)
      refine sw_cs hT rfl (r_atL _ _ n 0 0 (by decide)) rfl rfl (Nat.le_of_ble_eq_true rfl) ?_
      repeat (refine sw_s hT rfl rfl ?_)
      refine sw_iast hT rfl rfl (inW (by omega)) ?_
      rw [clW (by omega)]
      repeat (refine sw_s hT rfl rfl ?_)
      refine sw_cs hT rfl (r_atL _ _ n 2 2 (by decide)) rfl rfl (Nat.le_of_ble_eq_true rfl) ?_
      repeat (refine sw_s hT rfl rfl ?_)
      refine sw_iast hT rfl rfl (inW (by omega)) ?_
      rw [clW (by omega)]
      repeat (refine sw_s hT rfl rfl ?_)
      refine sw_cs hT rfl (r_atL _ _ n 4 4 (by decide)) rfl rfl (Nat.le_of_ble_eq_true rfl) ?_
      repeat (refine sw_s hT rfl rfl ?_)
      refine sw_iast hT rfl rfl (inW (by omega)) ?_
      rw [clW (by omega)]
      repeat (refine sw_s hT rfl rfl ?_)
      rw [show (4 : Int32) + nI n = nI (4 + n) by rw [show (4 : Int32) = nI 4 by decide, nI_add]]
      refine sw_dast hT rfl rfl (inV (by omega)) ?_
      rw [clW (by omega)]
      repeat (refine sw_s hT rfl rfl ?_)
      refine sw_iald hT rfl rfl (inW (by omega : 0 < 170)) ?_
      rw [show (0 : Int32).toNatClampNeg = 0 by decide]
      repeat (refine sw_s hT rfl rfl ?_)
      refine sw_iast hT rfl rfl (inW (by omega : 0 < 170)) ?_
      rw [show (0 : Int32).toNatClampNeg = 0 by decide]
      repeat (refine sw_s hT rfl rfl ?_)
      refine sw_iretP hT rfl rfl rfl hR ?_
      refine ⟨y, hy, rfl, ?_⟩
      have e0 : u2 (u2 (u2 (clS y n 9) 84 (2 + 9 * n + 0) (nI f)) 84 (2 + 9 * n + 2) 100) 84 (2 + 9 * n + 4) 1 84 0 = nI n := by
        rw [u2_k _ _ _ _ (by omega), u2_k _ _ _ _ (by omega), u2_k _ _ _ _ (by omega), clS_k, if_neg (by omega), e84, h0]
      unfold adS
      rw [← e0]
      rfl
    | succ d ih =>
      intro j hj
      have q := ih (j + 1) (by omega)
      rw [← nI_1] at q
      repeat (refine sw_s hT rfl rfl ?_)
      rw [show (9 : Int32) = nI 9 by decide]
      refine sw_b hT rfl rfl (fun c => absurd c ((nI_ge (by omega) (by omega)))) (fun _ => ?_)
      repeat (refine sw_s hT rfl rfl ?_)
      refine sw_cs hT rfl (r_at _ _ n j) rfl rfl (Nat.le_of_ble_eq_true rfl) ?_
      repeat (refine sw_s hT rfl rfl ?_)
      refine sw_iast hT rfl rfl (inW (by omega)) ?_
      rw [clW (by omega)]
      repeat (first | (refine sw_at (n := 75) rfl ?_; exact (sw_pick [0, 1, 2, 3, 4] rfl q)) | refine sw_s hT rfl rfl ?_)
  have q := K 9 0 (by omega)
  repeat (first | (refine sw_at (n := 75) rfl ?_; exact (sw_pick [0, 1, 2, 3, 4] rfl q)) | refine sw_s hT rfl rfl ?_)
theorem b_addLine (Y : Kx) (x : Hp) (n : Nat) (f : Int32) (z : UInt64) (h0 : x.1 84 0 = nI n) (hv : ¬ ((0 ≤ f ∧ f ≤ nI n) ∧ inD z 4576918229304087675 4652007308841189376)) : sM Y mX7_addLine [.ref 83, .int f, .double z] x (some (.int 0)) (th x 1) := by
  refine sM_of (by decide +kernel) (Nat.le_of_ble_eq_true rfl) (fun X h hY hR => ?_)
  have hT := kX7_addLine h
  repeat (refine sw_s hT rfl rfl ?_)
  refine sw_iald hT rfl rfl (inW (by omega : 0 < 170)) ?_
  rw [show (0 : Int32).toNatClampNeg = 0 by decide, h0]
  refine sw_cs hT rfl (r_in _ x f 0 (nI n)) rfl rfl (Nat.le_of_ble_eq_true rfl) ?_
  refine sw_b hT rfl rfl (fun c1 => ?_) (fun c1 => ?_)
  · repeat (refine sw_s hT rfl rfl ?_)
    rw [th_def, fks_th]
    refine sw_b hT rfl rfl (fun c => absurd c ((by decide))) (fun _ => ?_)
    repeat (refine sw_s hT rfl rfl ?_)
    exact sw_iret hT rfl rfl rfl (hR)
  · repeat (refine sw_s hT rfl rfl ?_)
    refine sw_cs hT rfl (r_inReal _ x z _ _) rfl rfl (Nat.le_of_ble_eq_true rfl) ?_
    refine sw_b hT rfl rfl (fun c2 => ?_) (fun c2 => ?_)
    · repeat (refine sw_s hT rfl rfl ?_)
      rw [th_def, fks_th]
      refine sw_b hT rfl rfl (fun c => absurd c ((by decide))) (fun _ => ?_)
      repeat (refine sw_s hT rfl rfl ?_)
      exact sw_iret hT rfl rfl rfl (hR)
    · exact absurd ⟨Decidable.byContradiction (fun q => c1 (bI_0.mpr q)), c2⟩ hv
theorem b_addLine2 (Y : Kx) (x : Hp) (f : Int32) (z : UInt64) (h0 : x.1 84 0 = 12) (hv : (0 ≤ f ∧ f ≤ 12) ∧ inD z 4576918229304087675 4652007308841189376) : sM Y mX7_addLine [.ref 83, .int f, .double z] x (some (.int 0)) (th x 2) := by
  refine sM_of (by decide +kernel) (Nat.le_of_ble_eq_true rfl) (fun X h hY hR => ?_)
  have hT := kX7_addLine h
  repeat (refine sw_s hT rfl rfl ?_)
  refine sw_iald hT rfl rfl (inW (by omega : 0 < 170)) ?_
  rw [show (0 : Int32).toNatClampNeg = 0 by decide, h0]
  refine sw_cs hT rfl (r_in _ x f 0 12) rfl rfl (Nat.le_of_ble_eq_true rfl) ?_
  refine sw_b hT rfl rfl (fun c => absurd c ((bI_1 hv.1))) (fun _ => ?_)
  repeat (refine sw_s hT rfl rfl ?_)
  refine sw_cs hT rfl (r_inReal _ x z _ _) rfl rfl (Nat.le_of_ble_eq_true rfl) ?_
  refine sw_b hT rfl rfl (fun c => absurd c hv.2) (fun _ => ?_)
  repeat (refine sw_s hT rfl rfl ?_)
  refine sw_iald hT rfl rfl (inW (by omega : 0 < 170)) ?_
  rw [show (0 : Int32).toNatClampNeg = 0 by decide, h0]
  repeat (refine sw_s hT rfl rfl ?_)
  refine sw_b hT rfl rfl (fun _ => ?_) (fun c => absurd (rfl) c)
  repeat (refine sw_s hT rfl rfl ?_)
  rw [th_def, fks_th]
  refine sw_b hT rfl rfl (fun c => absurd c ((by decide))) (fun _ => ?_)
  repeat (refine sw_s hT rfl rfl ?_)
  exact sw_iret hT rfl rfl rfl (hR)
