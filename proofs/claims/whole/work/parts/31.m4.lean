/-! the reference's violations -/
def mOK (a b : UInt64) : Prop := (cmg a b < 0 ∧ ¬ cmg b a < 0) ∨ (cmg b a < 0 ∧ ¬ cmg a b < 0) ∨ (a = b ∧ ¬ cmg a b < 0)
/-- what the order of the margins gives -/
def ORD (g : Hp) (n : Nat) : Prop := (¬ cmg 9218868437227405312 (reqS g) < 0) ∧ (∀ k u, k < n → fbN g k = u + 1 → mOK (mgS g k u (nI 0)) (mgS g k u (nI 100)) ∧ ((¬ cmg (woS g k) (reqS g) < 0) ↔ (¬ cml (mgS g k u (nI 0)) (reqS g) < 0 ∧ ¬ cml (mgS g k u (nI 100)) (reqS g) < 0))) ∧ ∀ j k, j < n → k < n → vioS g k → (cmg (woS g j) (woS g k) < 0 ∨ cml (woS g j) (woS g k) = 0) → vioS g j
def MO (g x : Hp) (n : Nat) : Prop := MG g x n ∧ ORD g n
theorem MO_scr {g x y : Hp} {n : Nat} (hs : scr x y) (h : MO g x n) : MO g y n := ⟨MG_scr hs h.1, h.2⟩
theorem r_worst (Y : Kx) (g x : Hp) (n k u : Nat) (hM : MO g x n) (hk : k < n) (hu : fbN g k = u + 1) : sR Y mX7_worst [.ref 83, .int (nI k)] x (fun rr x' => rr = some (.double (woS g k)) ∧ scr x x') := by
  refine sR_of (by decide +kernel) (Nat.le_of_ble_eq_true rfl) (fun X h hY hR => ?_)
  have hT := kX7_worst h
  have hwo : woS g k = if cmg (mgS g k u (nI 100)) (mgS g k u (nI 0)) < 0 then mgS g k u (nI 100) else mgS g k u (nI 0) := by unfold woS; rw [hu]
  have hmo := (hM.2.2.1 k u hk hu).1
  rw [hwo] at hR
  repeat (refine sw_s hT rfl rfl ?_)
  rw [show (0 : Int32) = nI 0 by decide]
  refine sw_cvR hT rfl (r_marginOf _ g x n k u 0 hM.1 hk hu (by omega)) rfl rfl rfl rfl (Nat.le_of_ble_eq_true rfl) ?_
  rintro _ y ⟨rfl, ys⟩
  have yM := MO_scr ys hM
  show SW X mX7_worst 6 _ [_] y
  repeat (refine sw_s hT rfl rfl ?_)
  rw [show (100 : Int32) = nI 100 by decide]
  refine sw_cvR hT rfl (r_marginOf _ g y n k u 100 yM.1 hk hu (by omega)) rfl rfl rfl rfl (Nat.le_of_ble_eq_true rfl) ?_
  rintro _ z ⟨rfl, zs⟩
  have xz := scr_tr ys zs
  generalize mgS g k u (nI 0) = a at *
  generalize mgS g k u (nI 100) = b at *
  show SW X mX7_worst 14 _ [_] z
  repeat (refine sw_s hT rfl rfl ?_)
  refine sw_b hT rfl rfl (fun c1 => ?_) (fun c1 => ?_)
  · have c2 : ¬ cmg a b < 0 := Int32.not_lt.mpr c1
    repeat (refine sw_s hT rfl rfl ?_)
    refine sw_dretP hT rfl rfl hR ?_
    refine ⟨?_, xz⟩
    rcases hmo with ⟨q, -⟩ | ⟨q, -⟩ | ⟨q, -⟩
    · exact absurd q c2
    · rw [if_pos q]
    · rw [q]; split <;> rfl
  · have c2 : cmg a b < 0 := Int32.not_le.mp c1
    repeat (refine sw_s hT rfl rfl ?_)
    refine sw_dretP hT rfl rfl hR ?_
    refine ⟨?_, xz⟩
    rcases hmo with ⟨-, q⟩ | ⟨-, q⟩ | ⟨-, q⟩
    · rw [if_neg q]
    · exact absurd c2 q
    · exact absurd c2 q
def vioB (g : Hp) (k : Nat) : Int32 := if cmg (woS g k) (reqS g) < 0 then 1 else 0
theorem vioB_n {g : Hp} {k : Nat} : narrow .boolean (.int (vioB g k)) = .int (vioB g k) := by
  unfold vioB
  split <;> rfl
theorem vioB_0 {g : Hp} {k : Nat} : vioB g k = 0 ↔ ¬ vioS g k := by
  unfold vioB vioS
  split
  · next h => exact ⟨fun q => absurd q (by decide), fun q => absurd h q⟩
  · next h => exact ⟨fun _ => h, fun _ => rfl⟩
theorem r_isViolation (Y : Kx) (g x : Hp) (n k : Nat) (hM : MO g x n) (hk : k < n) : sR Y mX7_isViolation [.ref 83, .int (nI k)] x (fun rr x' => rr = some (.int (vioB g k)) ∧ scr x x') := by
  refine sR_of (by decide +kernel) (Nat.le_of_ble_eq_true rfl) (fun X h hY hR => ?_)
  have hT := kX7_isViolation h
  have h12 := hM.1.2.1.1
  obtain ⟨f1, f2⟩ := hM.1.2.1.2.2.1 k hk
  repeat (refine sw_s hT rfl rfl ?_)
  refine sw_cv hT rfl (r_above _ g x n k hM.1.1.1 hk) rfl rfl rfl rfl (Nat.le_of_ble_eq_true rfl) ?_
  cases hu : fbN g k with
  | zero =>
    have hwo : woS g k = 9218868437227405312 := by unfold woS; rw [hu]
    have hv : vioB g k = 0 := by rw [vioB_0]; unfold vioS; rw [hwo]; exact hM.2.1
    refine sw_b hT rfl rfl (fun _ => ?_) (fun c => absurd ((by decide)) c)
    repeat (refine sw_s hT rfl rfl ?_)
    refine sw_iretP hT rfl rfl rfl hR ⟨by rw [hv], scr_rf⟩
  | succ u =>
    rw [nI_pred]
    refine sw_b hT rfl rfl (fun c => absurd c ((nI_pos (by omega)))) (fun _ => ?_)
    repeat (refine sw_s hT rfl rfl ?_)
    refine sw_cvR hT rfl (r_worst _ g x n k u hM hk hu) rfl rfl rfl rfl (Nat.le_of_ble_eq_true rfl) ?_
    rintro _ y ⟨rfl, ys⟩
    have e85 : y.2.1 85 = x.2.1 85 := ys.1.2.1 85 (by decide)
    show SW X mX7_isViolation 13 _ [_] y
    repeat (refine sw_s hT rfl rfl ?_)
    refine sw_dald hT rfl rfl (inV (by omega : 2 < 76)) ?_
    rw [show (2 : Int32).toNatClampNeg = 2 by decide, e85, hM.1.1.2.2.2.2.1.2.2.1]
    repeat (refine sw_s hT rfl rfl ?_)
    refine sw_b hT rfl rfl (fun c1 => ?_) (fun c1 => ?_)
    · have hv : vioB g k = 0 := vioB_0.mpr (fun q => Int32.not_lt.mpr c1 q)
      repeat (refine sw_s hT rfl rfl ?_)
      refine sw_iretP hT rfl rfl rfl hR ⟨by rw [hv], ys⟩
    · have hv : vioB g k = 1 := by unfold vioB; rw [if_pos (show cmg (woS g k) (reqS g) < 0 from Int32.not_le.mp c1)]
      repeat (refine sw_s hT rfl rfl ?_)
      refine sw_iretP hT rfl rfl rfl hR ⟨by rw [hv], ys⟩
theorem r_violations (Y : Kx) (g x : Hp) (n : Nat) (hM : MO g x n) : sR Y mX7_violations [.ref 83] x (fun rr x' => rr = some (.int (nI (cvS g n))) ∧ scr x x') := by
  refine sR_of (by decide +kernel) (Nat.le_of_ble_eq_true rfl) (fun X h hY hR => ?_)
  have hT := kX7_violations h
  have h12 := hM.1.2.1.1
  have K : ∀ d j, d + j = n → ∀ y, scr x y → SW X mX7_violations 4 [(2, .int (nI j)), (1, .int (nI (cvS g j))), (0, .ref 83)] [] y := by
    intro d
    induction d with
    | zero =>
      intro j hj y hs
      have hjn : j = n := by omega
      subst hjn
      have yM := MO_scr hs hM
      repeat (refine sw_s hT rfl rfl ?_)
      refine sw_iald hT rfl rfl (inW (by omega : 0 < 170)) ?_
      rw [show (0 : Int32).toNatClampNeg = 0 by decide, yM.1.1.1.2.1]
      refine sw_b hT rfl rfl (fun _ => ?_) (fun c => absurd ((Int32.le_refl _)) c)
      repeat (refine sw_s hT rfl rfl ?_)
      refine sw_iretP hT rfl rfl rfl hR ?_
      exact ⟨rfl, hs⟩
    | succ d ih =>
      intro j hj y hs
      have yM := MO_scr hs hM
      repeat (refine sw_s hT rfl rfl ?_)
      refine sw_iald hT rfl rfl (inW (by omega : 0 < 170)) ?_
      rw [show (0 : Int32).toNatClampNeg = 0 by decide, yM.1.1.1.2.1]
      refine sw_b hT rfl rfl (fun c => absurd c ((nI_ge (by omega) (by omega)))) (fun _ => ?_)
      repeat (refine sw_s hT rfl rfl ?_)
      refine sw_cvR hT rfl (r_isViolation _ g y n j yM (by omega)) rfl rfl rfl rfl (Nat.le_of_ble_eq_true rfl) ?_
      rintro _ z ⟨rfl, zs⟩
      have q := ih (j + 1) (by omega) z (scr_tr hs zs)
      have hl : cvS g (j + 1) = if cmg (woS g j) (reqS g) < 0 then cvS g j + 1 else cvS g j := rfl
      rw [hl, ← nI_1] at q
      show SW X mX7_violations 20 _ [_, _] z
      refine sw_b hT rfl rfl (fun c1 => ?_) (fun c1 => ?_)
      · have c2 : ¬ cmg (woS g j) (reqS g) < 0 := vioB_0.mp c1
        rw [if_neg c2] at q
        refine sw_s hT rfl rfl ?_
        refine sw_s hT rfl rfl ?_
        refine sw_s hT rfl rfl ?_
        rw [show nI (cvS g j) + 0 = nI (cvS g j) from Int32.add_zero _]
        repeat (first | (refine sw_at (n := 4) rfl ?_; exact (sw_pick [0, 1, 2] rfl q)) | refine sw_s hT rfl rfl ?_)
      · have c2 : cmg (woS g j) (reqS g) < 0 := Decidable.byContradiction (fun z => c1 (vioB_0.mpr z))
        rw [if_pos c2, ← nI_1] at q
        repeat (first | (refine sw_at (n := 4) rfl ?_; exact (sw_pick [0, 1, 2] rfl q)) | refine sw_s hT rfl rfl ?_)
  repeat (first | (refine sw_at (n := 4) rfl ?_; exact (K n 0 (by omega) x scr_rf)) | refine sw_s hT rfl rfl ?_)
