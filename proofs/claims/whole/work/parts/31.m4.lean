/-! the reference's violations -/
def mOK (a b : UInt64) : Prop := (cmg a b < 0 ∧ ¬ cmg b a < 0) ∨ (cmg b a < 0 ∧ ¬ cmg a b < 0) ∨ (a = b ∧ ¬ cmg a b < 0)
/-- what the order of the margins gives -/
def ORD (x : Hp) (n : Nat) : Prop := (¬ cmg 9218868437227405312 (reqS x) < 0) ∧ (∀ k u, k < n → fbN x k = u + 1 → mOK (mgS x k u (nI 0)) (mgS x k u (nI 100)) ∧ ((¬ cmg (woS x k) (reqS x) < 0) ↔ (¬ cml (mgS x k u (nI 0)) (reqS x) < 0 ∧ ¬ cml (mgS x k u (nI 100)) (reqS x) < 0))) ∧ ∀ j k, j < n → k < n → vioS x k → (cmg (woS x j) (woS x k) < 0 ∨ cml (woS x j) (woS x k) = 0) → vioS x j
theorem reqS_scr {x y : Hp} (hs : scr x y) : reqS y = reqS x := by unfold reqS; rw [hs.1.2.1 1 (by decide)]
theorem vioS_scr {x y : Hp} (hs : scr x y) (k : Nat) : vioS y k ↔ vioS x k := by unfold vioS; rw [woS_scr hs, reqS_scr hs]
theorem ORD_scr {x y : Hp} {n : Nat} (hs : scr x y) (h : ORD x n) : ORD y n := by
  obtain ⟨h1, h2, h3⟩ := h
  refine ⟨by rw [reqS_scr hs]; exact h1, fun k u hk hu => ?_, fun j k hj hk => ?_⟩
  · rw [fbN_scr hs] at hu
    rw [mgS_scr hs, mgS_scr hs, woS_scr hs, reqS_scr hs]
    exact h2 k u hk hu
  · rw [vioS_scr hs, vioS_scr hs, woS_scr hs, woS_scr hs]
    exact h3 j k hj hk
def MO (x : Hp) (n : Nat) : Prop := MG x n ∧ ORD x n
theorem MO_scr {x y : Hp} {n : Nat} (hs : scr x y) (h : MO x n) : MO y n := ⟨MG_scr hs h.1, ORD_scr hs h.2⟩
theorem r_worst (Y : Kx) (x : Hp) (n k u : Nat) (hM : MO x n) (hk : k < n) (hu : fbN x k = u + 1) : sR Y mX7_worst [.ref 83, .int (nI k)] x (fun rr x' => rr = some (.double (woS x k)) ∧ scr x x') := by
  refine sR_of (by decide +kernel) (Nat.le_of_ble_eq_true rfl) (fun X h hY hR => ?_)
  have hT := kX7_worst h
  have hwo : woS x k = if cmg (mgS x k u (nI 100)) (mgS x k u (nI 0)) < 0 then mgS x k u (nI 100) else mgS x k u (nI 0) := by unfold woS; rw [hu]
  have hmo := (hM.2.2.1 k u hk hu).1
  rw [hwo] at hR
  repeat (refine sw_s hT rfl rfl ?_)
  rw [show (0 : Int32) = nI 0 by decide]
  refine sw_cvR hT rfl (r_marginOf _ x n k u 0 hM.1 hk hu (by omega)) rfl rfl rfl rfl (Nat.le_of_ble_eq_true rfl) ?_
  rintro _ y ⟨rfl, ys⟩
  have yM := MO_scr ys hM
  show SW X mX7_worst 6 _ [_] y
  repeat (refine sw_s hT rfl rfl ?_)
  rw [show (100 : Int32) = nI 100 by decide]
  refine sw_cvR hT rfl (r_marginOf _ y n k u 100 yM.1 hk (by rw [fbN_scr ys]; exact hu) (by omega)) rfl rfl rfl rfl (Nat.le_of_ble_eq_true rfl) ?_
  rw [mgS_scr ys]
  rintro _ z ⟨rfl, zs⟩
  have xz := scr_tr ys zs
  generalize mgS x k u (nI 0) = a at *
  generalize mgS x k u (nI 100) = b at *
  show SW X mX7_worst 14 _ [_] z
  repeat (refine sw_s hT rfl rfl ?_)
  refine sw_b hT rfl rfl (fun c1 => ?_) (fun c1 => ?_)
  · have c2 : ¬ cmg a b < 0 := Int32.not_lt.mpr c1
    repeat (refine sw_s hT rfl rfl ?_)
    refine sw_dretP hT rfl rfl hR ?_
    refine ⟨?_, xz⟩
    rcases hmo with ⟨q, -⟩ | ⟨q, -⟩ | ⟨q, -⟩
    · exact absurd q c2
    · rw [if_pos q]
    · rw [q]; split <;> rfl
  · have c2 : cmg a b < 0 := Int32.not_le.mp c1
    repeat (refine sw_s hT rfl rfl ?_)
    refine sw_dretP hT rfl rfl hR ?_
    refine ⟨?_, xz⟩
    rcases hmo with ⟨-, q⟩ | ⟨-, q⟩ | ⟨-, q⟩
    · rw [if_neg q]
    · exact absurd c2 q
    · exact absurd c2 q
def vioB (x : Hp) (k : Nat) : Int32 := if cmg (woS x k) (reqS x) < 0 then 1 else 0
theorem vioB_scr {x y : Hp} (hs : scr x y) (k : Nat) : vioB y k = vioB x k := by unfold vioB; rw [woS_scr hs, reqS_scr hs]
theorem vioB_n {x : Hp} {k : Nat} : narrow .boolean (.int (vioB x k)) = .int (vioB x k) := by
  unfold vioB
  split <;> rfl
theorem vioB_0 {x : Hp} {k : Nat} : vioB x k = 0 ↔ ¬ vioS x k := by
  unfold vioB vioS
  split
  · next h => exact ⟨fun q => absurd q (by decide), fun q => absurd h q⟩
  · next h => exact ⟨fun _ => h, fun _ => rfl⟩
theorem r_isViolation (Y : Kx) (x : Hp) (n k : Nat) (hM : MO x n) (hk : k < n) : sR Y mX7_isViolation [.ref 83, .int (nI k)] x (fun rr x' => rr = some (.int (vioB x k)) ∧ scr x x') := by
  refine sR_of (by decide +kernel) (Nat.le_of_ble_eq_true rfl) (fun X h hY hR => ?_)
  have hT := kX7_isViolation h
  have h12 := hM.1.2.1.1
  obtain ⟨f1, f2⟩ := hM.1.2.1.2.2.1 k hk
  repeat (refine sw_s hT rfl rfl ?_)
  refine sw_cv hT rfl (r_above _ x n k hM.1.1.1 hk) rfl rfl rfl rfl (Nat.le_of_ble_eq_true rfl) ?_
  cases hu : fbN x k with
  | zero =>
    have hwo : woS x k = 9218868437227405312 := by unfold woS; rw [hu]
    have hv : vioB x k = 0 := by rw [vioB_0]; unfold vioS; rw [hwo]; exact hM.2.1
    refine sw_b hT rfl rfl (fun _ => ?_) (fun c => absurd ((by decide)) c)
    repeat (refine sw_s hT rfl rfl ?_)
    refine sw_iretP hT rfl rfl rfl hR ⟨by rw [hv], scr_rf⟩
  | succ u =>
    rw [nI_pred]
    refine sw_b hT rfl rfl (fun c => absurd c ((nI_pos (by omega)))) (fun _ => ?_)
    repeat (refine sw_s hT rfl rfl ?_)
    refine sw_cvR hT rfl (r_worst _ x n k u hM hk hu) rfl rfl rfl rfl (Nat.le_of_ble_eq_true rfl) ?_
    rintro _ y ⟨rfl, ys⟩
    have e85 : y.2.1 85 = x.2.1 85 := ys.1.2.1 85 (by decide)
    show SW X mX7_isViolation 13 _ [_] y
    repeat (refine sw_s hT rfl rfl ?_)
    refine sw_dald hT rfl rfl (inV (by omega : 2 < 76)) ?_
    rw [show (2 : Int32).toNatClampNeg = 2 by decide, e85, hM.1.1.2.2.2.2.1.2.2.1]
    repeat (refine sw_s hT rfl rfl ?_)
    refine sw_b hT rfl rfl (fun c1 => ?_) (fun c1 => ?_)
    · have hv : vioB x k = 0 := vioB_0.mpr (fun q => Int32.not_lt.mpr c1 q)
      repeat (refine sw_s hT rfl rfl ?_)
      refine sw_iretP hT rfl rfl rfl hR ⟨by rw [hv], ys⟩
    · have hv : vioB x k = 1 := by unfold vioB; rw [if_pos (show cmg (woS x k) (reqS x) < 0 from Int32.not_le.mp c1)]
      repeat (refine sw_s hT rfl rfl ?_)
      refine sw_iretP hT rfl rfl rfl hR ⟨by rw [hv], ys⟩
theorem cvS_scr {x y : Hp} (hs : scr x y) : ∀ j, cvS y j = cvS x j
  | 0 => rfl
  | j + 1 => by unfold cvS; rw [cvS_scr hs j, woS_scr hs, reqS_scr hs]
theorem r_violations (Y : Kx) (x : Hp) (n : Nat) (hM : MO x n) : sR Y mX7_violations [.ref 83] x (fun rr x' => rr = some (.int (nI (cvS x n))) ∧ scr x x') := by
  refine sR_of (by decide +kernel) (Nat.le_of_ble_eq_true rfl) (fun X h hY hR => ?_)
  have hT := kX7_violations h
  have h12 := hM.1.2.1.1
  have K : ∀ d j, d + j = n → ∀ y, scr x y → SW X mX7_violations 4 [(2, .int (nI j)), (1, .int (nI (cvS x j))), (0, .ref 83)] [] y := by
    intro d
    induction d with
    | zero =>
      intro j hj y hs
      have hjn : j = n := by omega
      subst hjn
      have yM := MO_scr hs hM
      repeat (refine sw_s hT rfl rfl ?_)
      refine sw_iald hT rfl rfl (inW (by omega : 0 < 170)) ?_
      rw [show (0 : Int32).toNatClampNeg = 0 by decide, yM.1.1.1.2.1]
      refine sw_b hT rfl rfl (fun _ => ?_) (fun c => absurd ((Int32.le_refl _)) c)
      repeat (refine sw_s hT rfl rfl ?_)
      refine sw_iretP hT rfl rfl rfl hR ?_
      exact ⟨rfl, hs⟩
    | succ d ih =>
      intro j hj y hs
      have yM := MO_scr hs hM
      repeat (refine sw_s hT rfl rfl ?_)
      refine sw_iald hT rfl rfl (inW (by omega : 0 < 170)) ?_
      rw [show (0 : Int32).toNatClampNeg = 0 by decide, yM.1.1.1.2.1]
      refine sw_b hT rfl rfl (fun c => absurd c ((nI_ge (by omega) (by omega)))) (fun _ => ?_)
      repeat (refine sw_s hT rfl rfl ?_)
      refine sw_cvR hT rfl (r_isViolation _ y n j yM (by omega)) rfl rfl rfl rfl (Nat.le_of_ble_eq_true rfl) ?_
      rw [vioB_scr hs]
      rintro _ z ⟨rfl, zs⟩
      have q := ih (j + 1) (by omega) z (scr_tr hs zs)
      have hl : cvS x (j + 1) = if cmg (woS x j) (reqS x) < 0 then cvS x j + 1 else cvS x j := rfl
      rw [hl, ← nI_1] at q
      show SW X mX7_violations 20 _ [_, _] z
      refine sw_b hT rfl rfl (fun c1 => ?_) (fun c1 => ?_)
      · have c2 : ¬ cmg (woS x j) (reqS x) < 0 := vioB_0.mp c1
        rw [if_neg c2] at q
        refine sw_s hT rfl rfl ?_
        refine sw_s hT rfl rfl ?_
        refine sw_s hT rfl rfl ?_
        rw [show nI (cvS x j) + 0 = nI (cvS x j) from Int32.add_zero _]
        repeat (first | (refine sw_at (n := 4) rfl ?_; exact (sw_pick [0, 1, 2] rfl q)) | refine sw_s hT rfl rfl ?_)
      · have c2 : cmg (woS x j) (reqS x) < 0 := Decidable.byContradiction (fun z => c1 (vioB_0.mpr z))
        rw [if_pos c2, ← nI_1] at q
        repeat (first | (refine sw_at (n := 4) rfl ?_; exact (sw_pick [0, 1, 2] rfl q)) | refine sw_s hT rfl rfl ?_)
  repeat (first | (refine sw_at (n := 4) rfl ?_; exact (K n 0 (by omega) x scr_rf)) | refine sw_s hT rfl rfl ?_)
