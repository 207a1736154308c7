/-! the reference: checksum, grading, pickups -/
theorem r_mixed (Y : Kx) (x : Hp) (h v : Int64) : sM Y mX7_mixed [.long h, .long v] x (some (.long (mxS h v))) x := by
  refine sM_of (by decide +kernel) (Nat.le_of_ble_eq_true rfl) (fun X h hY hR => ?_)
  have hT := kX7_mixed h
  unfold mxS at hR
  repeat (refine sw_s hT rfl rfl ?_)
  exact sw_lret hT rfl rfl (hR)
/-- no NaN, and the class's bits are the machine's -/
def bEQ (v : UInt64) : Prop := cml v v = 0 ∧ v.toInt64 = bitS2 v
theorem r_isNaN (Y : Kx) (x : Hp) (v : UInt64) (hv : bEQ v) : sM Y mJxe99ae_isNaN_b9ae7 [.double v] x (some (.int 0)) x := by
  refine sM_of (by decide +kernel) (Nat.le_of_ble_eq_true rfl) (fun X h hY hR => ?_)
  have hT := kJxe99ae_isNaN_b9ae7 h
  repeat (refine sw_s hT rfl rfl ?_)
  refine sw_b hT rfl rfl (fun _ => ?_) (fun c => absurd (hv.1) c)
  repeat (refine sw_s hT rfl rfl ?_)
  exact sw_iret hT rfl rfl rfl (hR)
theorem r_dtl (Y : Kx) (x : Hp) (v : UInt64) (hv : bEQ v) : sM Y mJxe99ae_doubleToLongBits_ccdee [.double v] x (some (.long (bitS2 v))) x := by
  refine sM_of (by decide +kernel) (Nat.le_of_ble_eq_true rfl) (fun X h hY hR => ?_)
  have hT := kJxe99ae_doubleToLongBits_ccdee h
  rw [← hv.2] at hR
  repeat (refine sw_s hT rfl rfl ?_)
  refine sw_cs hT rfl (r_isNaN _ x v hv) rfl rfl (Nat.le_of_ble_eq_true rfl) ?_
  refine sw_b hT rfl rfl (fun _ => ?_) (fun c => absurd (rfl) c)
  repeat (refine sw_s hT rfl rfl ?_)
  refine sw_raw hT rfl (by decide) ?_
  exact sw_lret hT rfl rfl (hR)
theorem r_mixedReal (Y : Kx) (x : Hp) (h : Int64) (v : UInt64) (hv : bEQ v) : sM Y mX7_mixedReal [.long h, .double v] x (some (.long (mxS h (bitS2 v)))) x := by
  refine sM_of (by decide +kernel) (Nat.le_of_ble_eq_true rfl) (fun X h hY hR => ?_)
  have hT := kX7_mixedReal h
  unfold mxS at hR
  repeat (refine sw_s hT rfl rfl ?_)
  refine sw_cs hT rfl (r_dtl _ x v hv) rfl rfl (Nat.le_of_ble_eq_true rfl) ?_
  repeat (refine sw_s hT rfl rfl ?_)
  exact sw_lret hT rfl rfl (hR)
/-- the events, on both sides -/
def EVR (g x : Hp) (ne : Nat) : Prop := ne ≤ 60 ∧ g.1 13 0 = nI ne ∧ x.1 84 1 = nI ne ∧ (∀ j, j < ne → x.1 84 (110 + j) = g.1 14 j ∧ x.2.1 85 (16 + j) = g.2.1 15 j) ∧ x.2.1 85 3 = g.2.1 13 3
theorem EVR_fr {g x y : Hp} {n : Nat} (h : EVR g x n) (e84 : y.1 84 = x.1 84) (e85 : y.2.1 85 = x.2.1 85) : EVR g y n := by
  obtain ⟨h1, h2, h3, h4, h5⟩ := h
  exact ⟨h1, h2, by rw [e84]; exact h3, fun j hj => by rw [e84, e85]; exact h4 j hj, by rw [e85]; exact h5⟩
theorem nI_nle7 {a : Nat} (h : a ≤ 7) : ¬ nI 7 < nI a := Int32.not_lt.mpr (nI_le h (by omega))
/-- the settings of one line, as the reference mixes them -/
def mlS (x : Hp) (k : Nat) (h : Int64) : Nat → Int64
  | 0 => h
  | w + 1 => mxS (mlS x k h w) (x.1 84 (2 + 9 * k + (w + 1))).toInt64
theorem r_digest (Y : Kx) (g x : Hp) (n ne : Nat) (hM : MO g x n) (hO : oM x n = g.1 7 6) (hU : x.1 83 5 = g.1 76 0) (hE : EVR g x ne) (ok0 : bEQ (g.2.1 2 0) ∧ bEQ (g.2.1 2 1) ∧ bEQ (g.2.1 1 3)) (ok1 : ∀ k, k < n → bEQ (g.2.1 5 k) ∧ bEQ (curS g k (nI 100))) (ok : ∀ j, j < ne → bEQ (g.2.1 15 j)) (ok2 : bEQ (g.2.1 13 3)) : sR Y mX7_digest [.ref 83] x (fun rr z => rr = some (.long (dgS g n ne)) ∧ scr (th x 0) z) := by
  refine sR_of (by decide +kernel) (Nat.le_of_ble_eq_true rfl) (fun X h hY hR => ?_)
  have hT := kX7_digest h
  have h12 := hM.1.2.1.1
  obtain ⟨hE1, hE2, hE3, hE4, hE5⟩ := hE
  have hRL := hM.1.1
  obtain ⟨d0, d1, d2, d3⟩ := hRL.2.2.2.2.1
  have hg2 : g.1 2 2 = nI n := hM.1.2.1.2.1
  -- behind the lines
  have KE : ∀ H, dgS g n ne = mxS (evS g ne H) (bitS2 (g.2.1 13 3)) → ∀ d j, d + j = ne → ∀ y, scr (th x 0) y → SW X mX7_digest 178 [(3, .int (nI j)), (1, .long (evS g j H)), (0, .ref 83)] [] y := by
    intro H hH d
    induction d with
    | zero =>
      intro j hj y hs
      have hjn : j = ne := by omega
      subst hjn
      have e84 : y.1 84 = x.1 84 := (hs.1.1 84 (by decide)).trans (th_o (by decide))
      have e85 : y.2.1 85 = x.2.1 85 := hs.1.2.1 85 (by decide)
      repeat (refine sw_s hT rfl rfl ?_)
      refine sw_iald hT rfl rfl (inW (by omega : 1 < 170)) ?_
      rw [show (1 : Int32).toNatClampNeg = 1 by decide, e84, hE3]
      refine sw_b hT rfl rfl (fun _ => ?_) (fun c => absurd ((Int32.le_refl _)) c)
      repeat (refine sw_s hT rfl rfl ?_)
      refine sw_dald hT rfl rfl (inV (by omega : 3 < 76)) ?_
      rw [show (3 : Int32).toNatClampNeg = 3 by decide, e85, hE5]
      refine sw_cs hT rfl (r_mixedReal _ y _ _ ok2) rfl rfl (Nat.le_of_ble_eq_true rfl) ?_
      refine sw_lretP hT rfl rfl hR ?_
      exact ⟨by rw [hH], hs⟩
    | succ d ih =>
      intro j hj y hs
      have e84 : y.1 84 = x.1 84 := (hs.1.1 84 (by decide)).trans (th_o (by decide))
      have e85 : y.2.1 85 = x.2.1 85 := hs.1.2.1 85 (by decide)
      have q := ih (j + 1) (by omega) y hs
      rw [← nI_1] at q
      repeat (refine sw_s hT rfl rfl ?_)
      refine sw_iald hT rfl rfl (inW (by omega : 1 < 170)) ?_
      rw [show (1 : Int32).toNatClampNeg = 1 by decide, e84, hE3]
      refine sw_b hT rfl rfl (fun c => absurd c ((nI_ge (by omega) (by omega)))) (fun _ => ?_)
      repeat (refine sw_s hT rfl rfl ?_)
      rw [show (110 : Int32) + nI j = nI (110 + j) by rw [show (110 : Int32) = nI 110 by decide, nI_add]]
      refine sw_iald hT rfl rfl (inW (by omega)) ?_
      rw [clW (by omega), e84, (hE4 j (by omega)).1]
      repeat (refine sw_s hT rfl rfl ?_)
      refine sw_cs hT rfl (r_mixed _ y _ _) rfl rfl (Nat.le_of_ble_eq_true rfl) ?_
      repeat (refine sw_s hT rfl rfl ?_)
      rw [show (16 : Int32) + nI j = nI (16 + j) by rw [show (16 : Int32) = nI 16 by decide, nI_add]]
      refine sw_dald hT rfl rfl (inV (by omega)) ?_
      rw [clW (by omega), e85, (hE4 j (by omega)).2]
      refine sw_cs hT rfl (r_mixedReal _ y _ _ (ok j (by omega))) rfl rfl (Nat.le_of_ble_eq_true rfl) ?_
      repeat (first | (refine sw_at (n := 178) rfl ?_; exact (sw_pick [0, 1, 2] rfl q)) | refine sw_s hT rfl rfl ?_)
  have KL : ∀ d j, d + j = n → ∀ y, scr (th x 0) y → SW X mX7_digest 60 [(3, .int (nI j)), (1, .long (dgL g j (dgH g))), (0, .ref 83)] [] y := by
    intro d
    induction d with
    | zero =>
      intro j hj y hs
      have hjn : j = n := by omega
      subst hjn
      have e84 : y.1 84 = x.1 84 := (hs.1.1 84 (by decide)).trans (th_o (by decide))
      have yM : MO g y j := MO_scr hs (MO_th hM)
      repeat (refine sw_s hT rfl rfl ?_)
      refine sw_iald hT rfl rfl (inW (by omega : 0 < 170)) ?_
      rw [show (0 : Int32).toNatClampNeg = 0 by decide, e84, hRL.1.2.1]
      refine sw_b hT rfl rfl (fun _ => ?_) (fun c => absurd ((Int32.le_refl _)) c)
      repeat (refine sw_s hT rfl rfl ?_)
      refine sw_cv hT rfl (r_openOnes _ y j (by rw [e84]; exact hRL.1.2.1) h12) rfl rfl rfl rfl (Nat.le_of_ble_eq_true rfl) ?_
      rw [oM_eq e84, hO]
      repeat (refine sw_s hT rfl rfl ?_)
      refine sw_cs hT rfl (r_mixed _ y _ _) rfl rfl (Nat.le_of_ble_eq_true rfl) ?_
      repeat (refine sw_s hT rfl rfl ?_)
      refine sw_cvR hT rfl (r_violations _ g y j yM) rfl rfl rfl rfl (Nat.le_of_ble_eq_true rfl) ?_
      rintro _ z ⟨rfl, zs⟩
      have f84 : z.1 84 = x.1 84 := (zs.1.1 84 (by decide)).trans e84
      show SW X mX7_digest 161 _ [_, _] z
      repeat (refine sw_s hT rfl rfl ?_)
      refine sw_cs hT rfl (r_mixed _ z _ _) rfl rfl (Nat.le_of_ble_eq_true rfl) ?_
      repeat (refine sw_s hT rfl rfl ?_)
      refine sw_iald hT rfl rfl (inW (by omega : 1 < 170)) ?_
      rw [show (1 : Int32).toNatClampNeg = 1 by decide, f84, hE3, ← hE2]
      repeat (refine sw_s hT rfl rfl ?_)
      refine sw_cs hT rfl (r_mixed _ z _ _) rfl rfl (Nat.le_of_ble_eq_true rfl) ?_
      have q := KE (mxS (mxS (dgL g j (dgH g)) (g.1 7 6).toInt64) (nI (cvS g j)).toInt64) rfl ne 0 (by omega) z (scr_tr hs zs)
      repeat (first | (refine sw_at (n := 178) rfl ?_; exact (q)) | refine sw_s hT rfl rfl ?_)
    | succ d ih =>
      intro j hj y hs
      have hjn : j < n := by omega
      have e84 : y.1 84 = x.1 84 := (hs.1.1 84 (by decide)).trans (th_o (by decide))
      have e85 : y.2.1 85 = x.2.1 85 := hs.1.2.1 85 (by decide)
      have yR : REL g y n := REL_scr (REL_th hRL) hs
      obtain ⟨s1, s2, s3, s4, s5, s6, s7⟩ := yR.2.2.2.2.2 j hjn
      have KW : ∀ c w, c + w = 7 → SW X mX7_digest 100 [(4, .int (nI (w + 1))), (1, .long (mlS y j (mxS (mxS (dgL g j (dgH g)) (g.1 3 j).toInt64) (bitS2 (g.2.1 5 j))) w)), (3, .int (nI j)), (0, .ref 83)] [] y := by
        intro c
        induction c with
        | zero =>
          intro w hw
          have hw : w = 7 := by omega
          subst hw
          repeat (refine sw_s hT rfl rfl ?_)
          refine sw_b hT rfl rfl (fun _ => ?_) (fun c => absurd ((by decide)) c)
          repeat (refine sw_s hT rfl rfl ?_)
          rw [show (100 : Int32) = nI 100 by decide]
          refine sw_cvR hT rfl (r_currentAt _ g y n j 100 yR hjn (by omega) (hM.1.2.1.2.2.2 j hjn 100 (by omega)).1) rfl rfl rfl rfl (Nat.le_of_ble_eq_true rfl) ?_
          rintro _ z ⟨rfl, zs, -⟩
          have q := ih (j + 1) (by omega) z (scr_tr hs zs)
          have hml : mlS y j (mxS (mxS (dgL g j (dgH g)) (g.1 3 j).toInt64) (bitS2 (g.2.1 5 j))) 7 = mxS (mxS (mxS (mxS (mxS (mxS (mxS (mxS (mxS (dgL g j (dgH g)) (g.1 3 j).toInt64) (bitS2 (g.2.1 5 j))) (g.1 6 j).toInt64) (g.1 8 j).toInt64) (g.1 9 j).toInt64) (g.1 10 j).toInt64) (g.1 11 j).toInt64) (g.1 12 j).toInt64) (if (g.1 7 5 >>> (nI j &&& 31)) &&& 1 = 0 then 0 else 1) := by
            have e7 : (if (g.1 7 5 >>> (nI j &&& 31)) &&& 1 = 0 then (0 : Int64) else 1) = (if bS (g.1 7 5) j then (1 : Int32) else 0).toInt64 := by
              by_cases hb : (g.1 7 5 >>> (nI j &&& 31)) &&& 1 = 0
              · rw [if_pos hb, if_neg (fun q => q hb)]; decide
              · rw [if_neg hb, if_pos hb]; decide
            unfold mlS mlS mlS mlS mlS mlS mlS mlS
            rw [show 2 + 9 * j + (0 + 1) = 2 + 9 * j + 1 from rfl, show 2 + 9 * j + (1 + 1) = 2 + 9 * j + 2 from rfl, show 2 + 9 * j + (2 + 1) = 2 + 9 * j + 3 from rfl, show 2 + 9 * j + (3 + 1) = 2 + 9 * j + 4 from rfl, show 2 + 9 * j + (4 + 1) = 2 + 9 * j + 5 from rfl, show 2 + 9 * j + (5 + 1) = 2 + 9 * j + 6 from rfl, show 2 + 9 * j + (6 + 1) = 2 + 9 * j + 7 from rfl, s1, s2, s3, s4, s5, s6, s7, e7]
          rw [hml]
          have hln : dgL g (j + 1) (dgH g) = mxS (mxS (mxS (mxS (mxS (mxS (mxS (mxS (mxS (mxS (dgL g j (dgH g)) (g.1 3 j).toInt64) (bitS2 (g.2.1 5 j))) (g.1 6 j).toInt64) (g.1 8 j).toInt64) (g.1 9 j).toInt64) (g.1 10 j).toInt64) (g.1 11 j).toInt64) (g.1 12 j).toInt64) (if (g.1 7 5 >>> (nI j &&& 31)) &&& 1 = 0 then 0 else 1)) (bitS2 (curS g j (nI 100))) := rfl
          rw [hln, ← nI_1] at q
          show SW X mX7_digest 138 _ [_, _] z
          refine sw_cs hT rfl (r_mixedReal _ z _ _ (ok1 j hjn).2) rfl rfl (Nat.le_of_ble_eq_true rfl) ?_
          repeat (first | (refine sw_at (n := 60) rfl ?_; exact (sw_pick [0, 1, 3] rfl q)) | refine sw_s hT rfl rfl ?_)
        | succ c ihw =>
          intro w hw
          have q := ihw (w + 1) (by omega)
          rw [← nI_1 (w + 1)] at q
          repeat (refine sw_s hT rfl rfl ?_)
          rw [show (7 : Int32) = nI 7 by decide]
          refine sw_b hT rfl rfl (fun c => absurd c ((nI_nle7 (by omega)))) (fun _ => ?_)
          repeat (refine sw_s hT rfl rfl ?_)
          refine sw_cs hT rfl (r_at _ y j (w + 1)) rfl rfl (Nat.le_of_ble_eq_true rfl) ?_
          refine sw_iald hT rfl rfl (inW (by omega)) ?_
          rw [clW (by omega)]
          repeat (refine sw_s hT rfl rfl ?_)
          refine sw_cs hT rfl (r_mixed _ y _ _) rfl rfl (Nat.le_of_ble_eq_true rfl) ?_
          repeat (first | (refine sw_at (n := 100) rfl ?_; exact (sw_pick [0, 1, 2, 3] rfl q)) | refine sw_s hT rfl rfl ?_)
      repeat (refine sw_s hT rfl rfl ?_)
      refine sw_iald hT rfl rfl (inW (by omega : 0 < 170)) ?_
      rw [show (0 : Int32).toNatClampNeg = 0 by decide, e84, hRL.1.2.1]
      refine sw_b hT rfl rfl (fun c => absurd c ((nI_ge (by omega) (by omega)))) (fun _ => ?_)
      repeat (refine sw_s hT rfl rfl ?_)
      refine sw_cs hT rfl (r_atL _ y j 0 0 (by decide)) rfl rfl (Nat.le_of_ble_eq_true rfl) ?_
      refine sw_iald hT rfl rfl (inW (by omega)) ?_
      rw [clW (by omega), show 2 + 9 * j + 0 = 2 + 9 * j from rfl, (yR.1.2.2 j hjn).1, ← hRL.2.2.1 j hjn]
      repeat (refine sw_s hT rfl rfl ?_)
      refine sw_cs hT rfl (r_mixed _ y _ _) rfl rfl (Nat.le_of_ble_eq_true rfl) ?_
      repeat (refine sw_s hT rfl rfl ?_)
      rw [show (4 : Int32) + nI j = nI (4 + j) by rw [show (4 : Int32) = nI 4 by decide, nI_add]]
      refine sw_dald hT rfl rfl (inV (by omega)) ?_
      rw [clW (by omega), e85, d3 j hjn]
      refine sw_cs hT rfl (r_mixedReal _ y _ _ (ok1 j hjn).1) rfl rfl (Nat.le_of_ble_eq_true rfl) ?_
      have q := KW 7 0 (by omega)
      repeat (first | (refine sw_at (n := 100) rfl ?_; exact (q)) | refine sw_s hT rfl rfl ?_)
  repeat (refine sw_s hT rfl rfl ?_)
  rw [th_def, show (th x 0).1 83 5 = g.1 76 0 from (th_k (by decide)).trans hU]
  refine sw_cs hT rfl (r_mixed _ (th x 0) _ _) rfl rfl (Nat.le_of_ble_eq_true rfl) ?_
  repeat (refine sw_s hT rfl rfl ?_)
  refine sw_dald hT rfl rfl (inV (by omega : 0 < 76)) ?_
  rw [show (0 : Int32).toNatClampNeg = 0 by decide, th_2, d0]
  refine sw_cs hT rfl (r_mixedReal _ (th x 0) _ _ ok0.1) rfl rfl (Nat.le_of_ble_eq_true rfl) ?_
  repeat (refine sw_s hT rfl rfl ?_)
  refine sw_dald hT rfl rfl (inV (by omega : 1 < 76)) ?_
  rw [show (1 : Int32).toNatClampNeg = 1 by decide, th_2, d1]
  refine sw_cs hT rfl (r_mixedReal _ (th x 0) _ _ ok0.2.1) rfl rfl (Nat.le_of_ble_eq_true rfl) ?_
  repeat (refine sw_s hT rfl rfl ?_)
  refine sw_dald hT rfl rfl (inV (by omega : 2 < 76)) ?_
  rw [show (2 : Int32).toNatClampNeg = 2 by decide, th_2, d2]
  refine sw_cs hT rfl (r_mixedReal _ (th x 0) _ _ ok0.2.2) rfl rfl (Nat.le_of_ble_eq_true rfl) ?_
  repeat (refine sw_s hT rfl rfl ?_)
  refine sw_iald hT rfl rfl (inW (by omega : 0 < 170)) ?_
  rw [show (0 : Int32).toNatClampNeg = 0 by decide, th_o (by decide), hRL.1.2.1, ← hg2]
  repeat (refine sw_s hT rfl rfl ?_)
  refine sw_cs hT rfl (r_mixed _ (th x 0) _ _) rfl rfl (Nat.le_of_ble_eq_true rfl) ?_
  have q := KL n 0 (by omega) (th x 0) scr_rf
  repeat (first | (refine sw_at (n := 60) rfl ?_; exact (q)) | refine sw_s hT rfl rfl ?_)
