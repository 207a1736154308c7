/-! the reference's violation by number -/
def sc0 (x x' : Hp) : Prop := fr [83, 88] x x' ∧ ∀ k, k ≠ 7 → k ≠ 0 → x'.1 83 k = x.1 83 k
theorem sc0_rf {x : Hp} : sc0 x x := ⟨fr_rf, fun _ _ _ => rfl⟩
theorem sc0_tr {x y z : Hp} (h : sc0 x y) (k : sc0 y z) : sc0 x z := ⟨fr_tr h.1 k.1, fun j hj h0 => (k.2 j hj h0).trans (h.2 j hj h0)⟩
theorem sc0_s {x y : Hp} (h : scr x y) : sc0 x y := ⟨h.1, fun j hj _ => h.2 j hj⟩
theorem sc0_0 {x : Hp} {v : Int32} : sc0 x (u2 x.1 83 0 v, x.2) := ⟨fr_wI (by decide), fun k _ hk => u2_k x.1 83 0 v hk⟩
theorem MO_sc0 {g x y : Hp} {n : Nat} (hs : sc0 x y) (h : MO g x n) : MO g y n := ⟨⟨REL_fr h.1.1 (hs.1.1 84 (by decide)) (hs.1.2.1 85 (by decide)), h.1.2⟩, h.2⟩
theorem REL_sc0 {g x y : Hp} {n : Nat} (hs : sc0 x y) (h : REL g x n) : REL g y n := REL_fr h (hs.1.1 84 (by decide)) (hs.1.2.1 85 (by decide))
/-- the violation of this rank, from k on; 0 if there is none -/
def mvS (x : Hp) (n : Nat) (r : Int32) : Nat → Nat → Int32
  | 0, _ => 0
  | d + 1, k => if cmg (woS x k) (reqS x) < 0 ∧ nI (rwS x k (woS x k) n) = r then nI k else mvS x n r d (k + 1)
theorem vioB_1 {g : Hp} {k : Nat} (h : vioS g k) : vioB g k = 1 := if_pos h
theorem vio_fb {g x : Hp} {n k : Nat} (hM : MO g x n) (h : vioS g k) : ∃ u, fbN g k = u + 1 := by
  cases hu : fbN g k with
  | zero =>
    exfalso
    unfold vioS woS at h
    rw [hu] at h
    exact hM.2.1 h
  | succ u => exact ⟨u, rfl⟩
theorem r_violation (Y : Kx) (g x : Hp) (n : Nat) (r : Int32) (hM : MO g x n) : sR Y mX7_violation [.ref 83, .int r] x (fun rr x' => sc0 x x' ∧ x'.1 83 0 = 1 - bI (0 ≤ r ∧ r ≤ nI (cvS g n) - 1) ∧ rr = some (.int (if 0 ≤ r ∧ r ≤ nI (cvS g n) - 1 then mvS g n r n 0 else 0))) := by
  refine sR_of (by decide +kernel) (Nat.le_of_ble_eq_true rfl) (fun X h hY hR => ?_)
  have hT := kX7_violation h
  have h12 := hM.1.2.1.1
  -- from a relay on
  have K : ∀ z, sc0 x z → z.1 83 0 = 0 → z.1 83 0 = 1 - bI (0 ≤ r ∧ r ≤ nI (cvS g n) - 1) → (0 ≤ r ∧ r ≤ nI (cvS g n) - 1) → ∀ d k, d + k = n → mvS g n r n 0 = mvS g n r d k → ∀ y, scr z y → SW X mX7_violation 25 [(2, .int (nI k)), (0, .ref 83), (1, .int r)] [] y := by
    intro z hz hz0 hz1 hin d
    induction d with
    | zero =>
      intro k hk he y hs
      have hkn : k = n := by omega
      subst hkn
      have yM := MO_scr hs (MO_sc0 hz hM)
      repeat (refine sw_s hT rfl rfl ?_)
      refine sw_iald hT rfl rfl (inW (by omega : 0 < 170)) ?_
      rw [show (0 : Int32).toNatClampNeg = 0 by decide, yM.1.1.1.2.1]
      refine sw_b hT rfl rfl (fun _ => ?_) (fun c => absurd ((Int32.le_refl _)) c)
      repeat (refine sw_s hT rfl rfl ?_)
      refine sw_iretP hT rfl rfl rfl hR ⟨sc0_tr hz (sc0_s hs), ?_, ?_⟩
      · rw [hs.2 0 (by decide)]; exact hz1
      · rw [if_pos hin, he]; rfl
    | succ d ih =>
      intro k hk he y hs
      have hkn : k < n := by omega
      have hl : mvS g n r (d + 1) k = if cmg (woS g k) (reqS g) < 0 ∧ nI (rwS g k (woS g k) n) = r then nI k else mvS g n r d (k + 1) := rfl
      have next : mvS g n r n 0 = mvS g n r d (k + 1) → ∀ (y2 : Hp), scr z y2 → SW X mX7_violation 140 [(2, .int (nI k)), (0, .ref 83), (1, .int r)] [] y2 := by
        intro e y2 hs2
        have q := ih (k + 1) (by omega) e y2 hs2
        rw [← nI_1] at q
        repeat (first | (refine sw_at (n := 25) rfl ?_; exact (q)) | refine sw_s hT rfl rfl ?_)
      have yM := MO_scr hs (MO_sc0 hz hM)
      repeat (refine sw_s hT rfl rfl ?_)
      refine sw_iald hT rfl rfl (inW (by omega : 0 < 170)) ?_
      rw [show (0 : Int32).toNatClampNeg = 0 by decide, yM.1.1.1.2.1]
      refine sw_b hT rfl rfl (fun c => absurd c ((nI_ge (by omega) (by omega)))) (fun _ => ?_)
      repeat (refine sw_s hT rfl rfl ?_)
      rw [show fks y 83 0 0 = .int 0 from congrArg Value.int ((hs.2 0 (by decide)).trans hz0)]
      refine sw_b hT rfl rfl (fun _ => ?_) (fun c => absurd (rfl) c)
      by_cases hv : vioS g k
      · obtain ⟨u, hu⟩ := vio_fb hM hv
        -- the others before it
        have J : ∀ e j, e + j = n → ∀ y2, scr z y2 → SW X mX7_violation 47 [(4, .int (nI j)), (3, .int (nI (rwS g k (woS g k) j))), (2, .int (nI k)), (0, .ref 83), (1, .int r)] [] y2 := by
          intro e
          induction e with
          | zero =>
            intro j hj y2 hs2
            have hjn : j = n := by omega
            subst hjn
            have yM2 := MO_scr hs2 (MO_sc0 hz hM)
            repeat (refine sw_s hT rfl rfl ?_)
            refine sw_iald hT rfl rfl (inW (by omega : 0 < 170)) ?_
            rw [show (0 : Int32).toNatClampNeg = 0 by decide, yM2.1.1.1.2.1]
            refine sw_b hT rfl rfl (fun _ => ?_) (fun c => absurd ((Int32.le_refl _)) c)
            repeat (refine sw_s hT rfl rfl ?_)
            refine sw_cvR hT rfl (r_isViolation _ g y2 j k yM2 hkn) rfl rfl rfl rfl (Nat.le_of_ble_eq_true rfl) ?_
            rw [vioB_1 hv]
            rintro _ y3 ⟨rfl, ys3⟩
            show SW X mX7_violation 130 _ [_] y3
            refine sw_b hT rfl rfl (fun c => absurd c ((by decide))) (fun _ => ?_)
            repeat (refine sw_s hT rfl rfl ?_)
            refine sw_b hT rfl rfl (fun c1 => ?_) (fun c1 => ?_)
            · rw [hl, if_pos ⟨hv, c1⟩] at he
              repeat (refine sw_s hT rfl rfl ?_)
              refine sw_iretP hT rfl rfl rfl hR ⟨sc0_tr hz (sc0_s (scr_tr hs2 ys3)), ?_, ?_⟩
              · rw [ys3.2 0 (by decide), hs2.2 0 (by decide)]; exact hz1
              · rw [if_pos hin, he]
            · rw [hl, if_neg (fun h => c1 h.2)] at he
              exact sw_pick [2, 3, 4] rfl (next he y3 (scr_tr hs2 ys3))
          | succ e ihe =>
            intro j hj y2 hs2
            have hjn : j < n := by omega
            have hr : rwS g k (woS g k) (j + 1) = if cmg (woS g j) (woS g k) < 0 ∨ (cml (woS g j) (woS g k) = 0 ∧ j < k) then rwS g k (woS g k) j + 1 else rwS g k (woS g k) j := rfl
            have yM2 := MO_scr hs2 (MO_sc0 hz hM)
            have yes : (cmg (woS g j) (woS g k) < 0 ∨ (cml (woS g j) (woS g k) = 0 ∧ j < k)) → ∀ y3, scr z y3 → SW X mX7_violation 112 [(4, .int (nI j)), (3, .int (nI (rwS g k (woS g k) j))), (2, .int (nI k)), (0, .ref 83), (1, .int r)] [.int (nI (rwS g k (woS g k) j))] y3 := by
              intro c y3 hs3
              have q := ihe (j + 1) (by omega) y3 hs3
              rw [hr, if_pos c, ← nI_1, ← nI_1] at q
              repeat (first | (refine sw_at (n := 47) rfl ?_; exact (sw_pick [0, 1, 2, 3, 4] rfl q)) | refine sw_s hT rfl rfl ?_)
            have no : ¬ (cmg (woS g j) (woS g k) < 0 ∨ (cml (woS g j) (woS g k) = 0 ∧ j < k)) → ∀ y3, scr z y3 → SW X mX7_violation 116 [(4, .int (nI j)), (3, .int (nI (rwS g k (woS g k) j))), (2, .int (nI k)), (0, .ref 83), (1, .int r)] [.int (nI (rwS g k (woS g k) j))] y3 := by
              intro c y3 hs3
              have q := ihe (j + 1) (by omega) y3 hs3
              rw [hr, if_neg c, ← nI_1] at q
              refine sw_s hT rfl rfl ?_
              refine sw_s hT rfl rfl ?_
              rw [show nI (rwS g k (woS g k) j) + 0 = nI (rwS g k (woS g k) j) from Int32.add_zero _]
              repeat (first | (refine sw_at (n := 47) rfl ?_; exact (sw_pick [0, 1, 2, 3, 4] rfl q)) | refine sw_s hT rfl rfl ?_)
            repeat (refine sw_s hT rfl rfl ?_)
            refine sw_iald hT rfl rfl (inW (by omega : 0 < 170)) ?_
            rw [show (0 : Int32).toNatClampNeg = 0 by decide, yM2.1.1.1.2.1]
            refine sw_b hT rfl rfl (fun c => absurd c ((nI_ge (by omega) (by omega)))) (fun _ => ?_)
            repeat (refine sw_s hT rfl rfl ?_)
            refine sw_cvR hT rfl (r_isViolation _ g y2 n k yM2 hkn) rfl rfl rfl rfl (Nat.le_of_ble_eq_true rfl) ?_
            rw [vioB_1 hv]
            rintro _ y3 ⟨rfl, ys3⟩
            have yM3 := MO_scr ys3 yM2
            show SW X mX7_violation 63 _ [_] y3
            refine sw_b hT rfl rfl (fun c => absurd c ((by decide))) (fun _ => ?_)
            repeat (refine sw_s hT rfl rfl ?_)
            refine sw_cvR hT rfl (r_isViolation _ g y3 n j yM3 hjn) rfl rfl rfl rfl (Nat.le_of_ble_eq_true rfl) ?_
            rintro _ y4 ⟨rfl, ys4⟩
            have yM4 := MO_scr ys4 yM3
            have hs4 := scr_tr (scr_tr hs2 ys3) ys4
            show SW X mX7_violation 73 _ [_, _] y4
            refine sw_b hT rfl rfl (fun c1 => ?_) (fun c1 => ?_)
            · exact no (fun c => vioB_0.mp c1 (hM.2.2.2 j k hjn hkn hv (c.imp id And.left))) y4 hs4
            · have hvj : vioS g j := Decidable.byContradiction (p := cmg (woS g j) (reqS g) < 0) (fun q => c1 (vioB_0.mpr q))
              obtain ⟨uj, huj⟩ := vio_fb hM hvj
              repeat (refine sw_s hT rfl rfl ?_)
              refine sw_cvR hT rfl (r_worst _ g y4 n j uj yM4 hjn huj) rfl rfl rfl rfl (Nat.le_of_ble_eq_true rfl) ?_
              rintro _ y5 ⟨rfl, ys5⟩
              have yM5 := MO_scr ys5 yM4
              show SW X mX7_violation 82 _ [_, _] y5
              repeat (refine sw_s hT rfl rfl ?_)
              refine sw_cvR hT rfl (r_worst _ g y5 n k u yM5 hkn hu) rfl rfl rfl rfl (Nat.le_of_ble_eq_true rfl) ?_
              rintro _ y6 ⟨rfl, ys6⟩
              have yM6 := MO_scr ys6 yM5
              have hs6 := scr_tr (scr_tr hs4 ys5) ys6
              show SW X mX7_violation 87 _ [_, _, _] y6
              repeat (refine sw_s hT rfl rfl ?_)
              refine sw_b hT rfl rfl (fun c2 => ?_) (fun c2 => ?_)
              · exact yes (Or.inl c2) y6 hs6
              · repeat (refine sw_s hT rfl rfl ?_)
                refine sw_cvR hT rfl (r_worst _ g y6 n j uj yM6 hjn huj) rfl rfl rfl rfl (Nat.le_of_ble_eq_true rfl) ?_
                rintro _ y7 ⟨rfl, ys7⟩
                have yM7 := MO_scr ys7 yM6
                show SW X mX7_violation 97 _ [_, _] y7
                repeat (refine sw_s hT rfl rfl ?_)
                refine sw_cvR hT rfl (r_worst _ g y7 n k u yM7 hkn hu) rfl rfl rfl rfl (Nat.le_of_ble_eq_true rfl) ?_
                rintro _ y8 ⟨rfl, ys8⟩
                have hs8 := scr_tr (scr_tr hs6 ys7) ys8
                show SW X mX7_violation 102 _ [_, _, _] y8
                repeat (refine sw_s hT rfl rfl ?_)
                refine sw_b hT rfl rfl (fun c3 => ?_) (fun c3 => ?_)
                · have c3' : cml (woS g j) (woS g k) = 0 := c3
                  repeat (refine sw_s hT rfl rfl ?_)
                  refine sw_b hT rfl rfl (fun c4 => ?_) (fun c4 => ?_)
                  · exact no (fun c => c.elim c2 (fun q => nI_ge (a := j) (b := k) q.2 (by omega) c4)) y8 hs8
                  · have hjk : j < k := by
                      rcases Nat.lt_or_ge j k with q | q
                      · exact q
                      · exact absurd (nI_le q (by omega)) c4
                    exact yes (Or.inr ⟨c3', hjk⟩) y8 hs8
                · exact no (fun c => c.elim c2 (fun q => c3 q.1)) y8 hs8
        have q := J n 0 (by omega) y hs
        repeat (first | (refine sw_at (n := 47) rfl ?_; exact (q)) | refine sw_s hT rfl rfl ?_)
      · rw [hl, if_neg (fun h => hv h.1)] at he
        repeat (refine sw_s hT rfl rfl ?_)
        refine sw_iald hT rfl rfl (inW (by omega : 0 < 170)) ?_
        rw [show (0 : Int32).toNatClampNeg = 0 by decide, yM.1.1.1.2.1]
        refine sw_b hT rfl rfl (fun c => absurd c ((nI_ge (a := 0) (b := n) (by omega) (by omega)))) (fun _ => ?_)
        repeat (refine sw_s hT rfl rfl ?_)
        refine sw_cvR hT rfl (r_isViolation _ g y n k yM hkn) rfl rfl rfl rfl (Nat.le_of_ble_eq_true rfl) ?_
        rw [vioB_0.mpr hv]
        rintro _ y3 ⟨rfl, ys3⟩
        have yM3 := MO_scr ys3 yM
        show SW X mX7_violation 63 _ [_] y3
        refine sw_b hT rfl rfl (fun _ => ?_) (fun c => absurd (rfl) c)
        repeat (refine sw_s hT rfl rfl ?_)
        refine sw_cvR hT rfl (r_isViolation _ g y3 n k yM3 hkn) rfl rfl rfl rfl (Nat.le_of_ble_eq_true rfl) ?_
        rw [vioB_0.mpr hv]
        rintro _ y4 ⟨rfl, ys4⟩
        show SW X mX7_violation 130 _ [_] y4
        refine sw_b hT rfl rfl (fun _ => ?_) (fun c => absurd (rfl) c)
        exact sw_pick [2, 3, 4] rfl (next he y4 (scr_tr (scr_tr hs ys3) ys4))
  repeat (refine sw_s hT rfl rfl ?_)
  refine sw_cvR hT rfl (r_violations _ g x n hM) rfl rfl rfl rfl (Nat.le_of_ble_eq_true rfl) ?_
  rintro _ y ⟨rfl, ys⟩
  show SW X mX7_violation 7 _ [_, _, _, _] y
  repeat (refine sw_s hT rfl rfl ?_)
  refine sw_cs hT rfl (r_in _ y r 0 (nI (cvS g n) - 1)) rfl rfl (Nat.le_of_ble_eq_true rfl) ?_
  by_cases hin : 0 ≤ r ∧ r ≤ nI (cvS g n) - 1
  · rw [bI_t hin] at hR K ⊢
    refine sw_b hT rfl rfl (fun c => absurd c ((by decide))) (fun _ => ?_)
    have q := K (u2 y.1 83 0 0, y.2) (sc0_tr (sc0_s ys) sc0_0) (u2_at y.1 83 0 0) ((u2_at y.1 83 0 0).trans (by decide)) hin n 0 (by omega) rfl (u2 y.1 83 0 0, y.2) scr_rf
    repeat (first | (refine sw_at (n := 25) rfl ?_; exact (q)) | refine sw_s hT rfl rfl ?_)
  · rw [bI_f hin] at hR K ⊢
    refine sw_b hT rfl rfl (fun _ => ?_) (fun c => absurd (rfl) c)
    repeat (refine sw_s hT rfl rfl ?_)
    have zM := MO_sc0 (sc0_tr (sc0_s ys) (sc0_0 (v := 1))) hM
    obtain ⟨z, hz⟩ : ∃ z : Hp, z = (u2 y.1 83 0 1, y.2) := ⟨_, rfl⟩
    have zs : sc0 x z := by rw [hz]; exact sc0_tr (sc0_s ys) sc0_0
    have z0 : z.1 83 0 = 1 := by rw [hz]; exact u2_at y.1 83 0 1
    rw [← hz] at zM ⊢
    refine sw_iald hT rfl rfl (inW (by omega : 0 < 170)) ?_
    rw [show (0 : Int32).toNatClampNeg = 0 by decide, zM.1.1.1.2.1]
    cases n with
    | zero =>
      refine sw_b hT rfl rfl (fun _ => ?_) (fun c => absurd ((Int32.le_refl _)) c)
      repeat (refine sw_s hT rfl rfl ?_)
      refine sw_iretP hT rfl rfl rfl hR ⟨zs, by rw [z0]; decide, ?_⟩
      rw [if_neg hin]
    | succ n =>
      refine sw_b hT rfl rfl (fun c => absurd c ?_) (fun _ => ?_)
      · exact nI_ge (a := 0) (b := n + 1) (by omega) (by omega)
      repeat (refine sw_s hT rfl rfl ?_)
      rw [show fks z 83 0 0 = .int 1 from congrArg Value.int z0]
      refine sw_b hT rfl rfl (fun c => absurd c ((by decide))) (fun _ => ?_)
      repeat (refine sw_s hT rfl rfl ?_)
      refine sw_iretP hT rfl rfl rfl hR ⟨zs, by rw [z0]; decide, ?_⟩
      rw [if_neg hin]
