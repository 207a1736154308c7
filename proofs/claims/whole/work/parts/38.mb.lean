/-! the reference: grading, pickups -/
theorem r_keeps (Y : Kx) (g x : Hp) (n r : Nat) (hM : MO g x n) (hr : r < n) : sR Y mX7_keeps [.ref 83, .int (nI r)] x (fun rr z => rr = some (.int (oB (kpB g r n))) ∧ scr x z) := by
  refine sR_of (by decide +kernel) (Nat.le_of_ble_eq_true rfl) (fun X h hY hR => ?_)
  have hT := kX7_keeps h
  have h12 := hM.1.2.1.1
  have K : ∀ d j, d + j = n → ∀ y, scr x y → SW X mX7_keeps 4 [(3, .int (nI j)), (2, .int (oB (kpB g r j))), (0, .ref 83), (1, .int (nI r))] [] y := by
    intro d
    induction d with
    | zero =>
      intro j hj y hs
      have hjn : j = n := by omega
      subst hjn
      have yM := MO_scr hs hM
      repeat (refine sw_s hT rfl rfl ?_)
      refine sw_iald hT rfl rfl (inW (by omega : 0 < 170)) ?_
      rw [show (0 : Int32).toNatClampNeg = 0 by decide, yM.1.1.1.2.1]
      refine sw_b hT rfl rfl (fun _ => ?_) (fun c => absurd ((Int32.le_refl _)) c)
      repeat (refine sw_s hT rfl rfl ?_)
      refine sw_iretP hT rfl rfl oB_n hR ⟨rfl, hs⟩
    | succ d ih =>
      intro j hj y hs
      have hjn : j < n := by omega
      have yM := MO_scr hs hM
      obtain ⟨f1, f2⟩ := hM.1.2.1.2.2.1 j hjn
      have hk : kpB g r (j + 1) = (kpB g r j && !(decide (r < j) && decide (fbN g j = r + 1) && decide (cmg (woS g j) (reqS g) < 0))) := rfl
      have yes : kpB g r (j + 1) = true → ∀ z, scr x z → SW X mX7_keeps 60 [(3, .int (nI j)), (2, .int (oB (kpB g r j))), (0, .ref 83), (1, .int (nI r))] [] z := by
        intro e z hz
        have q := ih (j + 1) (by omega) z hz
        rw [e, ← nI_1] at q
        repeat (first | (refine sw_at (n := 4) rfl ?_; exact (sw_pick [0, 1, 2, 3] rfl q)) | refine sw_s hT rfl rfl ?_)
      have no : kpB g r (j + 1) = false → ∀ z, scr x z → SW X mX7_keeps 64 [(3, .int (nI j)), (2, .int (oB (kpB g r j))), (0, .ref 83), (1, .int (nI r))] [] z := by
        intro e z hz
        have q := ih (j + 1) (by omega) z hz
        rw [e, ← nI_1] at q
        repeat (first | (refine sw_at (n := 4) rfl ?_; exact (sw_pick [0, 1, 2, 3] rfl q)) | refine sw_s hT rfl rfl ?_)
      repeat (refine sw_s hT rfl rfl ?_)
      refine sw_iald hT rfl rfl (inW (by omega : 0 < 170)) ?_
      rw [show (0 : Int32).toNatClampNeg = 0 by decide, yM.1.1.1.2.1]
      refine sw_b hT rfl rfl (fun c => absurd c ((nI_ge (by omega) (by omega)))) (fun _ => ?_)
      repeat (refine sw_s hT rfl rfl ?_)
      cases hb : kpB g r j with
      | false =>
        rw [hb] at yes no
        refine sw_b hT rfl rfl (fun _ => ?_) (fun c => absurd (rfl) c)
        exact no (by rw [hk, hb, Bool.false_and]) y hs
      | true =>
        rw [hb] at yes no
        rw [hb, Bool.true_and] at hk
        refine sw_b hT rfl rfl (fun c => absurd c ((by decide))) (fun _ => ?_)
        repeat (refine sw_s hT rfl rfl ?_)
        refine sw_cv hT rfl (r_above _ g y n j yM.1.1.1 hjn) rfl rfl rfl rfl (Nat.le_of_ble_eq_true rfl) ?_
        repeat (refine sw_s hT rfl rfl ?_)
        cases hu : fbN g j with
        | zero =>
          refine sw_b hT rfl rfl (fun c => ?_) (fun _ => ?_)
          · exact absurd c (by
              intro c
              have := nI_pos' (n := r) (by omega)
              rw [← c] at this
              exact absurd this (by decide))
          · exact yes (by rw [hk, hu, show decide (0 = r + 1) = false from decide_eq_false (by omega)]; simp) y hs
        | succ u =>
          rw [nI_pred]
          by_cases hur : u = r
          · subst hur
            have hdec : kpB g u (j + 1) = !decide (cmg (woS g j) (reqS g) < 0) := by
              rw [hk, hu, decide_eq_true (show u < j by omega), decide_eq_true (rfl : u + 1 = u + 1), Bool.true_and, Bool.true_and]
            have hor := (hM.2.2.1 j u hjn hu).2
            refine sw_b hT rfl rfl (fun _ => ?_) (fun c => absurd (rfl) c)
            repeat (refine sw_s hT rfl rfl ?_)
            rw [show (0 : Int32) = nI 0 by decide]
            refine sw_cvR hT rfl (r_marginOf _ g y n j u 0 yM.1 hjn hu (by omega)) rfl rfl rfl rfl (Nat.le_of_ble_eq_true rfl) ?_
            rintro _ z ⟨rfl, zs⟩
            have zM := MO_scr zs yM
            have e85 : z.2.1 85 2 = reqS g := zM.1.1.2.2.2.2.1.2.2.1
            show SW X mX7_keeps 33 _ [_] z
            repeat (refine sw_s hT rfl rfl ?_)
            refine sw_dald hT rfl rfl (inV (by omega : 2 < 76)) ?_
            rw [show (2 : Int32).toNatClampNeg = 2 by decide, e85]
            repeat (refine sw_s hT rfl rfl ?_)
            refine sw_b hT rfl rfl (fun c1 => ?_) (fun c1 => ?_)
            · exact no (by
                rw [hdec, decide_eq_true]
                · rfl
                · exact Decidable.byContradiction (fun q => (hor.mp q).1 c1)) z (scr_tr hs zs)
            · repeat (refine sw_s hT rfl rfl ?_)
              rw [show (100 : Int32) = nI 100 by decide]
              refine sw_cvR hT rfl (r_marginOf _ g z n j u 100 zM.1 hjn hu (by omega)) rfl rfl rfl rfl (Nat.le_of_ble_eq_true rfl) ?_
              rintro _ w ⟨rfl, ws⟩
              have wM := MO_scr ws zM
              have e85 : w.2.1 85 2 = reqS g := wM.1.1.2.2.2.2.1.2.2.1
              show SW X mX7_keeps 50 _ [_] w
              repeat (refine sw_s hT rfl rfl ?_)
              refine sw_dald hT rfl rfl (inV (by omega : 2 < 76)) ?_
              rw [show (2 : Int32).toNatClampNeg = 2 by decide, e85]
              repeat (refine sw_s hT rfl rfl ?_)
              refine sw_b hT rfl rfl (fun c2 => ?_) (fun c2 => ?_)
              · exact no (by
                  rw [hdec, decide_eq_true]
                  · rfl
                  · exact Decidable.byContradiction (fun q => (hor.mp q).2 c2)) w (scr_tr (scr_tr hs zs) ws)
              · exact yes (by
                  rw [hdec, decide_eq_false]
                  · rfl
                  · exact hor.mpr ⟨c1, c2⟩) w (scr_tr (scr_tr hs zs) ws)
          · refine sw_b hT rfl rfl (fun c => ?_) (fun _ => ?_)
            · exact absurd ((nI_eq (by omega) (by omega)).mp c) hur
            · exact yes (by rw [hk, hu, show decide (u + 1 = r + 1) = false from decide_eq_false (by omega)]; simp) y hs
  have q := K n 0 (by omega) x scr_rf
  repeat (first | (refine sw_at (n := 4) rfl ?_; exact (q)) | refine sw_s hT rfl rfl ?_)
/-- what the grading of the reference rests on, but for the cells that it changes -/
def MOG (g : Hp) (n : Nat) : Prop := INV g n ∧ RG1 g n ∧ GOK g n ∧ ORD g n
theorem fbN_stP {g : Hp} {k s : Nat} : fbN (stP g k s) = fbN g := by
  funext j
  unfold fbN stP
  show (u2 g.1 10 k (nI s) 3 j).toNatClampNeg = _
  rw [u2_ne (by decide)]
theorem REL_st {g z : Hp} {n k s : Nat} (h : REL g z n) : REL (stP g k s) (u2 z.1 84 (2 + 9 * k + 4) (nI s), z.2) n := by
  obtain ⟨h1, h2, h3, h4, h5, h6⟩ := h
  have hg : ∀ i, i ≠ 10 → (stP g k s).1 i = g.1 i := fun i hi => u2_ne hi
  have hz : ∀ j, j ≠ 2 + 9 * k + 4 → u2 z.1 84 (2 + 9 * k + 4) (nI s) 84 j = z.1 84 j := fun j hj => u2_k _ _ _ _ hj
  refine ⟨⟨h1.1, ?_, fun j hj => ?_⟩, ?_, ?_, ?_, h5, fun j hj => ?_⟩
  · show u2 z.1 84 (2 + 9 * k + 4) (nI s) 84 0 = _
    rw [hz 0 (by omega)]; exact h1.2.1
  · show u2 z.1 84 (2 + 9 * k + 4) (nI s) 84 (2 + 9 * j) = _ ∧ _
    rw [hz _ (by omega), fbN_stP]; exact h1.2.2 j hj
  · rw [hg 2 (by decide)]; exact h2
  · rw [hg 3 (by decide), fbN_stP]; exact h3
  · rw [hg 4 (by decide), fbN_stP]; exact h4
  · obtain ⟨s1, s2, s3, s4, s5, s6, s7⟩ := h6 j hj
    rw [hg 6 (by decide), hg 8 (by decide), hg 9 (by decide), hg 11 (by decide), hg 12 (by decide), hg 7 (by decide)]
    show u2 z.1 84 (2 + 9 * k + 4) (nI s) 84 (2 + 9 * j + 1) = _ ∧ u2 z.1 84 (2 + 9 * k + 4) (nI s) 84 (2 + 9 * j + 2) = _ ∧ u2 z.1 84 (2 + 9 * k + 4) (nI s) 84 (2 + 9 * j + 3) = _ ∧ u2 z.1 84 (2 + 9 * k + 4) (nI s) 84 (2 + 9 * j + 4) = _ ∧ u2 z.1 84 (2 + 9 * k + 4) (nI s) 84 (2 + 9 * j + 5) = _ ∧ u2 z.1 84 (2 + 9 * k + 4) (nI s) 84 (2 + 9 * j + 6) = _ ∧ u2 z.1 84 (2 + 9 * k + 4) (nI s) 84 (2 + 9 * j + 7) = _
    rw [hz (2 + 9 * j + 1) (by omega), hz (2 + 9 * j + 2) (by omega), hz (2 + 9 * j + 3) (by omega), hz (2 + 9 * j + 5) (by omega), hz (2 + 9 * j + 6) (by omega), hz (2 + 9 * j + 7) (by omega)]
    refine ⟨s1, s2, s3, ?_, s5, s6, s7⟩
    show _ = u2 g.1 10 k (nI s) 10 j
    by_cases hjk : j = k
    · subst hjk; rw [u2_at, u2_at]
    · rw [hz (2 + 9 * j + 4) (by omega), u2_k _ _ _ _ hjk]; exact s4
/-- what the grading changes of the reference's cells -/
def agZ (n : Nat) (w z : Hp) : Prop := fr [83, 84, 88] w z ∧ (∀ k, k ≠ 7 → z.1 83 k = w.1 83 k) ∧ ∀ k, (∀ e, e < n → k ≠ 2 + 9 * e + 4) → z.1 84 k = w.1 84 k
theorem agZ_rf {n : Nat} {w : Hp} : agZ n w w := ⟨fr_rf, fun _ _ => rfl, fun _ _ => rfl⟩
theorem agZ_scr {n : Nat} {w y z : Hp} (h : agZ n w y) (k : scr y z) : agZ n w z := ⟨fr_tr h.1 (fr_le k.1 (by decide)), fun j hj => (k.2 j hj).trans (h.2.1 j hj), fun j hj => by rw [k.1.1 84 (by decide)]; exact h.2.2 j hj⟩
theorem agZ_st {n : Nat} {w y : Hp} {k : Nat} {v : Int32} (h : agZ n w y) (hk : k < n) : agZ n w (u2 y.1 84 (2 + 9 * k + 4) v, y.2) := ⟨fr_tr h.1 (fr_wI (by decide)), fun j hj => (congrFun (u2_ne (f := y.1) (i := 84) (j := 83) (k := 2 + 9 * k + 4) (v := v) (by decide)) j).trans (h.2.1 j hj), fun j hj => (u2_k y.1 84 (2 + 9 * k + 4) v (hj k hk)).trans (h.2.2 j hj)⟩
theorem r_autoGrade (Y : Kx) (g x : Hp) (c n : Nat) (hc : c ≤ 4) (h5 : x.1 83 5 = nI c) (hR0 : REL g x n) (hI : ∀ j r t, j ≤ n → r < n → 1 ≤ t → t ≤ 20 → MOG (stP (grG g n j).1 r t) n) : sR Y mX7_autoGrade [.ref 83] x (fun rr z => ∃ w, sv0 x c w ∧ agZ n w z ∧ REL (grG g n n).1 z n ∧ rr = some (.int (nI (grG g n n).2))) := by
  refine sR_of (by decide +kernel) (Nat.le_of_ble_eq_true rfl) (fun X h hY hR => ?_)
  have hT := kX7_autoGrade h
  have h12 := hR0.1.1
  repeat (refine sw_s hT rfl rfl ?_)
  rw [th_def]
  refine sw_cvR hT rfl (r_save _ (th x 0) c hc (th_5 h5)) rfl rfl rfl rfl (Nat.le_of_ble_eq_true rfl) ?_
  rintro _ w ⟨rfl, hw⟩
  have hRw : REL g w n := REL_fr hR0 (sv0_84 hw) (sv0_85 hw)
  show SW X mX7_autoGrade 9 _ [] w
  have K : ∀ d j, d + j = n → ∀ y, agZ n w y → REL (grG g n j).1 y n → SW X mX7_autoGrade 20 [(2, .int (nI d - 1)), (1, .int (nI (grG g n j).2)), (0, .ref 83)] [] y := by
    intro d
    induction d with
    | zero =>
      intro j hj y hy hRy
      have hjn : j = n := by omega
      subst hjn
      repeat (refine sw_s hT rfl rfl ?_)
      refine sw_b hT rfl rfl (fun _ => ?_) (fun c => absurd ((by decide)) c)
      repeat (refine sw_s hT rfl rfl ?_)
      refine sw_iretP hT rfl rfl rfl hR ?_
      exact ⟨w, hw, hy, hRy, rfl⟩
    | succ d ih =>
      intro j hj y hy hRy
      have hd : n - 1 - j = d := by omega
      have hdn : d < n := by omega
      rw [nI_pred]
      have gle := grG_le g n j
      -- behind the search
      have F : ∀ (s : Nat) (z : Hp), agZ n w z → REL (stP (grG g n j).1 d s) z n → s ≤ 21 → ((s = 21 ∧ gsB (grG g n j).1 d n 20 1 = none) ∨ (s ≤ 20 ∧ gsB (grG g n j).1 d n 20 1 = some s)) → SW X mX7_autoGrade 68 [(3, .int (nI s)), (2, .int (nI d)), (1, .int (nI (grG g n j).2)), (0, .ref 83)] [] z := by
        intro s z hz hRz hs hc
        rcases hc with ⟨rfl, hg⟩ | ⟨hs20, hg⟩
        · have hgr : grG g n (j + 1) = (stP (grG g n j).1 d 20, (grG g n j).2 + 1) := by
            rw [grG, hd, hg]
          have q := ih (j + 1) (by omega) (u2 z.1 84 (2 + 9 * d + 4) (nI 20), z.2) (agZ_st hz hdn) (by
            rw [hgr]
            have := REL_st (k := d) (s := 20) hRz
            rw [stP_stP] at this
            exact this)
          rw [hgr, ← nI_1, show nI d - 1 = nI d + -1 from Int32.sub_eq_add_neg _ _] at q
          repeat (refine sw_s hT rfl rfl ?_)
          refine sw_b hT rfl rfl (fun _ => ?_) (fun c => absurd ((by decide)) c)
          repeat (refine sw_s hT rfl rfl ?_)
          refine sw_cs hT rfl (r_atL _ z d 4 4 (by decide)) rfl rfl (Nat.le_of_ble_eq_true rfl) ?_
          repeat (refine sw_s hT rfl rfl ?_)
          refine sw_b hT rfl rfl (fun _ => ?_) (fun c => absurd ((by decide)) c)
          repeat (refine sw_s hT rfl rfl ?_)
          refine sw_iast hT rfl rfl (inW (by omega)) ?_
          rw [clW (by omega)]
          rw [show (20 : Int32) = nI 20 by decide]
          repeat (first | (refine sw_at (n := 20) rfl ?_; exact (sw_pick [0, 1, 3] rfl q)) | refine sw_s hT rfl rfl ?_)
        · have hgr : grG g n (j + 1) = (stP (grG g n j).1 d s, (grG g n j).2) := by
            rw [grG, hd, hg]
          have q := ih (j + 1) (by omega) (u2 z.1 84 (2 + 9 * d + 4) (nI s), z.2) (agZ_st hz hdn) (by
            rw [hgr]
            have := REL_st (k := d) (s := s) hRz
            rw [stP_stP] at this
            exact this)
          rw [hgr, show nI d - 1 = nI d + -1 from Int32.sub_eq_add_neg _ _] at q
          have hne : ¬ nI s = 21 := fun c => absurd ((nI_eq (a := s) (b := 21) (by omega) (by omega)).mp c) (by omega)
          repeat (refine sw_s hT rfl rfl ?_)
          refine sw_b hT rfl rfl (fun c => absurd c ((hne))) (fun _ => ?_)
          refine sw_s hT rfl rfl ?_
          refine sw_s hT rfl rfl ?_
          rw [show nI (grG g n j).2 + 0 = nI (grG g n j).2 from Int32.add_zero _]
          repeat (refine sw_s hT rfl rfl ?_)
          refine sw_cs hT rfl (r_atL _ z d 4 4 (by decide)) rfl rfl (Nat.le_of_ble_eq_true rfl) ?_
          repeat (refine sw_s hT rfl rfl ?_)
          refine sw_b hT rfl rfl (fun c => absurd c ((hne))) (fun _ => ?_)
          repeat (refine sw_s hT rfl rfl ?_)
          refine sw_iast hT rfl rfl (inW (by omega)) ?_
          rw [clW (by omega)]
          repeat (first | (refine sw_at (n := 20) rfl ?_; exact (sw_pick [0, 1, 3] rfl q)) | refine sw_s hT rfl rfl ?_)
      have S : ∀ e s, s + e = 21 → 1 ≤ s → ∀ z, agZ n w z → REL (stP (grG g n j).1 d s) z n → gsB (grG g n j).1 d n 20 1 = gsB (grG g n j).1 d n e s → SW X mX7_autoGrade 37 [(3, .int (nI s)), (2, .int (nI d)), (1, .int (nI (grG g n j).2)), (0, .ref 83)] [] z := by
        intro e
        induction e with
        | zero =>
          intro s hs h1 z hz hRz he
          have hs : s = 21 := by omega
          subst hs
          repeat (refine sw_s hT rfl rfl ?_)
          refine sw_b hT rfl rfl (fun _ => ?_) (fun c => absurd ((by decide)) c)
          exact F 21 z hz hRz (by omega) (Or.inl ⟨rfl, he⟩)
        | succ e ihe =>
          intro s hs h1 z hz hRz he
          obtain ⟨m1, m2, m3, m4⟩ := hI j d s (by omega) hdn h1 (by omega)
          have hg : gsB (grG g n j).1 d n (e + 1) s = if kpB (stP (grG g n j).1 d s) d n = true then some s else gsB (grG g n j).1 d n e (s + 1) := rfl
          repeat (refine sw_s hT rfl rfl ?_)
          rw [show (21 : Int32) = nI 21 by decide]
          refine sw_b hT rfl rfl (fun c => absurd c ((nI_ge (by omega) (by omega)))) (fun _ => ?_)
          repeat (refine sw_s hT rfl rfl ?_)
          refine sw_cvR hT rfl (r_keeps _ (stP (grG g n j).1 d s) z n d ⟨⟨hRz, m1, m2, m3⟩, m4⟩ hdn) rfl rfl rfl rfl (Nat.le_of_ble_eq_true rfl) ?_
          rintro _ z2 ⟨rfl, zs⟩
          have hz2 := agZ_scr hz zs
          have hRz2 := REL_scr hRz zs
          show SW X mX7_autoGrade 48 _ [_] z2
          cases hb : kpB (stP (grG g n j).1 d s) d n with
          | true =>
            rw [hg, if_pos hb] at he
            refine sw_b hT rfl rfl (fun c => absurd c ((by decide))) (fun _ => ?_)
            exact F s z2 hz2 hRz2 (by omega) (Or.inr ⟨by omega, he⟩)
          | false =>
            rw [hg, if_neg (by rw [hb]; decide)] at he
            refine sw_b hT rfl rfl (fun _ => ?_) (fun c => absurd (rfl) c)
            repeat (refine sw_s hT rfl rfl ?_)
            rw [nI_1]
            refine sw_cs hT rfl (r_atL _ z2 d 4 4 (by decide)) rfl rfl (Nat.le_of_ble_eq_true rfl) ?_
            repeat (refine sw_s hT rfl rfl ?_)
            refine sw_iast hT rfl rfl (inW (by omega)) ?_
            rw [clW (by omega)]
            have q := ihe (s + 1) (by omega) (by omega) (u2 z2.1 84 (2 + 9 * d + 4) (nI (s + 1)), z2.2) (agZ_st hz2 hdn) (by
              have := REL_st (k := d) (s := s + 1) hRz2
              rw [stP_stP] at this
              exact this) he
            repeat (first | (refine sw_at (n := 37) rfl ?_; exact (sw_pick [0, 1, 2, 3] rfl q)) | refine sw_s hT rfl rfl ?_)
      repeat (refine sw_s hT rfl rfl ?_)
      refine sw_b hT rfl rfl (fun c => absurd c ((nI_pos (by omega)))) (fun _ => ?_)
      repeat (refine sw_s hT rfl rfl ?_)
      refine sw_cs hT rfl (r_atL _ y d 4 4 (by decide)) rfl rfl (Nat.le_of_ble_eq_true rfl) ?_
      repeat (refine sw_s hT rfl rfl ?_)
      refine sw_iast hT rfl rfl (inW (by omega)) ?_
      rw [clW (by omega)]
      have q := S 20 1 (by omega) (by omega) (u2 y.1 84 (2 + 9 * d + 4) (nI 1), y.2) (agZ_st hy hdn) (REL_st hRy) rfl
      repeat (first | (refine sw_at (n := 37) rfl ?_; exact (sw_pick [0, 1, 2, 3] rfl q)) | refine sw_s hT rfl rfl ?_)
  repeat (refine sw_s hT rfl rfl ?_)
  refine sw_iald hT rfl rfl (inW (by omega : 0 < 170)) ?_
  rw [show (0 : Int32).toNatClampNeg = 0 by decide, hRw.1.2.1]
  have q := K n 0 (by omega) w agZ_rf hRw
  repeat (first | (refine sw_at (n := 20) rfl ?_; exact (q)) | refine sw_s hT rfl rfl ?_)
/-- the pickup that fits a load, as the reference reckons it -/
def pvS (l p : Int32) : Int32 := if (l * p + 99) / 100 < 1 then 1 else if (20000 : Int32) < (l * p + 99) / 100 then 20000 else (l * p + 99) / 100
theorem pvS_eq (l p : Int32) : pvS l p = pfS l p := by
  unfold pvS pfS
  generalize (l * p + 99) / 100 = v
  have e1 : (1 : Int32).toInt = 1 := by decide
  have e2 : (20000 : Int32).toInt = 20000 := by decide
  by_cases h1 : v < 1
  · have q := Int32.lt_iff_toInt_lt.mp h1
    have h2 : v < 20000 := Int32.lt_iff_toInt_lt.mpr (by omega)
    rw [if_pos h1, if_pos h2, if_neg (fun c => by have := Int32.lt_iff_toInt_lt.mp c; omega)]
  · have q : ¬ v.toInt < 1 := fun c => h1 (Int32.lt_iff_toInt_lt.mpr (by omega))
    rw [if_neg h1]
    by_cases h2 : (20000 : Int32) < v
    · have q2 := Int32.lt_iff_toInt_lt.mp h2
      rw [if_pos h2, if_neg (fun c => by have := Int32.lt_iff_toInt_lt.mp c; omega : ¬ v < 20000), if_pos (by decide)]
    · have q2 : ¬ (20000 : Int) < v.toInt := fun c => h2 (Int32.lt_iff_toInt_lt.mpr (by omega))
      rw [if_neg h2]
      by_cases h3 : v < 20000
      · rw [if_pos h3]
        by_cases h4 : (1 : Int32) < v
        · rw [if_pos h4]
        · rw [if_neg h4]
          have q4 : ¬ (1 : Int) < v.toInt := fun c => h4 (Int32.lt_iff_toInt_lt.mpr (by omega))
          exact Int32.toInt_inj.mp (by omega)
      · rw [if_neg h3, if_pos (by decide)]
        have q3 : ¬ v.toInt < 20000 := fun c => h3 (Int32.lt_iff_toInt_lt.mpr (by omega))
        exact Int32.toInt_inj.mp (by omega)
/-- the pickups of the first j relays set -/
def pwS (w : Hp) (L : Nat → Int32) (p : Int32) : Nat → Nat → Nat → Int32
  | 0 => w.1
  | j + 1 => u2 (pwS w L p j) 84 (2 + 9 * j + 2) (pfS (L j) p)
def pcS (w : Hp) (L : Nat → Int32) (p : Int32) : Nat → Nat
  | 0 => 0
  | j + 1 => if w.1 84 (2 + 9 * j + 2) = pfS (L j) p then pcS w L p j else pcS w L p j + 1
theorem pwS_o (w : Hp) (L : Nat → Int32) (p : Int32) : ∀ j i, i ≠ 84 → pwS w L p j i = w.1 i
  | 0, _, _ => rfl
  | j + 1, i, h => by
    show u2 (pwS w L p j) 84 _ _ i = _
    rw [u2_ne h, pwS_o w L p j i h]
theorem pwS_in (w : Hp) (L : Nat → Int32) (p : Int32) : ∀ j e, e < j → pwS w L p j 84 (2 + 9 * e + 2) = pfS (L e) p
  | 0, e, h => absurd h (by omega)
  | j + 1, e, h => by
    show u2 (pwS w L p j) 84 (2 + 9 * j + 2) _ 84 (2 + 9 * e + 2) = _
    by_cases q : e = j
    · subst q; exact u2_at _ _ _ _
    · rw [u2_k _ _ _ _ (by omega)]; exact pwS_in w L p j e (by omega)
theorem pwS_out (w : Hp) (L : Nat → Int32) (p : Int32) : ∀ j k, (∀ e, e < j → k ≠ 2 + 9 * e + 2) → pwS w L p j 84 k = w.1 84 k
  | 0, _, _ => rfl
  | j + 1, k, h => by
    show u2 (pwS w L p j) 84 (2 + 9 * j + 2) _ 84 k = _
    rw [u2_k _ _ _ _ (h j (by omega)), pwS_out w L p j k (fun e he => h e (by omega))]
theorem loM_eq {g x y : Hp} {l : Nat} (h : ∀ b, y.1 84 (2 + 9 * b + 1) = x.1 84 (2 + 9 * b + 1)) : ∀ n, loM g y l n = loM g x l n
  | 0 => rfl
  | n + 1 => by unfold loM; rw [loM_eq h n, h n]
theorem r_autoPickup (Y : Kx) (g x : Hp) (c n p : Nat) (hc : c ≤ 4) (h5 : x.1 83 5 = nI c) (hB : MB g x n) (hp : 100 ≤ p ∧ p ≤ 300) : sR Y mX7_autoPickup [.ref 83, .int (nI p)] x (fun rr z => ∃ w, sv0 x c w ∧ rr = some (.int (nI (pcS x (fun k => loM g x k n) (nI p) n))) ∧ z = (pwS w (fun k => loM g x k n) (nI p) n, w.2)) := by
  refine sR_of (by decide +kernel) (Nat.le_of_ble_eq_true rfl) (fun X h hY hR => ?_)
  have hT := kX7_autoPickup h
  have h12 := hB.1
  repeat (refine sw_s hT rfl rfl ?_)
  refine sw_cs hT rfl (r_in _ x (nI p) 100 300) rfl rfl (Nat.le_of_ble_eq_true rfl) ?_
  refine sw_b hT rfl rfl (fun c => absurd c ((inN (a := p) (lo := 100) (hi := 300) (by omega) (by omega) (by omega)))) (fun _ => ?_)
  repeat (refine sw_s hT rfl rfl ?_)
  rw [th_def, fks_th]
  refine sw_b hT rfl rfl (fun _ => ?_) (fun c => absurd ((by decide)) c)
  repeat (refine sw_s hT rfl rfl ?_)
  refine sw_cvR hT rfl (r_save _ (th x 0) c hc (th_5 h5)) rfl rfl rfl rfl (Nat.le_of_ble_eq_true rfl) ?_
  rintro _ w ⟨rfl, hw⟩
  have e84 := sv0_84 hw
  show SW X mX7_autoPickup 34 _ [] w
  obtain ⟨L, hL⟩ : ∃ L, L = fun k => loM g x k n := ⟨_, rfl⟩
  rw [← hL] at hR
  have K : ∀ d j, d + j = n → SW X mX7_autoPickup 38 [(3, .int (nI j)), (2, .int (nI (pcS x L (nI p) j))), (0, .ref 83), (1, .int (nI p))] [] (pwS w L (nI p) j, w.2) := by
    intro d
    induction d with
    | zero =>
      intro j hj
      have hjn : j = n := by omega
      subst hjn
      repeat (refine sw_s hT rfl rfl ?_)
      refine sw_iald hT rfl rfl (inW (by omega : 0 < 170)) ?_
      rw [show (0 : Int32).toNatClampNeg = 0 by decide, show ((pwS w L (nI p) j, w.2) : Hp).1 84 0 = nI j from (pwS_out w L (nI p) j 0 (fun e _ => by omega)).trans (by rw [e84, hB.2.1])]
      refine sw_b hT rfl rfl (fun _ => ?_) (fun c => absurd ((Int32.le_refl _)) c)
      repeat (refine sw_s hT rfl rfl ?_)
      refine sw_iretP hT rfl rfl rfl hR ?_
      exact ⟨w, hw, rfl, rfl⟩
    | succ d ih =>
      intro j hj
      have q := ih (j + 1) (by omega)
      have hp1 : pwS w L (nI p) (j + 1) = u2 (pwS w L (nI p) j) 84 (2 + 9 * j + 2) (pvS (L j) (nI p)) := by rw [pvS_eq]; rfl
      have hp2 : pcS x L (nI p) (j + 1) = if x.1 84 (2 + 9 * j + 2) = pvS (L j) (nI p) then pcS x L (nI p) j else pcS x L (nI p) j + 1 := by rw [pvS_eq]; rfl
      obtain ⟨z, hz⟩ : ∃ z : Hp, z = (pwS w L (nI p) j, w.2) := ⟨_, rfl⟩
      have z0 : z.1 84 0 = nI n := by rw [hz]; exact (pwS_out w L (nI p) j 0 (fun e _ => by omega)).trans (by rw [e84, hB.2.1])
      have zB : MB g z n := ⟨h12, z0, fun k hk => by rw [hz]; show pwS w L (nI p) j 84 (2 + 9 * k) = _ ∧ _; rw [pwS_out w L (nI p) j _ (fun e _ => by omega), e84]; exact hB.2.2 k hk⟩
      have zl : loM g z j n = L j := by
        rw [hL, hz]
        exact loM_eq (fun b => (pwS_out w L (nI p) j _ (fun e _ => by omega)).trans (by rw [e84])) n
      have zj : z.1 84 (2 + 9 * j + 2) = x.1 84 (2 + 9 * j + 2) := by rw [hz]; exact (pwS_out w L (nI p) j _ (fun e he => by omega)).trans (by rw [e84])
      have hzq : ((pwS w L (nI p) (j + 1), w.2) : Hp) = (u2 z.1 84 (2 + 9 * j + 2) (pvS (L j) (nI p)), z.2) := by rw [hp1, hz]
      rw [hzq, hp2] at q
      rw [← hz]
      -- with the pickup known
      have T : ∀ v : Int32, v = pvS (L j) (nI p) → SW X mX7_autoPickup 91 [(4, .int v), (3, .int (nI j)), (2, .int (nI (pcS x L (nI p) j))), (0, .ref 83), (1, .int (nI p))] [] z := by
        intro v hv
        rw [← hv, ← nI_1] at q
        repeat (refine sw_s hT rfl rfl ?_)
        refine sw_cs hT rfl (r_atL _ z j 2 2 (by decide)) rfl rfl (Nat.le_of_ble_eq_true rfl) ?_
        refine sw_iald hT rfl rfl (inW (by omega)) ?_
        rw [clW (by omega), zj]
        repeat (refine sw_s hT rfl rfl ?_)
        refine sw_b hT rfl rfl (fun c1 => ?_) (fun c1 => ?_)
        · rw [if_pos c1] at q
          refine sw_s hT rfl rfl ?_
          refine sw_s hT rfl rfl ?_
          refine sw_s hT rfl rfl ?_
          rw [show nI (pcS x L (nI p) j) + 0 = nI (pcS x L (nI p) j) from Int32.add_zero _]
          repeat (refine sw_s hT rfl rfl ?_)
          refine sw_cs hT rfl (r_atL _ z j 2 2 (by decide)) rfl rfl (Nat.le_of_ble_eq_true rfl) ?_
          repeat (refine sw_s hT rfl rfl ?_)
          refine sw_iast hT rfl rfl (inW (by omega)) ?_
          rw [clW (by omega)]
          repeat (first | (refine sw_at (n := 38) rfl ?_; exact (sw_pick [0, 1, 3, 4] rfl q)) | refine sw_s hT rfl rfl ?_)
        · rw [if_neg c1, ← nI_1] at q
          repeat (refine sw_s hT rfl rfl ?_)
          refine sw_cs hT rfl (r_atL _ z j 2 2 (by decide)) rfl rfl (Nat.le_of_ble_eq_true rfl) ?_
          repeat (refine sw_s hT rfl rfl ?_)
          refine sw_iast hT rfl rfl (inW (by omega)) ?_
          rw [clW (by omega)]
          repeat (first | (refine sw_at (n := 38) rfl ?_; exact (sw_pick [0, 1, 3, 4] rfl q)) | refine sw_s hT rfl rfl ?_)
      repeat (refine sw_s hT rfl rfl ?_)
      refine sw_iald hT rfl rfl (inW (by omega : 0 < 170)) ?_
      rw [show (0 : Int32).toNatClampNeg = 0 by decide, z0]
      refine sw_b hT rfl rfl (fun c => absurd c ((nI_ge (by omega) (by omega)))) (fun _ => ?_)
      repeat (refine sw_s hT rfl rfl ?_)
      refine sw_cv hT rfl (r_loadOver _ g z n j zB (by omega)) rfl rfl rfl rfl (Nat.le_of_ble_eq_true rfl) ?_
      rw [zl]
      repeat (refine sw_s hT rfl rfl ?_)
      refine sw_idiv hT rfl ((by decide)) ?_
      unfold pvS at T
      generalize (L j * nI p + 99) / 100 = v at T ⊢
      repeat (refine sw_s hT rfl rfl ?_)
      refine sw_b hT rfl rfl (fun c1 => ?_) (fun c1 => ?_)
      · rw [if_neg (Int32.not_lt.mpr c1)] at T
        repeat (refine sw_s hT rfl rfl ?_)
        refine sw_b hT rfl rfl (fun c2 => ?_) (fun c2 => ?_)
        · have t := T v (by rw [if_neg (Int32.not_lt.mpr c2)])
          repeat (first | (refine sw_at (n := 91) rfl ?_; exact (sw_pick [0, 1, 2, 3, 4] rfl t)) | refine sw_s hT rfl rfl ?_)
        · have t := T 20000 (by rw [if_pos (Int32.not_le.mp c2)])
          repeat (first | (refine sw_at (n := 91) rfl ?_; exact (sw_pick [0, 1, 2, 3, 4] rfl t)) | refine sw_s hT rfl rfl ?_)
      · have t := T 1 (by rw [if_pos (Int32.not_le.mp c1)])
        repeat (first | (refine sw_at (n := 91) rfl ?_; exact (sw_pick [0, 1, 2, 3, 4] rfl t)) | refine sw_s hT rfl rfl ?_)
  have q := K n 0 (by omega)
  repeat (first | (refine sw_at (n := 38) rfl ?_; exact (q)) | refine sw_s hT rfl rfl ?_)
