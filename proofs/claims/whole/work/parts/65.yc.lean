/-! the cases of the law's loop, on -/
set_option maxHeartbeats 1000000 in
theorem lc_20 {X : Ctx} {b L : Nat} {xs : Nat → Int32} (h : sCx X mL_law) (hL : lCx X b L xs) (hL2 : L ≤ 2560) (hr : rmOK X (cC X + 1) (sC X + 6)) {i : Nat} (hi : i + 5 ≤ L) {x : Hp} (hx : INVX x) (K : ∀ z, INVX z → SW (xc X (cC X + 1) (sC X + 6)) mL_law 1931 (L0 i) [] z) : SW X mL_law 1557 (L0 i) [] x := by
  obtain ⟨n, ne, i', c', hI⟩ := hx
  have hfl := lc_fl hL
  have h' := xc_s h hr
  have hL' : lCx (xc X (cC X + 1) (sC X + 6)) b L xs := xc_l hL
  have j1 : vp_in (nI i + 1) L := lc_in hL2 hi (by omega : 1 < 5) (by decide)
  have j2 : vp_in (nI i + 2) L := lc_in hL2 hi (by omega : 2 < 5) (by decide)
  have j3 : vp_in (nI i + 3) L := lc_in hL2 hi (by omega : 3 < 5) (by decide)
  rcases op_simulate (Y := xk X) hfl hI (xs (nI i + 1).toNatClampNeg) (xs (nI i + 2).toNatClampNeg) (arD (xs (nI i + 3).toNatClampNeg)) with hG | hB
  · obtain ⟨P, p6, hP⟩ := hG
    have hT := kL_law_c20 h
    repeat (refine sw_s hT rfl rfl ?_)
    refine sw_sld h hL dL_law_1563 j1 ?_
    repeat (refine sw_s hT rfl rfl ?_)
    refine sw_sld h hL dL_law_1569 j2 ?_
    repeat (refine sw_s hT rfl rfl ?_)
    refine sw_sld h hL dL_law_1575 j3 ?_
    repeat (refine sw_s hT rfl rfl ?_)
    refine sw_dmul hT rfl ((ar_ok _).1) ?_
    repeat (refine sw_s hT rfl rfl ?_)
    refine sw_csL (n := 5) h hL (wn_simulate _ _ _ p6 (fun rr y hp => by obtain ⟨v, rfl, hv, -⟩ := hP rr y hp; obtain ⟨w, rfl⟩ := vk_i hv (Or.inl rfl); exact ⟨w, rfl⟩)) gl_305 gl_306 gl_252 gl_307 ⟨by decide +kernel, by decide +kernel, by decide +kernel⟩ ⟨by decide +kernel, by decide +kernel⟩ dL_law_1582 (rest := []) rfl rfl (Nat.le_of_ble_eq_true rfl) hr ?_
    rintro _ _ ⟨rfl, v, y, hp, rfl⟩
    obtain ⟨v', hv', hok, hR⟩ := hP _ _ hp
    cases hv'
    obtain ⟨P2, q2, hQ⟩ := hR (y.1, y.2.1, u2 y.2.2 94 0 v.toInt64) ⟨rfl, fun a ha => rfl⟩
    have hT := kL_law_c20 h'
    show SW (xc X (cC X + 1) (sC X + 6)) mL_law 1585 _ [.int 0] _
    repeat (refine sw_s hT rfl rfl ?_)
    refine sw_sld h' hL' dL_law_1593 j1 ?_
    repeat (refine sw_s hT rfl rfl ?_)
    refine sw_sld h' hL' dL_law_1599 j2 ?_
    repeat (refine sw_s hT rfl rfl ?_)
    refine sw_sld h' hL' dL_law_1605 j3 ?_
    repeat (refine sw_s hT rfl rfl ?_)
    refine sw_dmul hT rfl ((ar_ok _).1) ?_
    repeat (refine sw_s hT rfl rfl ?_)
    refine sw_cvR hT rfl (q2) rfl rfl rfl rfl (Nat.le_of_ble_eq_true rfl) ?_
    intro r2 z hz2
    obtain ⟨rfl, z0, zl, z95, hI2⟩ := hQ r2 z hz2
    show SW _ mL_law 1614 _ [.int v] z
    repeat (refine sw_s hT rfl rfl ?_)
    refine sw_cv hT rfl (r_thrown _ z) rfl rfl rfl rfl (Nat.le_of_ble_eq_true rfl) ?_
    rw [z0]
    repeat (refine sw_s hT rfl rfl ?_)
    refine sw_b hT rfl rfl (fun _ => ?_) (fun c => absurd (rfl) c)
    repeat (refine sw_s hT rfl rfl ?_)
    refine sw_b hT rfl rfl (fun _ => ?_) (fun c => absurd (rfl) c)
    repeat (refine sw_s hT rfl rfl ?_)
    have zv : z.2.2 94 (0 : Int32).toNatClampNeg = v.toInt64 := by rw [zl]; exact u2_at y.2.2 94 0 v.toInt64
    refine sw_lald hT rfl rfl (in01) ?_
    rw [zv]
    repeat (refine sw_s hT rfl rfl ?_)
    refine sw_b hT rfl rfl (fun _ => ?_) (fun c => absurd (lc_cmp) c)
    repeat (first | (refine sw_at (n := 1931) rfl ?_; exact (sw_pick [2, 3, 4, 5, 6, 7] rfl (K z hI2))) | refine sw_s hT rfl rfl ?_)
  · have hT := kL_law_c20 h
    repeat (refine sw_s hT rfl rfl ?_)
    refine sw_sld h hL dL_law_1563 j1 ?_
    repeat (refine sw_s hT rfl rfl ?_)
    refine sw_sld h hL dL_law_1569 j2 ?_
    repeat (refine sw_s hT rfl rfl ?_)
    refine sw_sld h hL dL_law_1575 j3 ?_
    repeat (refine sw_s hT rfl rfl ?_)
    refine sw_dmul hT rfl ((ar_ok _).1) ?_
    repeat (refine sw_s hT rfl rfl ?_)
    refine sw_csL (n := 5) h hL (wt1_simulate hfl _ _ _ hB.1) gl_305 gl_306 gl_252 gl_307 ⟨by decide +kernel, by decide +kernel, by decide +kernel⟩ ⟨by decide +kernel, by decide +kernel⟩ dL_law_1582 (rest := []) rfl rfl (Nat.le_of_ble_eq_true rfl) hr ?_
    rintro _ _ ⟨rfl, rfl⟩
    obtain ⟨P2, q2, hQ⟩ := hB.2 _ mid_rf
    have hT := kL_law_c20 h'
    show SW (xc X (cC X + 1) (sC X + 6)) mL_law 1585 _ [.int 1] _
    repeat (refine sw_s hT rfl rfl ?_)
    refine sw_sld h' hL' dL_law_1593 j1 ?_
    repeat (refine sw_s hT rfl rfl ?_)
    refine sw_sld h' hL' dL_law_1599 j2 ?_
    repeat (refine sw_s hT rfl rfl ?_)
    refine sw_sld h' hL' dL_law_1605 j3 ?_
    repeat (refine sw_s hT rfl rfl ?_)
    refine sw_dmul hT rfl ((ar_ok _).1) ?_
    repeat (refine sw_s hT rfl rfl ?_)
    refine sw_cvR hT rfl (q2) rfl rfl rfl rfl (Nat.le_of_ble_eq_true rfl) ?_
    intro r2 z hz2
    obtain ⟨rfl, z0, zl, z95, hI2⟩ := hQ r2 z hz2
    show SW _ mL_law 1614 _ [.int 0] z
    repeat (refine sw_s hT rfl rfl ?_)
    refine sw_cv hT rfl (r_thrown _ z) rfl rfl rfl rfl (Nat.le_of_ble_eq_true rfl) ?_
    rw [z0]
    repeat (refine sw_s hT rfl rfl ?_)
    refine sw_b hT rfl rfl (fun _ => ?_) (fun c => absurd (rfl) c)
    repeat (refine sw_s hT rfl rfl ?_)
    refine sw_b hT rfl rfl (fun c => absurd c ((by decide))) (fun _ => ?_)
    repeat (first | (refine sw_at (n := 1931) rfl ?_; exact (sw_pick [2, 3, 4, 5, 6, 7] rfl (K z hI2))) | refine sw_s hT rfl rfl ?_)
set_option maxHeartbeats 1000000 in
theorem lc_21 {X : Ctx} {b L : Nat} {xs : Nat → Int32} (h : sCx X mL_law) (hL : lCx X b L xs) (hL2 : L ≤ 2560) (hr : rmOK X (cC X + 1) (sC X + 6)) {i : Nat} (hi : i + 5 ≤ L) {x : Hp} (hx : INVX x) (K : ∀ z, INVX z → SW (xc X (cC X + 1) (sC X + 6)) mL_law 1931 (L0 i) [] z) : SW X mL_law 1647 (L0 i) [] x := by
  obtain ⟨n, ne, i', c', hI⟩ := hx
  have hfl := lc_fl hL
  have h' := xc_s h hr
  have hL' : lCx (xc X (cC X + 1) (sC X + 6)) b L xs := xc_l hL
  obtain ⟨P, p6, hP⟩ := op_eventCount (Y := xk X) hI
  refine SW_widen (k := cC X + 1) (n := sC X + 6) (Nat.le_add_right _ _) (Nat.le_add_right _ _) ?_
  have hT := kL_law_c21 h'
  repeat (refine sw_s hT rfl rfl ?_)
  refine sw_cvR hT rfl (p6) rfl rfl rfl rfl (Nat.le_of_ble_eq_true rfl) ?_
  intro rr y hp
  obtain ⟨v, rfl, hv, hR⟩ := hP rr y hp
  obtain ⟨w, rfl⟩ := vk_i hv (Or.inl rfl)
  obtain ⟨P2, q2, hQ⟩ := hR y mid_rf
  show SW _ mL_law 1651 _ [.int w] y
  repeat (refine sw_s hT rfl rfl ?_)
  refine sw_cvR hT rfl (q2) rfl rfl rfl rfl (Nat.le_of_ble_eq_true rfl) ?_
  intro r2 z hz
  obtain ⟨rfl, -, -, -, hI2⟩ := hQ r2 z hz
  show SW _ mL_law 1655 _ [.int w, .int w] z
  refine sw_b hT rfl rfl (fun _ => ?_) (fun c => absurd (rfl) c)
  exact K z hI2
set_option maxHeartbeats 1000000 in
theorem lc_22 {X : Ctx} {b L : Nat} {xs : Nat → Int32} (h : sCx X mL_law) (hL : lCx X b L xs) (hL2 : L ≤ 2560) (hr : rmOK X (cC X + 1) (sC X + 6)) {i : Nat} (hi : i + 5 ≤ L) {x : Hp} (hx : INVX x) (K : ∀ z, INVX z → SW (xc X (cC X + 1) (sC X + 6)) mL_law 1931 (L0 i) [] z) : SW X mL_law 1660 (L0 i) [] x := by
  obtain ⟨n, ne, i', c', hI⟩ := hx
  have hfl := lc_fl hL
  have h' := xc_s h hr
  have hL' : lCx (xc X (cC X + 1) (sC X + 6)) b L xs := xc_l hL
  have j1 : vp_in (nI i + 1) L := lc_in hL2 hi (by omega : 1 < 5) (by decide)
  rcases op_event (Y := xk X) hfl hI (xs (nI i + 1).toNatClampNeg) with hG | hB
  · obtain ⟨P, p6, hP⟩ := hG
    have hT := kL_law_c22 h
    repeat (refine sw_s hT rfl rfl ?_)
    refine sw_sld h hL dL_law_1666 j1 ?_
    repeat (refine sw_s hT rfl rfl ?_)
    refine sw_csL (n := 3) h hL (wn_event _ p6 (fun rr y hp => by obtain ⟨v, rfl, hv, -⟩ := hP rr y hp; obtain ⟨w, rfl⟩ := vk_i hv (Or.inl rfl); exact ⟨w, rfl⟩)) gl_308 gl_309 gl_252 gl_310 ⟨by decide +kernel, by decide +kernel, by decide +kernel⟩ ⟨by decide +kernel, by decide +kernel⟩ dL_law_1668 (rest := []) rfl rfl (Nat.le_of_ble_eq_true rfl) hr ?_
    rintro _ _ ⟨rfl, v, y, hp, rfl⟩
    obtain ⟨v', hv', hok, hR⟩ := hP _ _ hp
    cases hv'
    obtain ⟨P2, q2, hQ⟩ := hR (y.1, y.2.1, u2 y.2.2 94 0 v.toInt64) ⟨rfl, fun a ha => rfl⟩
    have hT := kL_law_c22 h'
    show SW (xc X (cC X + 1) (sC X + 6)) mL_law 1671 _ [.int 0] _
    repeat (refine sw_s hT rfl rfl ?_)
    refine sw_sld h' hL' dL_law_1679 j1 ?_
    repeat (refine sw_s hT rfl rfl ?_)
    refine sw_cvR hT rfl (q2) rfl rfl rfl rfl (Nat.le_of_ble_eq_true rfl) ?_
    intro r2 z hz2
    obtain ⟨rfl, z0, zl, z95, hI2⟩ := hQ r2 z hz2
    show SW _ mL_law 1683 _ [.int v] z
    repeat (refine sw_s hT rfl rfl ?_)
    refine sw_cv hT rfl (r_thrown _ z) rfl rfl rfl rfl (Nat.le_of_ble_eq_true rfl) ?_
    rw [z0]
    repeat (refine sw_s hT rfl rfl ?_)
    refine sw_b hT rfl rfl (fun _ => ?_) (fun c => absurd (rfl) c)
    repeat (refine sw_s hT rfl rfl ?_)
    refine sw_b hT rfl rfl (fun _ => ?_) (fun c => absurd (rfl) c)
    repeat (refine sw_s hT rfl rfl ?_)
    have zv : z.2.2 94 (0 : Int32).toNatClampNeg = v.toInt64 := by rw [zl]; exact u2_at y.2.2 94 0 v.toInt64
    refine sw_lald hT rfl rfl (in01) ?_
    rw [zv]
    repeat (refine sw_s hT rfl rfl ?_)
    refine sw_b hT rfl rfl (fun _ => ?_) (fun c => absurd (lc_cmp) c)
    repeat (first | (refine sw_at (n := 1931) rfl ?_; exact (sw_pick [2, 3, 4, 5, 6, 7] rfl (K z hI2))) | refine sw_s hT rfl rfl ?_)
  · have hT := kL_law_c22 h
    repeat (refine sw_s hT rfl rfl ?_)
    refine sw_sld h hL dL_law_1666 j1 ?_
    repeat (refine sw_s hT rfl rfl ?_)
    refine sw_csL (n := 3) h hL (wt1_event hfl _ hB.1) gl_308 gl_309 gl_252 gl_310 ⟨by decide +kernel, by decide +kernel, by decide +kernel⟩ ⟨by decide +kernel, by decide +kernel⟩ dL_law_1668 (rest := []) rfl rfl (Nat.le_of_ble_eq_true rfl) hr ?_
    rintro _ _ ⟨rfl, rfl⟩
    obtain ⟨P2, q2, hQ⟩ := hB.2 _ mid_rf
    have hT := kL_law_c22 h'
    show SW (xc X (cC X + 1) (sC X + 6)) mL_law 1671 _ [.int 1] _
    repeat (refine sw_s hT rfl rfl ?_)
    refine sw_sld h' hL' dL_law_1679 j1 ?_
    repeat (refine sw_s hT rfl rfl ?_)
    refine sw_cvR hT rfl (q2) rfl rfl rfl rfl (Nat.le_of_ble_eq_true rfl) ?_
    intro r2 z hz2
    obtain ⟨rfl, z0, zl, z95, hI2⟩ := hQ r2 z hz2
    show SW _ mL_law 1683 _ [.int 0] z
    repeat (refine sw_s hT rfl rfl ?_)
    refine sw_cv hT rfl (r_thrown _ z) rfl rfl rfl rfl (Nat.le_of_ble_eq_true rfl) ?_
    rw [z0]
    repeat (refine sw_s hT rfl rfl ?_)
    refine sw_b hT rfl rfl (fun _ => ?_) (fun c => absurd (rfl) c)
    repeat (refine sw_s hT rfl rfl ?_)
    refine sw_b hT rfl rfl (fun c => absurd c ((by decide))) (fun _ => ?_)
    repeat (first | (refine sw_at (n := 1931) rfl ?_; exact (sw_pick [2, 3, 4, 5, 6, 7] rfl (K z hI2))) | refine sw_s hT rfl rfl ?_)
set_option maxHeartbeats 1000000 in
theorem lc_23 {X : Ctx} {b L : Nat} {xs : Nat → Int32} (h : sCx X mL_law) (hL : lCx X b L xs) (hL2 : L ≤ 2560) (hr : rmOK X (cC X + 1) (sC X + 6)) {i : Nat} (hi : i + 5 ≤ L) {x : Hp} (hx : INVX x) (K : ∀ z, INVX z → SW (xc X (cC X + 1) (sC X + 6)) mL_law 1931 (L0 i) [] z) : SW X mL_law 1716 (L0 i) [] x := by
  obtain ⟨n, ne, i', c', hI⟩ := hx
  have hfl := lc_fl hL
  have h' := xc_s h hr
  have hL' : lCx (xc X (cC X + 1) (sC X + 6)) b L xs := xc_l hL
  have j1 : vp_in (nI i + 1) L := lc_in hL2 hi (by omega : 1 < 5) (by decide)
  rcases op_eventTime (Y := xk X) hfl hI (xs (nI i + 1).toNatClampNeg) with hG | hB
  · obtain ⟨P, p6, hP⟩ := hG
    have hT := kL_law_c23 h
    repeat (refine sw_s hT rfl rfl ?_)
    refine sw_sld h hL dL_law_1722 j1 ?_
    repeat (refine sw_s hT rfl rfl ?_)
    refine sw_csL (n := 3) h hL (wn_eventTime _ p6 (fun rr y hp => by obtain ⟨v, rfl, hv, -⟩ := hP rr y hp; obtain ⟨w, rfl, -⟩ := vk_d hv rfl; exact ⟨w, rfl⟩)) gl_311 gl_312 gl_252 gl_313 ⟨by decide +kernel, by decide +kernel, by decide +kernel⟩ ⟨by decide +kernel, by decide +kernel⟩ dL_law_1725 (rest := []) rfl rfl (Nat.le_of_ble_eq_true rfl) hr ?_
    rintro _ _ ⟨rfl, v, y, hp, rfl⟩
    obtain ⟨v', hv', hok, hR⟩ := hP _ _ hp
    cases hv'
    obtain ⟨P2, q2, hQ⟩ := hR (y.1, u2 y.2.1 95 0 v, y.2.2) ⟨rfl, fun a ha => u2_ne ha⟩
    have hT := kL_law_c23 h'
    show SW (xc X (cC X + 1) (sC X + 6)) mL_law 1728 _ [.int 0] _
    repeat (refine sw_s hT rfl rfl ?_)
    refine sw_sld h' hL' dL_law_1736 j1 ?_
    repeat (refine sw_s hT rfl rfl ?_)
    refine sw_cvR hT rfl (q2) rfl rfl rfl rfl (Nat.le_of_ble_eq_true rfl) ?_
    intro r2 z hz2
    obtain ⟨rfl, z0, zl, z95, hI2⟩ := hQ r2 z hz2
    show SW _ mL_law 1740 _ [.double v] z
    repeat (refine sw_s hT rfl rfl ?_)
    refine sw_cv hT rfl (r_thrown _ z) rfl rfl rfl rfl (Nat.le_of_ble_eq_true rfl) ?_
    rw [z0]
    repeat (refine sw_s hT rfl rfl ?_)
    refine sw_b hT rfl rfl (fun _ => ?_) (fun c => absurd (rfl) c)
    repeat (refine sw_s hT rfl rfl ?_)
    refine sw_b hT rfl rfl (fun _ => ?_) (fun c => absurd (rfl) c)
    repeat (refine sw_s hT rfl rfl ?_)
    have zv : z.2.1 95 (0 : Int32).toNatClampNeg = v := by rw [z95]; exact u2_at y.2.1 95 0 v
    refine sw_dald hT rfl rfl (in01) ?_
    rw [zv]
    repeat (refine sw_s hT rfl rfl ?_)
    refine sw_b hT rfl rfl (fun _ => ?_) (fun c => absurd ((zb_eq hok.2)) c)
    repeat (first | (refine sw_at (n := 1931) rfl ?_; exact (sw_pick [2, 3, 4, 5, 6, 7] rfl (K z hI2))) | refine sw_s hT rfl rfl ?_)
  · have hT := kL_law_c23 h
    repeat (refine sw_s hT rfl rfl ?_)
    refine sw_sld h hL dL_law_1722 j1 ?_
    repeat (refine sw_s hT rfl rfl ?_)
    refine sw_csL (n := 3) h hL (wt1_eventTime hfl _ hB.1) gl_311 gl_312 gl_252 gl_313 ⟨by decide +kernel, by decide +kernel, by decide +kernel⟩ ⟨by decide +kernel, by decide +kernel⟩ dL_law_1725 (rest := []) rfl rfl (Nat.le_of_ble_eq_true rfl) hr ?_
    rintro _ _ ⟨rfl, rfl⟩
    obtain ⟨P2, q2, hQ⟩ := hB.2 _ mid_rf
    have hT := kL_law_c23 h'
    show SW (xc X (cC X + 1) (sC X + 6)) mL_law 1728 _ [.int 1] _
    repeat (refine sw_s hT rfl rfl ?_)
    refine sw_sld h' hL' dL_law_1736 j1 ?_
    repeat (refine sw_s hT rfl rfl ?_)
    refine sw_cvR hT rfl (q2) rfl rfl rfl rfl (Nat.le_of_ble_eq_true rfl) ?_
    intro r2 z hz2
    obtain ⟨rfl, z0, zl, z95, hI2⟩ := hQ r2 z hz2
    show SW _ mL_law 1740 _ [.double 0] z
    repeat (refine sw_s hT rfl rfl ?_)
    refine sw_cv hT rfl (r_thrown _ z) rfl rfl rfl rfl (Nat.le_of_ble_eq_true rfl) ?_
    rw [z0]
    repeat (refine sw_s hT rfl rfl ?_)
    refine sw_b hT rfl rfl (fun _ => ?_) (fun c => absurd (rfl) c)
    repeat (refine sw_s hT rfl rfl ?_)
    refine sw_b hT rfl rfl (fun c => absurd c ((by decide))) (fun _ => ?_)
    repeat (first | (refine sw_at (n := 1931) rfl ?_; exact (sw_pick [2, 3, 4, 5, 6, 7] rfl (K z hI2))) | refine sw_s hT rfl rfl ?_)
set_option maxHeartbeats 1000000 in
theorem lc_24 {X : Ctx} {b L : Nat} {xs : Nat → Int32} (h : sCx X mL_law) (hL : lCx X b L xs) (hL2 : L ≤ 2560) (hr : rmOK X (cC X + 1) (sC X + 6)) {i : Nat} (hi : i + 5 ≤ L) {x : Hp} (hx : INVX x) (K : ∀ z, INVX z → SW (xc X (cC X + 1) (sC X + 6)) mL_law 1931 (L0 i) [] z) : SW X mL_law 1793 (L0 i) [] x := by
  obtain ⟨n, ne, i', c', hI⟩ := hx
  have hfl := lc_fl hL
  have h' := xc_s h hr
  have hL' : lCx (xc X (cC X + 1) (sC X + 6)) b L xs := xc_l hL
  obtain ⟨P, p6, hP⟩ := op_clearedTime (Y := xk X) hI
  refine SW_widen (k := cC X + 1) (n := sC X + 6) (Nat.le_add_right _ _) (Nat.le_add_right _ _) ?_
  have hT := kL_law_c24 h'
  repeat (refine sw_s hT rfl rfl ?_)
  refine sw_cvR hT rfl (p6) rfl rfl rfl rfl (Nat.le_of_ble_eq_true rfl) ?_
  intro rr y hp
  obtain ⟨v, rfl, hv, hR⟩ := hP rr y hp
  obtain ⟨w, rfl, hok⟩ := vk_d hv rfl
  obtain ⟨P2, q2, hQ⟩ := hR y mid_rf
  show SW _ mL_law 1797 _ [.double w] y
  repeat (refine sw_s hT rfl rfl ?_)
  refine sw_cvR hT rfl (q2) rfl rfl rfl rfl (Nat.le_of_ble_eq_true rfl) ?_
  intro r2 z hz
  obtain ⟨rfl, -, -, -, hI2⟩ := hQ r2 z hz
  show SW _ mL_law 1803 _ [.double w] z
  repeat (refine sw_s hT rfl rfl ?_)
  refine sw_b hT rfl rfl (fun _ => ?_) (fun c => absurd ((zb_eq hok)) c)
  repeat (first | (refine sw_at (n := 1931) rfl ?_; exact (sw_pick [2, 3, 4, 5, 6, 7] rfl (K z hI2))) | refine sw_s hT rfl rfl ?_)
set_option maxHeartbeats 1000000 in
theorem lc_25 {X : Ctx} {b L : Nat} {xs : Nat → Int32} (h : sCx X mL_law) (hL : lCx X b L xs) (hL2 : L ≤ 2560) (hr : rmOK X (cC X + 1) (sC X + 6)) {i : Nat} (hi : i + 5 ≤ L) {x : Hp} (hx : INVX x) (K : ∀ z, INVX z → SW (xc X (cC X + 1) (sC X + 6)) mL_law 1931 (L0 i) [] z) : SW X mL_law 1834 (L0 i) [] x := by
  obtain ⟨n, ne, i', c', hI⟩ := hx
  have hfl := lc_fl hL
  have h' := xc_s h hr
  have hL' : lCx (xc X (cC X + 1) (sC X + 6)) b L xs := xc_l hL
  obtain ⟨P, p6, hP⟩ := op_openBreakers (Y := xk X) hI
  refine SW_widen (k := cC X + 1) (n := sC X + 6) (Nat.le_add_right _ _) (Nat.le_add_right _ _) ?_
  have hT := kL_law_c25 h'
  repeat (refine sw_s hT rfl rfl ?_)
  refine sw_cvR hT rfl (p6) rfl rfl rfl rfl (Nat.le_of_ble_eq_true rfl) ?_
  intro rr y hp
  obtain ⟨v, rfl, hv, hR⟩ := hP rr y hp
  obtain ⟨w, rfl⟩ := vk_i hv (Or.inl rfl)
  obtain ⟨P2, q2, hQ⟩ := hR y mid_rf
  show SW _ mL_law 1838 _ [.int w] y
  repeat (refine sw_s hT rfl rfl ?_)
  refine sw_cvR hT rfl (q2) rfl rfl rfl rfl (Nat.le_of_ble_eq_true rfl) ?_
  intro r2 z hz
  obtain ⟨rfl, -, -, -, hI2⟩ := hQ r2 z hz
  show SW _ mL_law 1842 _ [.int w, .int w] z
  refine sw_b hT rfl rfl (fun _ => ?_) (fun c => absurd (rfl) c)
  exact K z hI2
set_option maxHeartbeats 1000000 in
theorem lc_26 {X : Ctx} {b L : Nat} {xs : Nat → Int32} (h : sCx X mL_law) (hL : lCx X b L xs) (hL2 : L ≤ 2560) (hr : rmOK X (cC X + 1) (sC X + 6)) {i : Nat} (hi : i + 5 ≤ L) {x : Hp} (hx : INVX x) (K : ∀ z, INVX z → SW (xc X (cC X + 1) (sC X + 6)) mL_law 1931 (L0 i) [] z) : SW X mL_law 1847 (L0 i) [] x := by
  obtain ⟨n, ne, i', c', hI⟩ := hx
  have hfl := lc_fl hL
  have h' := xc_s h hr
  have hL' : lCx (xc X (cC X + 1) (sC X + 6)) b L xs := xc_l hL
  obtain ⟨P, p6, hP⟩ := op_lostLoad (Y := xk X) hI
  refine SW_widen (k := cC X + 1) (n := sC X + 6) (Nat.le_add_right _ _) (Nat.le_add_right _ _) ?_
  have hT := kL_law_c26 h'
  repeat (refine sw_s hT rfl rfl ?_)
  refine sw_cvR hT rfl (p6) rfl rfl rfl rfl (Nat.le_of_ble_eq_true rfl) ?_
  intro rr y hp
  obtain ⟨v, rfl, hv, hR⟩ := hP rr y hp
  obtain ⟨w, rfl⟩ := vk_i hv (Or.inl rfl)
  obtain ⟨P2, q2, hQ⟩ := hR y mid_rf
  show SW _ mL_law 1851 _ [.int w] y
  repeat (refine sw_s hT rfl rfl ?_)
  refine sw_cvR hT rfl (q2) rfl rfl rfl rfl (Nat.le_of_ble_eq_true rfl) ?_
  intro r2 z hz
  obtain ⟨rfl, -, -, -, hI2⟩ := hQ r2 z hz
  show SW _ mL_law 1855 _ [.int w, .int w] z
  refine sw_b hT rfl rfl (fun _ => ?_) (fun c => absurd (rfl) c)
  exact K z hI2
set_option maxHeartbeats 1000000 in
theorem lc_27 {X : Ctx} {b L : Nat} {xs : Nat → Int32} (h : sCx X mL_law) (hL : lCx X b L xs) (hL2 : L ≤ 2560) (hr : rmOK X (cC X + 1) (sC X + 6)) {i : Nat} (hi : i + 5 ≤ L) {x : Hp} (hx : INVX x) (K : ∀ z, INVX z → SW (xc X (cC X + 1) (sC X + 6)) mL_law 1931 (L0 i) [] z) : SW X mL_law 1860 (L0 i) [] x := by
  obtain ⟨n, ne, i', c', hI⟩ := hx
  have hfl := lc_fl hL
  have h' := xc_s h hr
  have hL' : lCx (xc X (cC X + 1) (sC X + 6)) b L xs := xc_l hL
  obtain ⟨P, p6, hP⟩ := op_closeAll (Y := xk X) hI
  refine SW_widen (k := cC X + 1) (n := sC X + 6) (Nat.le_add_right _ _) (Nat.le_add_right _ _) ?_
  have hT := kL_law_c27 h'
  repeat (refine sw_s hT rfl rfl ?_)
  refine sw_cvR hT rfl (p6) rfl rfl rfl rfl (Nat.le_of_ble_eq_true rfl) ?_
  intro rr y hp
  obtain ⟨v, rfl, hv, hR⟩ := hP rr y hp
  obtain ⟨w, rfl⟩ := vk_i hv (Or.inl rfl)
  obtain ⟨P2, q2, hQ⟩ := hR y mid_rf
  show SW _ mL_law 1864 _ [.int w] y
  repeat (refine sw_s hT rfl rfl ?_)
  refine sw_cvR hT rfl (q2) rfl rfl rfl rfl (Nat.le_of_ble_eq_true rfl) ?_
  intro r2 z hz
  obtain ⟨rfl, -, -, -, hI2⟩ := hQ r2 z hz
  show SW _ mL_law 1868 _ [.int w, .int w] z
  refine sw_b hT rfl rfl (fun _ => ?_) (fun c => absurd (rfl) c)
  exact K z hI2
set_option maxHeartbeats 1000000 in
theorem lc_28 {X : Ctx} {b L : Nat} {xs : Nat → Int32} (h : sCx X mL_law) (hL : lCx X b L xs) (hL2 : L ≤ 2560) (hr : rmOK X (cC X + 1) (sC X + 6)) {i : Nat} (hi : i + 5 ≤ L) {x : Hp} (hx : INVX x) (K : ∀ z, INVX z → SW (xc X (cC X + 1) (sC X + 6)) mL_law 1931 (L0 i) [] z) : SW X mL_law 1873 (L0 i) [] x := by
  obtain ⟨n, ne, i', c', hI⟩ := hx
  have hfl := lc_fl hL
  have h' := xc_s h hr
  have hL' : lCx (xc X (cC X + 1) (sC X + 6)) b L xs := xc_l hL
  rcases op_undo (Y := xk X) hfl hI  with hG | hB
  · obtain ⟨P, p6, hP⟩ := hG
    have hT := kL_law_c28 h
    repeat (refine sw_s hT rfl rfl ?_)
    refine sw_csL (n := 2) h hL (wn_undo  p6 (fun rr y hp => by obtain ⟨v, rfl, hv, -⟩ := hP rr y hp; obtain ⟨w, rfl⟩ := vk_i hv (Or.inl rfl); exact ⟨w, rfl⟩)) gl_314 gl_315 gl_252 gl_316 ⟨by decide +kernel, by decide +kernel, by decide +kernel⟩ ⟨by decide +kernel, by decide +kernel⟩ dL_law_1875 (rest := []) rfl rfl (Nat.le_of_ble_eq_true rfl) hr ?_
    rintro _ _ ⟨rfl, v, y, hp, rfl⟩
    obtain ⟨v', hv', hok, hR⟩ := hP _ _ hp
    cases hv'
    obtain ⟨P2, q2, hQ⟩ := hR (y.1, y.2.1, u2 y.2.2 94 0 v.toInt64) ⟨rfl, fun a ha => rfl⟩
    have hT := kL_law_c28 h'
    show SW (xc X (cC X + 1) (sC X + 6)) mL_law 1878 _ [.int 0] _
    repeat (refine sw_s hT rfl rfl ?_)
    refine sw_cvR hT rfl (q2) rfl rfl rfl rfl (Nat.le_of_ble_eq_true rfl) ?_
    intro r2 z hz2
    obtain ⟨rfl, z0, zl, z95, hI2⟩ := hQ r2 z hz2
    show SW _ mL_law 1884 _ [.int v] z
    repeat (refine sw_s hT rfl rfl ?_)
    refine sw_cv hT rfl (r_thrown _ z) rfl rfl rfl rfl (Nat.le_of_ble_eq_true rfl) ?_
    rw [z0]
    repeat (refine sw_s hT rfl rfl ?_)
    refine sw_b hT rfl rfl (fun _ => ?_) (fun c => absurd (rfl) c)
    repeat (refine sw_s hT rfl rfl ?_)
    refine sw_b hT rfl rfl (fun _ => ?_) (fun c => absurd (rfl) c)
    repeat (refine sw_s hT rfl rfl ?_)
    have zv : z.2.2 94 (0 : Int32).toNatClampNeg = v.toInt64 := by rw [zl]; exact u2_at y.2.2 94 0 v.toInt64
    refine sw_lald hT rfl rfl (in01) ?_
    rw [zv]
    repeat (refine sw_s hT rfl rfl ?_)
    refine sw_b hT rfl rfl (fun _ => ?_) (fun c => absurd (lc_cmp) c)
    repeat (first | (refine sw_at (n := 1931) rfl ?_; exact (sw_pick [2, 3, 4, 5, 6, 7] rfl (K z hI2))) | refine sw_s hT rfl rfl ?_)
  · have hT := kL_law_c28 h
    repeat (refine sw_s hT rfl rfl ?_)
    refine sw_csL (n := 2) h hL (wt1_undo hfl  hB.1) gl_314 gl_315 gl_252 gl_316 ⟨by decide +kernel, by decide +kernel, by decide +kernel⟩ ⟨by decide +kernel, by decide +kernel⟩ dL_law_1875 (rest := []) rfl rfl (Nat.le_of_ble_eq_true rfl) hr ?_
    rintro _ _ ⟨rfl, rfl⟩
    obtain ⟨P2, q2, hQ⟩ := hB.2 _ mid_rf
    have hT := kL_law_c28 h'
    show SW (xc X (cC X + 1) (sC X + 6)) mL_law 1878 _ [.int 1] _
    repeat (refine sw_s hT rfl rfl ?_)
    refine sw_cvR hT rfl (q2) rfl rfl rfl rfl (Nat.le_of_ble_eq_true rfl) ?_
    intro r2 z hz2
    obtain ⟨rfl, z0, zl, z95, hI2⟩ := hQ r2 z hz2
    show SW _ mL_law 1884 _ [.int 0] z
    repeat (refine sw_s hT rfl rfl ?_)
    refine sw_cv hT rfl (r_thrown _ z) rfl rfl rfl rfl (Nat.le_of_ble_eq_true rfl) ?_
    rw [z0]
    repeat (refine sw_s hT rfl rfl ?_)
    refine sw_b hT rfl rfl (fun _ => ?_) (fun c => absurd (rfl) c)
    repeat (refine sw_s hT rfl rfl ?_)
    refine sw_b hT rfl rfl (fun c => absurd c ((by decide))) (fun _ => ?_)
    repeat (first | (refine sw_at (n := 1931) rfl ?_; exact (sw_pick [2, 3, 4, 5, 6, 7] rfl (K z hI2))) | refine sw_s hT rfl rfl ?_)
set_option maxHeartbeats 1000000 in
theorem lc_29 {X : Ctx} {b L : Nat} {xs : Nat → Int32} (h : sCx X mL_law) (hL : lCx X b L xs) (hL2 : L ≤ 2560) (hr : rmOK X (cC X + 1) (sC X + 6)) {i : Nat} (hi : i + 5 ≤ L) {x : Hp} (hx : INVX x) (K : ∀ z, INVX z → SW (xc X (cC X + 1) (sC X + 6)) mL_law 1931 (L0 i) [] z) : SW X mL_law 1917 (L0 i) [] x := by
  obtain ⟨n, ne, i', c', hI⟩ := hx
  have hfl := lc_fl hL
  have h' := xc_s h hr
  have hL' : lCx (xc X (cC X + 1) (sC X + 6)) b L xs := xc_l hL
  obtain ⟨P, p6, hP⟩ := op_digest (Y := xk X) hI
  refine SW_widen (k := cC X + 1) (n := sC X + 6) (Nat.le_add_right _ _) (Nat.le_add_right _ _) ?_
  have hT := kL_law_c29 h'
  repeat (refine sw_s hT rfl rfl ?_)
  refine sw_cvR hT rfl (p6) rfl rfl rfl rfl (Nat.le_of_ble_eq_true rfl) ?_
  intro rr y hp
  obtain ⟨v, rfl, hv, hR⟩ := hP rr y hp
  obtain ⟨w, rfl⟩ := vk_l hv rfl
  obtain ⟨P2, q2, hQ⟩ := hR y mid_rf
  show SW _ mL_law 1921 _ [.long w] y
  repeat (refine sw_s hT rfl rfl ?_)
  refine sw_cvR hT rfl (q2) rfl rfl rfl rfl (Nat.le_of_ble_eq_true rfl) ?_
  intro r2 z hz
  obtain ⟨rfl, -, -, -, hI2⟩ := hQ r2 z hz
  show SW _ mL_law 1925 _ [.long w, .long w] z
  repeat (refine sw_s hT rfl rfl ?_)
  refine sw_b hT rfl rfl (fun _ => ?_) (fun c => absurd (lc_cmp) c)
  exact K z hI2
