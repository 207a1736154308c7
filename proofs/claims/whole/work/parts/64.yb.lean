/-! the cases of the law's loop, on -/
set_option maxHeartbeats 1000000 in
theorem lc_10 {X : Ctx} {b L : Nat} {xs : Nat → Int32} (h : sCx X mL_law) (hL : lCx X b L xs) (hL2 : L ≤ 2560) (hr : rmOK X (cC X + 1) (sC X + 6)) {i : Nat} (hi : i + 5 ≤ L) {x : Hp} (hx : INVX x) (K : ∀ z, INVX z → SW (xc X (cC X + 1) (sC X + 6)) mL_law 1931 (L0 i) [] z) : SW X mL_law 955 (L0 i) [] x := by
  obtain ⟨n, ne, i', c', hI⟩ := hx
  have hfl := lc_fl hL
  have h' := xc_s h hr
  have hL' : lCx (xc X (cC X + 1) (sC X + 6)) b L xs := xc_l hL
  have j1 : vp_in (nI i + 1) L := lc_in hL2 hi (by omega : 1 < 5) (by decide)
  rcases op_steps (Y := xk X) hfl hI (xs (nI i + 1).toNatClampNeg) with hG | hB
  · obtain ⟨P, p6, hP⟩ := hG
    have hT := kL_law_c10 h
    repeat (refine sw_s hT rfl rfl ?_)
    refine sw_sld h hL dL_law_961 j1 ?_
    repeat (refine sw_s hT rfl rfl ?_)
    refine sw_csL (n := 3) h hL (wn_steps _ p6 (fun rr y hp => by obtain ⟨v, rfl, hv, -⟩ := hP rr y hp; obtain ⟨w, rfl⟩ := vk_i hv (Or.inl rfl); exact ⟨w, rfl⟩)) gl_281 gl_282 gl_252 gl_283 ⟨by decide +kernel, by decide +kernel, by decide +kernel⟩ ⟨by decide +kernel, by decide +kernel⟩ dL_law_963 (rest := []) rfl rfl (Nat.le_of_ble_eq_true rfl) hr ?_
    rintro _ _ ⟨rfl, v, y, hp, rfl⟩
    obtain ⟨v', hv', hok, hR⟩ := hP _ _ hp
    cases hv'
    obtain ⟨P2, q2, hQ⟩ := hR (y.1, y.2.1, u2 y.2.2 94 0 v.toInt64) ⟨rfl, fun a ha => rfl⟩
    have hT := kL_law_c10 h'
    show SW (xc X (cC X + 1) (sC X + 6)) mL_law 966 _ [.int 0] _
    repeat (refine sw_s hT rfl rfl ?_)
    refine sw_sld h' hL' dL_law_974 j1 ?_
    repeat (refine sw_s hT rfl rfl ?_)
    refine sw_cvR hT rfl (q2) rfl rfl rfl rfl (Nat.le_of_ble_eq_true rfl) ?_
    intro r2 z hz2
    obtain ⟨rfl, z0, zl, z95, hI2⟩ := hQ r2 z hz2
    show SW _ mL_law 978 _ [.int v] z
    repeat (refine sw_s hT rfl rfl ?_)
    refine sw_cv hT rfl (r_thrown _ z) rfl rfl rfl rfl (Nat.le_of_ble_eq_true rfl) ?_
    rw [z0]
    repeat (refine sw_s hT rfl rfl ?_)
    refine sw_b hT rfl rfl (fun _ => ?_) (fun c => absurd (rfl) c)
    repeat (refine sw_s hT rfl rfl ?_)
    refine sw_b hT rfl rfl (fun _ => ?_) (fun c => absurd (rfl) c)
    repeat (refine sw_s hT rfl rfl ?_)
    have zv : z.2.2 94 (0 : Int32).toNatClampNeg = v.toInt64 := by rw [zl]; exact u2_at y.2.2 94 0 v.toInt64
    refine sw_lald hT rfl rfl (in01) ?_
    rw [zv]
    repeat (refine sw_s hT rfl rfl ?_)
    refine sw_b hT rfl rfl (fun _ => ?_) (fun c => absurd (lc_cmp) c)
    repeat (first | (refine sw_at (n := 1931) rfl ?_; exact (sw_pick [2, 3, 4, 5, 6, 7] rfl (K z hI2))) | refine sw_s hT rfl rfl ?_)
  · have hT := kL_law_c10 h
    repeat (refine sw_s hT rfl rfl ?_)
    refine sw_sld h hL dL_law_961 j1 ?_
    repeat (refine sw_s hT rfl rfl ?_)
    refine sw_csL (n := 3) h hL (wt1_steps hfl _ hB.1) gl_281 gl_282 gl_252 gl_283 ⟨by decide +kernel, by decide +kernel, by decide +kernel⟩ ⟨by decide +kernel, by decide +kernel⟩ dL_law_963 (rest := []) rfl rfl (Nat.le_of_ble_eq_true rfl) hr ?_
    rintro _ _ ⟨rfl, rfl⟩
    obtain ⟨P2, q2, hQ⟩ := hB.2 _ mid_rf
    have hT := kL_law_c10 h'
    show SW (xc X (cC X + 1) (sC X + 6)) mL_law 966 _ [.int 1] _
    repeat (refine sw_s hT rfl rfl ?_)
    refine sw_sld h' hL' dL_law_974 j1 ?_
    repeat (refine sw_s hT rfl rfl ?_)
    refine sw_cvR hT rfl (q2) rfl rfl rfl rfl (Nat.le_of_ble_eq_true rfl) ?_
    intro r2 z hz2
    obtain ⟨rfl, z0, zl, z95, hI2⟩ := hQ r2 z hz2
    show SW _ mL_law 978 _ [.int 0] z
    repeat (refine sw_s hT rfl rfl ?_)
    refine sw_cv hT rfl (r_thrown _ z) rfl rfl rfl rfl (Nat.le_of_ble_eq_true rfl) ?_
    rw [z0]
    repeat (refine sw_s hT rfl rfl ?_)
    refine sw_b hT rfl rfl (fun _ => ?_) (fun c => absurd (rfl) c)
    repeat (refine sw_s hT rfl rfl ?_)
    refine sw_b hT rfl rfl (fun c => absurd c ((by decide))) (fun _ => ?_)
    repeat (first | (refine sw_at (n := 1931) rfl ?_; exact (sw_pick [2, 3, 4, 5, 6, 7] rfl (K z hI2))) | refine sw_s hT rfl rfl ?_)
set_option maxHeartbeats 1000000 in
theorem lc_11 {X : Ctx} {b L : Nat} {xs : Nat → Int32} (h : sCx X mL_law) (hL : lCx X b L xs) (hL2 : L ≤ 2560) (hr : rmOK X (cC X + 1) (sC X + 6)) {i : Nat} (hi : i + 5 ≤ L) {x : Hp} (hx : INVX x) (K : ∀ z, INVX z → SW (xc X (cC X + 1) (sC X + 6)) mL_law 1931 (L0 i) [] z) : SW X mL_law 1011 (L0 i) [] x := by
  obtain ⟨n, ne, i', c', hI⟩ := hx
  have hfl := lc_fl hL
  have h' := xc_s h hr
  have hL' : lCx (xc X (cC X + 1) (sC X + 6)) b L xs := xc_l hL
  have j1 : vp_in (nI i + 1) L := lc_in hL2 hi (by omega : 1 < 5) (by decide)
  rcases op_upstream (Y := xk X) hfl hI (xs (nI i + 1).toNatClampNeg) with hG | hB
  · obtain ⟨P, p6, hP⟩ := hG
    have hT := kL_law_c11 h
    repeat (refine sw_s hT rfl rfl ?_)
    refine sw_sld h hL dL_law_1017 j1 ?_
    repeat (refine sw_s hT rfl rfl ?_)
    refine sw_csL (n := 3) h hL (wn_upstream _ p6 (fun rr y hp => by obtain ⟨v, rfl, hv, -⟩ := hP rr y hp; obtain ⟨w, rfl⟩ := vk_i hv (Or.inl rfl); exact ⟨w, rfl⟩)) gl_284 gl_285 gl_252 gl_286 ⟨by decide +kernel, by decide +kernel, by decide +kernel⟩ ⟨by decide +kernel, by decide +kernel⟩ dL_law_1019 (rest := []) rfl rfl (Nat.le_of_ble_eq_true rfl) hr ?_
    rintro _ _ ⟨rfl, v, y, hp, rfl⟩
    obtain ⟨v', hv', hok, hR⟩ := hP _ _ hp
    cases hv'
    obtain ⟨P2, q2, hQ⟩ := hR (y.1, y.2.1, u2 y.2.2 94 0 v.toInt64) ⟨rfl, fun a ha => rfl⟩
    have hT := kL_law_c11 h'
    show SW (xc X (cC X + 1) (sC X + 6)) mL_law 1022 _ [.int 0] _
    repeat (refine sw_s hT rfl rfl ?_)
    refine sw_sld h' hL' dL_law_1030 j1 ?_
    repeat (refine sw_s hT rfl rfl ?_)
    refine sw_cvR hT rfl (q2) rfl rfl rfl rfl (Nat.le_of_ble_eq_true rfl) ?_
    intro r2 z hz2
    obtain ⟨rfl, z0, zl, z95, hI2⟩ := hQ r2 z hz2
    show SW _ mL_law 1034 _ [.int v] z
    repeat (refine sw_s hT rfl rfl ?_)
    refine sw_cv hT rfl (r_thrown _ z) rfl rfl rfl rfl (Nat.le_of_ble_eq_true rfl) ?_
    rw [z0]
    repeat (refine sw_s hT rfl rfl ?_)
    refine sw_b hT rfl rfl (fun _ => ?_) (fun c => absurd (rfl) c)
    repeat (refine sw_s hT rfl rfl ?_)
    refine sw_b hT rfl rfl (fun _ => ?_) (fun c => absurd (rfl) c)
    repeat (refine sw_s hT rfl rfl ?_)
    have zv : z.2.2 94 (0 : Int32).toNatClampNeg = v.toInt64 := by rw [zl]; exact u2_at y.2.2 94 0 v.toInt64
    refine sw_lald hT rfl rfl (in01) ?_
    rw [zv]
    repeat (refine sw_s hT rfl rfl ?_)
    refine sw_b hT rfl rfl (fun _ => ?_) (fun c => absurd (lc_cmp) c)
    repeat (first | (refine sw_at (n := 1931) rfl ?_; exact (sw_pick [2, 3, 4, 5, 6, 7] rfl (K z hI2))) | refine sw_s hT rfl rfl ?_)
  · have hT := kL_law_c11 h
    repeat (refine sw_s hT rfl rfl ?_)
    refine sw_sld h hL dL_law_1017 j1 ?_
    repeat (refine sw_s hT rfl rfl ?_)
    refine sw_csL (n := 3) h hL (wt1_upstream hfl _ hB.1) gl_284 gl_285 gl_252 gl_286 ⟨by decide +kernel, by decide +kernel, by decide +kernel⟩ ⟨by decide +kernel, by decide +kernel⟩ dL_law_1019 (rest := []) rfl rfl (Nat.le_of_ble_eq_true rfl) hr ?_
    rintro _ _ ⟨rfl, rfl⟩
    obtain ⟨P2, q2, hQ⟩ := hB.2 _ mid_rf
    have hT := kL_law_c11 h'
    show SW (xc X (cC X + 1) (sC X + 6)) mL_law 1022 _ [.int 1] _
    repeat (refine sw_s hT rfl rfl ?_)
    refine sw_sld h' hL' dL_law_1030 j1 ?_
    repeat (refine sw_s hT rfl rfl ?_)
    refine sw_cvR hT rfl (q2) rfl rfl rfl rfl (Nat.le_of_ble_eq_true rfl) ?_
    intro r2 z hz2
    obtain ⟨rfl, z0, zl, z95, hI2⟩ := hQ r2 z hz2
    show SW _ mL_law 1034 _ [.int 0] z
    repeat (refine sw_s hT rfl rfl ?_)
    refine sw_cv hT rfl (r_thrown _ z) rfl rfl rfl rfl (Nat.le_of_ble_eq_true rfl) ?_
    rw [z0]
    repeat (refine sw_s hT rfl rfl ?_)
    refine sw_b hT rfl rfl (fun _ => ?_) (fun c => absurd (rfl) c)
    repeat (refine sw_s hT rfl rfl ?_)
    refine sw_b hT rfl rfl (fun c => absurd c ((by decide))) (fun _ => ?_)
    repeat (first | (refine sw_at (n := 1931) rfl ?_; exact (sw_pick [2, 3, 4, 5, 6, 7] rfl (K z hI2))) | refine sw_s hT rfl rfl ?_)
set_option maxHeartbeats 1000000 in
theorem lc_12 {X : Ctx} {b L : Nat} {xs : Nat → Int32} (h : sCx X mL_law) (hL : lCx X b L xs) (hL2 : L ≤ 2560) (hr : rmOK X (cC X + 1) (sC X + 6)) {i : Nat} (hi : i + 5 ≤ L) {x : Hp} (hx : INVX x) (K : ∀ z, INVX z → SW (xc X (cC X + 1) (sC X + 6)) mL_law 1931 (L0 i) [] z) : SW X mL_law 1067 (L0 i) [] x := by
  obtain ⟨n, ne, i', c', hI⟩ := hx
  have hfl := lc_fl hL
  have h' := xc_s h hr
  have hL' : lCx (xc X (cC X + 1) (sC X + 6)) b L xs := xc_l hL
  have j1 : vp_in (nI i + 1) L := lc_in hL2 hi (by omega : 1 < 5) (by decide)
  have j2 : vp_in (nI i + 2) L := lc_in hL2 hi (by omega : 2 < 5) (by decide)
  rcases op_operatingTime (Y := xk X) hfl hI (xs (nI i + 1).toNatClampNeg) (arD (xs (nI i + 2).toNatClampNeg)) (ar_ok _).2 with hG | hB
  · obtain ⟨P, p6, hP⟩ := hG
    have hT := kL_law_c12 h
    repeat (refine sw_s hT rfl rfl ?_)
    refine sw_sld h hL dL_law_1073 j1 ?_
    repeat (refine sw_s hT rfl rfl ?_)
    refine sw_sld h hL dL_law_1079 j2 ?_
    repeat (refine sw_s hT rfl rfl ?_)
    refine sw_dmul hT rfl ((ar_ok _).1) ?_
    repeat (refine sw_s hT rfl rfl ?_)
    refine sw_csL (n := 4) h hL (wn_operatingTime _ _ p6 (fun rr y hp => by obtain ⟨v, rfl, hv, -⟩ := hP rr y hp; obtain ⟨w, rfl, -⟩ := vk_d hv rfl; exact ⟨w, rfl⟩)) gl_287 gl_288 gl_252 gl_289 ⟨by decide +kernel, by decide +kernel, by decide +kernel⟩ ⟨by decide +kernel, by decide +kernel⟩ dL_law_1087 (rest := []) rfl rfl (Nat.le_of_ble_eq_true rfl) hr ?_
    rintro _ _ ⟨rfl, v, y, hp, rfl⟩
    obtain ⟨v', hv', hok, hR⟩ := hP _ _ hp
    cases hv'
    obtain ⟨P2, q2, hQ⟩ := hR (y.1, u2 y.2.1 95 0 v, y.2.2) ⟨rfl, fun a ha => u2_ne ha⟩
    have hT := kL_law_c12 h'
    show SW (xc X (cC X + 1) (sC X + 6)) mL_law 1090 _ [.int 0] _
    repeat (refine sw_s hT rfl rfl ?_)
    refine sw_sld h' hL' dL_law_1098 j1 ?_
    repeat (refine sw_s hT rfl rfl ?_)
    refine sw_sld h' hL' dL_law_1104 j2 ?_
    repeat (refine sw_s hT rfl rfl ?_)
    refine sw_dmul hT rfl ((ar_ok _).1) ?_
    repeat (refine sw_s hT rfl rfl ?_)
    refine sw_cvR hT rfl (q2) rfl rfl rfl rfl (Nat.le_of_ble_eq_true rfl) ?_
    intro r2 z hz2
    obtain ⟨rfl, z0, zl, z95, hI2⟩ := hQ r2 z hz2
    show SW _ mL_law 1113 _ [.double v] z
    repeat (refine sw_s hT rfl rfl ?_)
    refine sw_cv hT rfl (r_thrown _ z) rfl rfl rfl rfl (Nat.le_of_ble_eq_true rfl) ?_
    rw [z0]
    repeat (refine sw_s hT rfl rfl ?_)
    refine sw_b hT rfl rfl (fun _ => ?_) (fun c => absurd (rfl) c)
    repeat (refine sw_s hT rfl rfl ?_)
    refine sw_b hT rfl rfl (fun _ => ?_) (fun c => absurd (rfl) c)
    repeat (refine sw_s hT rfl rfl ?_)
    have zv : z.2.1 95 (0 : Int32).toNatClampNeg = v := by rw [z95]; exact u2_at y.2.1 95 0 v
    refine sw_dald hT rfl rfl (in01) ?_
    rw [zv]
    repeat (refine sw_s hT rfl rfl ?_)
    refine sw_b hT rfl rfl (fun _ => ?_) (fun c => absurd ((zb_eq hok.2)) c)
    repeat (first | (refine sw_at (n := 1931) rfl ?_; exact (sw_pick [2, 3, 4, 5, 6, 7] rfl (K z hI2))) | refine sw_s hT rfl rfl ?_)
  · have hT := kL_law_c12 h
    repeat (refine sw_s hT rfl rfl ?_)
    refine sw_sld h hL dL_law_1073 j1 ?_
    repeat (refine sw_s hT rfl rfl ?_)
    refine sw_sld h hL dL_law_1079 j2 ?_
    repeat (refine sw_s hT rfl rfl ?_)
    refine sw_dmul hT rfl ((ar_ok _).1) ?_
    repeat (refine sw_s hT rfl rfl ?_)
    refine sw_csL (n := 4) h hL (wt1_operatingTime hfl _ _ hB.1) gl_287 gl_288 gl_252 gl_289 ⟨by decide +kernel, by decide +kernel, by decide +kernel⟩ ⟨by decide +kernel, by decide +kernel⟩ dL_law_1087 (rest := []) rfl rfl (Nat.le_of_ble_eq_true rfl) hr ?_
    rintro _ _ ⟨rfl, rfl⟩
    obtain ⟨P2, q2, hQ⟩ := hB.2 _ mid_rf
    have hT := kL_law_c12 h'
    show SW (xc X (cC X + 1) (sC X + 6)) mL_law 1090 _ [.int 1] _
    repeat (refine sw_s hT rfl rfl ?_)
    refine sw_sld h' hL' dL_law_1098 j1 ?_
    repeat (refine sw_s hT rfl rfl ?_)
    refine sw_sld h' hL' dL_law_1104 j2 ?_
    repeat (refine sw_s hT rfl rfl ?_)
    refine sw_dmul hT rfl ((ar_ok _).1) ?_
    repeat (refine sw_s hT rfl rfl ?_)
    refine sw_cvR hT rfl (q2) rfl rfl rfl rfl (Nat.le_of_ble_eq_true rfl) ?_
    intro r2 z hz2
    obtain ⟨rfl, z0, zl, z95, hI2⟩ := hQ r2 z hz2
    show SW _ mL_law 1113 _ [.double 0] z
    repeat (refine sw_s hT rfl rfl ?_)
    refine sw_cv hT rfl (r_thrown _ z) rfl rfl rfl rfl (Nat.le_of_ble_eq_true rfl) ?_
    rw [z0]
    repeat (refine sw_s hT rfl rfl ?_)
    refine sw_b hT rfl rfl (fun _ => ?_) (fun c => absurd (rfl) c)
    repeat (refine sw_s hT rfl rfl ?_)
    refine sw_b hT rfl rfl (fun c => absurd c ((by decide))) (fun _ => ?_)
    repeat (first | (refine sw_at (n := 1931) rfl ?_; exact (sw_pick [2, 3, 4, 5, 6, 7] rfl (K z hI2))) | refine sw_s hT rfl rfl ?_)
set_option maxHeartbeats 1000000 in
theorem lc_13 {X : Ctx} {b L : Nat} {xs : Nat → Int32} (h : sCx X mL_law) (hL : lCx X b L xs) (hL2 : L ≤ 2560) (hr : rmOK X (cC X + 1) (sC X + 6)) {i : Nat} (hi : i + 5 ≤ L) {x : Hp} (hx : INVX x) (K : ∀ z, INVX z → SW (xc X (cC X + 1) (sC X + 6)) mL_law 1931 (L0 i) [] z) : SW X mL_law 1166 (L0 i) [] x := by
  obtain ⟨n, ne, i', c', hI⟩ := hx
  have hfl := lc_fl hL
  have h' := xc_s h hr
  have hL' : lCx (xc X (cC X + 1) (sC X + 6)) b L xs := xc_l hL
  have j1 : vp_in (nI i + 1) L := lc_in hL2 hi (by omega : 1 < 5) (by decide)
  rcases op_sensitivity (Y := xk X) hfl hI (xs (nI i + 1).toNatClampNeg) with hG | hB
  · obtain ⟨P, p6, hP⟩ := hG
    have hT := kL_law_c13 h
    repeat (refine sw_s hT rfl rfl ?_)
    refine sw_sld h hL dL_law_1172 j1 ?_
    repeat (refine sw_s hT rfl rfl ?_)
    refine sw_csL (n := 3) h hL (wn_sensitivity _ p6 (fun rr y hp => by obtain ⟨v, rfl, hv, -⟩ := hP rr y hp; obtain ⟨w, rfl, -⟩ := vk_d hv rfl; exact ⟨w, rfl⟩)) gl_290 gl_291 gl_252 gl_292 ⟨by decide +kernel, by decide +kernel, by decide +kernel⟩ ⟨by decide +kernel, by decide +kernel⟩ dL_law_1175 (rest := []) rfl rfl (Nat.le_of_ble_eq_true rfl) hr ?_
    rintro _ _ ⟨rfl, v, y, hp, rfl⟩
    obtain ⟨v', hv', hok, hR⟩ := hP _ _ hp
    cases hv'
    obtain ⟨P2, q2, hQ⟩ := hR (y.1, u2 y.2.1 95 0 v, y.2.2) ⟨rfl, fun a ha => u2_ne ha⟩
    have hT := kL_law_c13 h'
    show SW (xc X (cC X + 1) (sC X + 6)) mL_law 1178 _ [.int 0] _
    repeat (refine sw_s hT rfl rfl ?_)
    refine sw_sld h' hL' dL_law_1186 j1 ?_
    repeat (refine sw_s hT rfl rfl ?_)
    refine sw_cvR hT rfl (q2) rfl rfl rfl rfl (Nat.le_of_ble_eq_true rfl) ?_
    intro r2 z hz2
    obtain ⟨rfl, z0, zl, z95, hI2⟩ := hQ r2 z hz2
    show SW _ mL_law 1190 _ [.double v] z
    repeat (refine sw_s hT rfl rfl ?_)
    refine sw_cv hT rfl (r_thrown _ z) rfl rfl rfl rfl (Nat.le_of_ble_eq_true rfl) ?_
    rw [z0]
    repeat (refine sw_s hT rfl rfl ?_)
    refine sw_b hT rfl rfl (fun _ => ?_) (fun c => absurd (rfl) c)
    repeat (refine sw_s hT rfl rfl ?_)
    refine sw_b hT rfl rfl (fun _ => ?_) (fun c => absurd (rfl) c)
    repeat (refine sw_s hT rfl rfl ?_)
    have zv : z.2.1 95 (0 : Int32).toNatClampNeg = v := by rw [z95]; exact u2_at y.2.1 95 0 v
    refine sw_dald hT rfl rfl (in01) ?_
    rw [zv]
    repeat (refine sw_s hT rfl rfl ?_)
    refine sw_b hT rfl rfl (fun _ => ?_) (fun c => absurd ((zb_eq hok.2)) c)
    repeat (first | (refine sw_at (n := 1931) rfl ?_; exact (sw_pick [2, 3, 4, 5, 6, 7] rfl (K z hI2))) | refine sw_s hT rfl rfl ?_)
  · have hT := kL_law_c13 h
    repeat (refine sw_s hT rfl rfl ?_)
    refine sw_sld h hL dL_law_1172 j1 ?_
    repeat (refine sw_s hT rfl rfl ?_)
    refine sw_csL (n := 3) h hL (wt1_sensitivity hfl _ hB.1) gl_290 gl_291 gl_252 gl_292 ⟨by decide +kernel, by decide +kernel, by decide +kernel⟩ ⟨by decide +kernel, by decide +kernel⟩ dL_law_1175 (rest := []) rfl rfl (Nat.le_of_ble_eq_true rfl) hr ?_
    rintro _ _ ⟨rfl, rfl⟩
    obtain ⟨P2, q2, hQ⟩ := hB.2 _ mid_rf
    have hT := kL_law_c13 h'
    show SW (xc X (cC X + 1) (sC X + 6)) mL_law 1178 _ [.int 1] _
    repeat (refine sw_s hT rfl rfl ?_)
    refine sw_sld h' hL' dL_law_1186 j1 ?_
    repeat (refine sw_s hT rfl rfl ?_)
    refine sw_cvR hT rfl (q2) rfl rfl rfl rfl (Nat.le_of_ble_eq_true rfl) ?_
    intro r2 z hz2
    obtain ⟨rfl, z0, zl, z95, hI2⟩ := hQ r2 z hz2
    show SW _ mL_law 1190 _ [.double 0] z
    repeat (refine sw_s hT rfl rfl ?_)
    refine sw_cv hT rfl (r_thrown _ z) rfl rfl rfl rfl (Nat.le_of_ble_eq_true rfl) ?_
    rw [z0]
    repeat (refine sw_s hT rfl rfl ?_)
    refine sw_b hT rfl rfl (fun _ => ?_) (fun c => absurd (rfl) c)
    repeat (refine sw_s hT rfl rfl ?_)
    refine sw_b hT rfl rfl (fun c => absurd c ((by decide))) (fun _ => ?_)
    repeat (first | (refine sw_at (n := 1931) rfl ?_; exact (sw_pick [2, 3, 4, 5, 6, 7] rfl (K z hI2))) | refine sw_s hT rfl rfl ?_)
set_option maxHeartbeats 1000000 in
theorem lc_14 {X : Ctx} {b L : Nat} {xs : Nat → Int32} (h : sCx X mL_law) (hL : lCx X b L xs) (hL2 : L ≤ 2560) (hr : rmOK X (cC X + 1) (sC X + 6)) {i : Nat} (hi : i + 5 ≤ L) {x : Hp} (hx : INVX x) (K : ∀ z, INVX z → SW (xc X (cC X + 1) (sC X + 6)) mL_law 1931 (L0 i) [] z) : SW X mL_law 1243 (L0 i) [] x := by
  obtain ⟨n, ne, i', c', hI⟩ := hx
  have hfl := lc_fl hL
  have h' := xc_s h hr
  have hL' : lCx (xc X (cC X + 1) (sC X + 6)) b L xs := xc_l hL
  have j1 : vp_in (nI i + 1) L := lc_in hL2 hi (by omega : 1 < 5) (by decide)
  rcases op_setMargin (Y := xk X) hfl hI (arD (xs (nI i + 1).toNatClampNeg)) with hG | hB
  · obtain ⟨P, p6, hP⟩ := hG
    have hT := kL_law_c14 h
    repeat (refine sw_s hT rfl rfl ?_)
    refine sw_sld h hL dL_law_1249 j1 ?_
    repeat (refine sw_s hT rfl rfl ?_)
    refine sw_dmul hT rfl ((ar_ok _).1) ?_
    repeat (refine sw_s hT rfl rfl ?_)
    refine sw_csL (n := 3) h hL (wn_setMargin _ p6 (fun rr y hp => by obtain ⟨v, rfl, hv, -⟩ := hP rr y hp; obtain ⟨w, rfl, -⟩ := vk_d hv rfl; exact ⟨w, rfl⟩)) gl_293 gl_294 gl_252 gl_295 ⟨by decide +kernel, by decide +kernel, by decide +kernel⟩ ⟨by decide +kernel, by decide +kernel⟩ dL_law_1257 (rest := []) rfl rfl (Nat.le_of_ble_eq_true rfl) hr ?_
    rintro _ _ ⟨rfl, v, y, hp, rfl⟩
    obtain ⟨v', hv', hok, hR⟩ := hP _ _ hp
    cases hv'
    obtain ⟨P2, q2, hQ⟩ := hR (y.1, u2 y.2.1 95 0 v, y.2.2) ⟨rfl, fun a ha => u2_ne ha⟩
    have hT := kL_law_c14 h'
    show SW (xc X (cC X + 1) (sC X + 6)) mL_law 1260 _ [.int 0] _
    repeat (refine sw_s hT rfl rfl ?_)
    refine sw_sld h' hL' dL_law_1268 j1 ?_
    repeat (refine sw_s hT rfl rfl ?_)
    refine sw_dmul hT rfl ((ar_ok _).1) ?_
    repeat (refine sw_s hT rfl rfl ?_)
    refine sw_cvR hT rfl (q2) rfl rfl rfl rfl (Nat.le_of_ble_eq_true rfl) ?_
    intro r2 z hz2
    obtain ⟨rfl, z0, zl, z95, hI2⟩ := hQ r2 z hz2
    show SW _ mL_law 1277 _ [.double v] z
    repeat (refine sw_s hT rfl rfl ?_)
    refine sw_cv hT rfl (r_thrown _ z) rfl rfl rfl rfl (Nat.le_of_ble_eq_true rfl) ?_
    rw [z0]
    repeat (refine sw_s hT rfl rfl ?_)
    refine sw_b hT rfl rfl (fun _ => ?_) (fun c => absurd (rfl) c)
    repeat (refine sw_s hT rfl rfl ?_)
    refine sw_b hT rfl rfl (fun _ => ?_) (fun c => absurd (rfl) c)
    repeat (refine sw_s hT rfl rfl ?_)
    have zv : z.2.1 95 (0 : Int32).toNatClampNeg = v := by rw [z95]; exact u2_at y.2.1 95 0 v
    refine sw_dald hT rfl rfl (in01) ?_
    rw [zv]
    repeat (refine sw_s hT rfl rfl ?_)
    refine sw_b hT rfl rfl (fun _ => ?_) (fun c => absurd ((zb_eq hok.2)) c)
    repeat (first | (refine sw_at (n := 1931) rfl ?_; exact (sw_pick [2, 3, 4, 5, 6, 7] rfl (K z hI2))) | refine sw_s hT rfl rfl ?_)
  · have hT := kL_law_c14 h
    repeat (refine sw_s hT rfl rfl ?_)
    refine sw_sld h hL dL_law_1249 j1 ?_
    repeat (refine sw_s hT rfl rfl ?_)
    refine sw_dmul hT rfl ((ar_ok _).1) ?_
    repeat (refine sw_s hT rfl rfl ?_)
    refine sw_csL (n := 3) h hL (wt1_setMargin hfl _ hB.1) gl_293 gl_294 gl_252 gl_295 ⟨by decide +kernel, by decide +kernel, by decide +kernel⟩ ⟨by decide +kernel, by decide +kernel⟩ dL_law_1257 (rest := []) rfl rfl (Nat.le_of_ble_eq_true rfl) hr ?_
    rintro _ _ ⟨rfl, rfl⟩
    obtain ⟨P2, q2, hQ⟩ := hB.2 _ mid_rf
    have hT := kL_law_c14 h'
    show SW (xc X (cC X + 1) (sC X + 6)) mL_law 1260 _ [.int 1] _
    repeat (refine sw_s hT rfl rfl ?_)
    refine sw_sld h' hL' dL_law_1268 j1 ?_
    repeat (refine sw_s hT rfl rfl ?_)
    refine sw_dmul hT rfl ((ar_ok _).1) ?_
    repeat (refine sw_s hT rfl rfl ?_)
    refine sw_cvR hT rfl (q2) rfl rfl rfl rfl (Nat.le_of_ble_eq_true rfl) ?_
    intro r2 z hz2
    obtain ⟨rfl, z0, zl, z95, hI2⟩ := hQ r2 z hz2
    show SW _ mL_law 1277 _ [.double 0] z
    repeat (refine sw_s hT rfl rfl ?_)
    refine sw_cv hT rfl (r_thrown _ z) rfl rfl rfl rfl (Nat.le_of_ble_eq_true rfl) ?_
    rw [z0]
    repeat (refine sw_s hT rfl rfl ?_)
    refine sw_b hT rfl rfl (fun _ => ?_) (fun c => absurd (rfl) c)
    repeat (refine sw_s hT rfl rfl ?_)
    refine sw_b hT rfl rfl (fun c => absurd c ((by decide))) (fun _ => ?_)
    repeat (first | (refine sw_at (n := 1931) rfl ?_; exact (sw_pick [2, 3, 4, 5, 6, 7] rfl (K z hI2))) | refine sw_s hT rfl rfl ?_)
set_option maxHeartbeats 1000000 in
theorem lc_15 {X : Ctx} {b L : Nat} {xs : Nat → Int32} (h : sCx X mL_law) (hL : lCx X b L xs) (hL2 : L ≤ 2560) (hr : rmOK X (cC X + 1) (sC X + 6)) {i : Nat} (hi : i + 5 ≤ L) {x : Hp} (hx : INVX x) (K : ∀ z, INVX z → SW (xc X (cC X + 1) (sC X + 6)) mL_law 1931 (L0 i) [] z) : SW X mL_law 1330 (L0 i) [] x := by
  obtain ⟨n, ne, i', c', hI⟩ := hx
  have hfl := lc_fl hL
  have h' := xc_s h hr
  have hL' : lCx (xc X (cC X + 1) (sC X + 6)) b L xs := xc_l hL
  have j1 : vp_in (nI i + 1) L := lc_in hL2 hi (by omega : 1 < 5) (by decide)
  have j2 : vp_in (nI i + 2) L := lc_in hL2 hi (by omega : 2 < 5) (by decide)
  rcases op_margin (Y := xk X) hfl hI (xs (nI i + 1).toNatClampNeg) (xs (nI i + 2).toNatClampNeg) with hG | hB | hB
  · obtain ⟨P, p6, hP⟩ := hG
    have hT := kL_law_c15 h
    repeat (refine sw_s hT rfl rfl ?_)
    refine sw_sld h hL dL_law_1336 j1 ?_
    repeat (refine sw_s hT rfl rfl ?_)
    refine sw_sld h hL dL_law_1342 j2 ?_
    repeat (refine sw_s hT rfl rfl ?_)
    refine sw_csL (n := 4) h hL (wn_margin _ _ p6 (fun rr y hp => by obtain ⟨v, rfl, hv, -⟩ := hP rr y hp; obtain ⟨w, rfl, -⟩ := vk_d hv rfl; exact ⟨w, rfl⟩)) gl_296 gl_297 gl_252 gl_298 ⟨by decide +kernel, by decide +kernel, by decide +kernel⟩ ⟨by decide +kernel, by decide +kernel⟩ dL_law_1345 (rest := []) rfl rfl (Nat.le_of_ble_eq_true rfl) hr ?_
    rintro _ _ ⟨rfl, v, y, hp, rfl⟩
    obtain ⟨v', hv', hok, hR⟩ := hP _ _ hp
    cases hv'
    obtain ⟨P2, q2, hQ⟩ := hR (y.1, u2 y.2.1 95 0 v, y.2.2) ⟨rfl, fun a ha => u2_ne ha⟩
    have hT := kL_law_c15 h'
    show SW (xc X (cC X + 1) (sC X + 6)) mL_law 1348 _ [.int 0] _
    repeat (refine sw_s hT rfl rfl ?_)
    refine sw_sld h' hL' dL_law_1356 j1 ?_
    repeat (refine sw_s hT rfl rfl ?_)
    refine sw_sld h' hL' dL_law_1362 j2 ?_
    repeat (refine sw_s hT rfl rfl ?_)
    refine sw_cvR hT rfl (q2) rfl rfl rfl rfl (Nat.le_of_ble_eq_true rfl) ?_
    intro r2 z hz2
    obtain ⟨rfl, z0, zl, z95, hI2⟩ := hQ r2 z hz2
    show SW _ mL_law 1366 _ [.double v] z
    repeat (refine sw_s hT rfl rfl ?_)
    refine sw_cv hT rfl (r_thrown _ z) rfl rfl rfl rfl (Nat.le_of_ble_eq_true rfl) ?_
    rw [z0]
    repeat (refine sw_s hT rfl rfl ?_)
    refine sw_b hT rfl rfl (fun _ => ?_) (fun c => absurd (rfl) c)
    repeat (refine sw_s hT rfl rfl ?_)
    refine sw_b hT rfl rfl (fun _ => ?_) (fun c => absurd (rfl) c)
    repeat (refine sw_s hT rfl rfl ?_)
    have zv : z.2.1 95 (0 : Int32).toNatClampNeg = v := by rw [z95]; exact u2_at y.2.1 95 0 v
    refine sw_dald hT rfl rfl (in01) ?_
    rw [zv]
    repeat (refine sw_s hT rfl rfl ?_)
    refine sw_b hT rfl rfl (fun _ => ?_) (fun c => absurd ((zb_eq hok.2)) c)
    repeat (first | (refine sw_at (n := 1931) rfl ?_; exact (sw_pick [2, 3, 4, 5, 6, 7] rfl (K z hI2))) | refine sw_s hT rfl rfl ?_)
  · have hT := kL_law_c15 h
    repeat (refine sw_s hT rfl rfl ?_)
    refine sw_sld h hL dL_law_1336 j1 ?_
    repeat (refine sw_s hT rfl rfl ?_)
    refine sw_sld h hL dL_law_1342 j2 ?_
    repeat (refine sw_s hT rfl rfl ?_)
    refine sw_csL (n := 4) h hL (wt1_margin hfl _ _ hB.1) gl_296 gl_297 gl_252 gl_298 ⟨by decide +kernel, by decide +kernel, by decide +kernel⟩ ⟨by decide +kernel, by decide +kernel⟩ dL_law_1345 (rest := []) rfl rfl (Nat.le_of_ble_eq_true rfl) hr ?_
    rintro _ _ ⟨rfl, rfl⟩
    obtain ⟨P2, q2, hQ⟩ := hB.2 _ mid_rf
    have hT := kL_law_c15 h'
    show SW (xc X (cC X + 1) (sC X + 6)) mL_law 1348 _ [.int 1] _
    repeat (refine sw_s hT rfl rfl ?_)
    refine sw_sld h' hL' dL_law_1356 j1 ?_
    repeat (refine sw_s hT rfl rfl ?_)
    refine sw_sld h' hL' dL_law_1362 j2 ?_
    repeat (refine sw_s hT rfl rfl ?_)
    refine sw_cvR hT rfl (q2) rfl rfl rfl rfl (Nat.le_of_ble_eq_true rfl) ?_
    intro r2 z hz2
    obtain ⟨rfl, z0, zl, z95, hI2⟩ := hQ r2 z hz2
    show SW _ mL_law 1366 _ [.double 0] z
    repeat (refine sw_s hT rfl rfl ?_)
    refine sw_cv hT rfl (r_thrown _ z) rfl rfl rfl rfl (Nat.le_of_ble_eq_true rfl) ?_
    rw [z0]
    repeat (refine sw_s hT rfl rfl ?_)
    refine sw_b hT rfl rfl (fun _ => ?_) (fun c => absurd (rfl) c)
    repeat (refine sw_s hT rfl rfl ?_)
    refine sw_b hT rfl rfl (fun c => absurd c ((by decide))) (fun _ => ?_)
    repeat (first | (refine sw_at (n := 1931) rfl ?_; exact (sw_pick [2, 3, 4, 5, 6, 7] rfl (K z hI2))) | refine sw_s hT rfl rfl ?_)
  · have hT := kL_law_c15 h
    repeat (refine sw_s hT rfl rfl ?_)
    refine sw_sld h hL dL_law_1336 j1 ?_
    repeat (refine sw_s hT rfl rfl ?_)
    refine sw_sld h hL dL_law_1342 j2 ?_
    repeat (refine sw_s hT rfl rfl ?_)
    refine sw_csL (n := 4) h hL (wt2_margin hfl _ _ hB.1) gl_296 gl_297 gl_252 gl_298 ⟨by decide +kernel, by decide +kernel, by decide +kernel⟩ ⟨by decide +kernel, by decide +kernel⟩ dL_law_1345 (rest := []) rfl rfl (Nat.le_of_ble_eq_true rfl) hr ?_
    rintro _ _ ⟨rfl, rfl⟩
    obtain ⟨P2, q2, hQ⟩ := hB.2 _ mid_rf
    have hT := kL_law_c15 h'
    show SW (xc X (cC X + 1) (sC X + 6)) mL_law 1348 _ [.int 2] _
    repeat (refine sw_s hT rfl rfl ?_)
    refine sw_sld h' hL' dL_law_1356 j1 ?_
    repeat (refine sw_s hT rfl rfl ?_)
    refine sw_sld h' hL' dL_law_1362 j2 ?_
    repeat (refine sw_s hT rfl rfl ?_)
    refine sw_cvR hT rfl (q2) rfl rfl rfl rfl (Nat.le_of_ble_eq_true rfl) ?_
    intro r2 z hz2
    obtain ⟨rfl, z0, zl, z95, hI2⟩ := hQ r2 z hz2
    show SW _ mL_law 1366 _ [.double 0] z
    repeat (refine sw_s hT rfl rfl ?_)
    refine sw_cv hT rfl (r_thrown _ z) rfl rfl rfl rfl (Nat.le_of_ble_eq_true rfl) ?_
    rw [z0]
    repeat (refine sw_s hT rfl rfl ?_)
    refine sw_b hT rfl rfl (fun _ => ?_) (fun c => absurd (rfl) c)
    repeat (refine sw_s hT rfl rfl ?_)
    refine sw_b hT rfl rfl (fun c => absurd c ((by decide))) (fun _ => ?_)
    repeat (first | (refine sw_at (n := 1931) rfl ?_; exact (sw_pick [2, 3, 4, 5, 6, 7] rfl (K z hI2))) | refine sw_s hT rfl rfl ?_)
set_option maxHeartbeats 1000000 in
theorem lc_16 {X : Ctx} {b L : Nat} {xs : Nat → Int32} (h : sCx X mL_law) (hL : lCx X b L xs) (hL2 : L ≤ 2560) (hr : rmOK X (cC X + 1) (sC X + 6)) {i : Nat} (hi : i + 5 ≤ L) {x : Hp} (hx : INVX x) (K : ∀ z, INVX z → SW (xc X (cC X + 1) (sC X + 6)) mL_law 1931 (L0 i) [] z) : SW X mL_law 1419 (L0 i) [] x := by
  obtain ⟨n, ne, i', c', hI⟩ := hx
  have hfl := lc_fl hL
  have h' := xc_s h hr
  have hL' : lCx (xc X (cC X + 1) (sC X + 6)) b L xs := xc_l hL
  obtain ⟨P, p6, hP⟩ := op_violationCount (Y := xk X) hI
  refine SW_widen (k := cC X + 1) (n := sC X + 6) (Nat.le_add_right _ _) (Nat.le_add_right _ _) ?_
  have hT := kL_law_c16 h'
  repeat (refine sw_s hT rfl rfl ?_)
  refine sw_cvR hT rfl (p6) rfl rfl rfl rfl (Nat.le_of_ble_eq_true rfl) ?_
  intro rr y hp
  obtain ⟨v, rfl, hv, hR⟩ := hP rr y hp
  obtain ⟨w, rfl⟩ := vk_i hv (Or.inl rfl)
  obtain ⟨P2, q2, hQ⟩ := hR y mid_rf
  show SW _ mL_law 1423 _ [.int w] y
  repeat (refine sw_s hT rfl rfl ?_)
  refine sw_cvR hT rfl (q2) rfl rfl rfl rfl (Nat.le_of_ble_eq_true rfl) ?_
  intro r2 z hz
  obtain ⟨rfl, -, -, -, hI2⟩ := hQ r2 z hz
  show SW _ mL_law 1427 _ [.int w, .int w] z
  refine sw_b hT rfl rfl (fun _ => ?_) (fun c => absurd (rfl) c)
  exact K z hI2
set_option maxHeartbeats 1000000 in
theorem lc_17 {X : Ctx} {b L : Nat} {xs : Nat → Int32} (h : sCx X mL_law) (hL : lCx X b L xs) (hL2 : L ≤ 2560) (hr : rmOK X (cC X + 1) (sC X + 6)) {i : Nat} (hi : i + 5 ≤ L) {x : Hp} (hx : INVX x) (K : ∀ z, INVX z → SW (xc X (cC X + 1) (sC X + 6)) mL_law 1931 (L0 i) [] z) : SW X mL_law 1432 (L0 i) [] x := by
  obtain ⟨n, ne, i', c', hI⟩ := hx
  have hfl := lc_fl hL
  have h' := xc_s h hr
  have hL' : lCx (xc X (cC X + 1) (sC X + 6)) b L xs := xc_l hL
  have j1 : vp_in (nI i + 1) L := lc_in hL2 hi (by omega : 1 < 5) (by decide)
  rcases op_violation (Y := xk X) hfl hI (xs (nI i + 1).toNatClampNeg) with hG | hB
  · obtain ⟨P, p6, hP⟩ := hG
    have hT := kL_law_c17 h
    repeat (refine sw_s hT rfl rfl ?_)
    refine sw_sld h hL dL_law_1438 j1 ?_
    repeat (refine sw_s hT rfl rfl ?_)
    refine sw_csL (n := 3) h hL (wn_violation _ p6 (fun rr y hp => by obtain ⟨v, rfl, hv, -⟩ := hP rr y hp; obtain ⟨w, rfl⟩ := vk_i hv (Or.inl rfl); exact ⟨w, rfl⟩)) gl_299 gl_300 gl_252 gl_301 ⟨by decide +kernel, by decide +kernel, by decide +kernel⟩ ⟨by decide +kernel, by decide +kernel⟩ dL_law_1440 (rest := []) rfl rfl (Nat.le_of_ble_eq_true rfl) hr ?_
    rintro _ _ ⟨rfl, v, y, hp, rfl⟩
    obtain ⟨v', hv', hok, hR⟩ := hP _ _ hp
    cases hv'
    obtain ⟨P2, q2, hQ⟩ := hR (y.1, y.2.1, u2 y.2.2 94 0 v.toInt64) ⟨rfl, fun a ha => rfl⟩
    have hT := kL_law_c17 h'
    show SW (xc X (cC X + 1) (sC X + 6)) mL_law 1443 _ [.int 0] _
    repeat (refine sw_s hT rfl rfl ?_)
    refine sw_sld h' hL' dL_law_1451 j1 ?_
    repeat (refine sw_s hT rfl rfl ?_)
    refine sw_cvR hT rfl (q2) rfl rfl rfl rfl (Nat.le_of_ble_eq_true rfl) ?_
    intro r2 z hz2
    obtain ⟨rfl, z0, zl, z95, hI2⟩ := hQ r2 z hz2
    show SW _ mL_law 1455 _ [.int v] z
    repeat (refine sw_s hT rfl rfl ?_)
    refine sw_cv hT rfl (r_thrown _ z) rfl rfl rfl rfl (Nat.le_of_ble_eq_true rfl) ?_
    rw [z0]
    repeat (refine sw_s hT rfl rfl ?_)
    refine sw_b hT rfl rfl (fun _ => ?_) (fun c => absurd (rfl) c)
    repeat (refine sw_s hT rfl rfl ?_)
    refine sw_b hT rfl rfl (fun _ => ?_) (fun c => absurd (rfl) c)
    repeat (refine sw_s hT rfl rfl ?_)
    have zv : z.2.2 94 (0 : Int32).toNatClampNeg = v.toInt64 := by rw [zl]; exact u2_at y.2.2 94 0 v.toInt64
    refine sw_lald hT rfl rfl (in01) ?_
    rw [zv]
    repeat (refine sw_s hT rfl rfl ?_)
    refine sw_b hT rfl rfl (fun _ => ?_) (fun c => absurd (lc_cmp) c)
    repeat (first | (refine sw_at (n := 1931) rfl ?_; exact (sw_pick [2, 3, 4, 5, 6, 7] rfl (K z hI2))) | refine sw_s hT rfl rfl ?_)
  · have hT := kL_law_c17 h
    repeat (refine sw_s hT rfl rfl ?_)
    refine sw_sld h hL dL_law_1438 j1 ?_
    repeat (refine sw_s hT rfl rfl ?_)
    refine sw_csL (n := 3) h hL (wt1_violation hfl _ hB.1) gl_299 gl_300 gl_252 gl_301 ⟨by decide +kernel, by decide +kernel, by decide +kernel⟩ ⟨by decide +kernel, by decide +kernel⟩ dL_law_1440 (rest := []) rfl rfl (Nat.le_of_ble_eq_true rfl) hr ?_
    rintro _ _ ⟨rfl, rfl⟩
    obtain ⟨P2, q2, hQ⟩ := hB.2 _ mid_rf
    have hT := kL_law_c17 h'
    show SW (xc X (cC X + 1) (sC X + 6)) mL_law 1443 _ [.int 1] _
    repeat (refine sw_s hT rfl rfl ?_)
    refine sw_sld h' hL' dL_law_1451 j1 ?_
    repeat (refine sw_s hT rfl rfl ?_)
    refine sw_cvR hT rfl (q2) rfl rfl rfl rfl (Nat.le_of_ble_eq_true rfl) ?_
    intro r2 z hz2
    obtain ⟨rfl, z0, zl, z95, hI2⟩ := hQ r2 z hz2
    show SW _ mL_law 1455 _ [.int 0] z
    repeat (refine sw_s hT rfl rfl ?_)
    refine sw_cv hT rfl (r_thrown _ z) rfl rfl rfl rfl (Nat.le_of_ble_eq_true rfl) ?_
    rw [z0]
    repeat (refine sw_s hT rfl rfl ?_)
    refine sw_b hT rfl rfl (fun _ => ?_) (fun c => absurd (rfl) c)
    repeat (refine sw_s hT rfl rfl ?_)
    refine sw_b hT rfl rfl (fun c => absurd c ((by decide))) (fun _ => ?_)
    repeat (first | (refine sw_at (n := 1931) rfl ?_; exact (sw_pick [2, 3, 4, 5, 6, 7] rfl (K z hI2))) | refine sw_s hT rfl rfl ?_)
set_option maxHeartbeats 1000000 in
theorem lc_18 {X : Ctx} {b L : Nat} {xs : Nat → Int32} (h : sCx X mL_law) (hL : lCx X b L xs) (hL2 : L ≤ 2560) (hr : rmOK X (cC X + 1) (sC X + 6)) {i : Nat} (hi : i + 5 ≤ L) {x : Hp} (hx : INVX x) (K : ∀ z, INVX z → SW (xc X (cC X + 1) (sC X + 6)) mL_law 1931 (L0 i) [] z) : SW X mL_law 1488 (L0 i) [] x := by
  obtain ⟨n, ne, i', c', hI⟩ := hx
  have hfl := lc_fl hL
  have h' := xc_s h hr
  have hL' : lCx (xc X (cC X + 1) (sC X + 6)) b L xs := xc_l hL
  have j1 : vp_in (nI i + 1) L := lc_in hL2 hi (by omega : 1 < 5) (by decide)
  rcases op_autoPickup (Y := xk X) hfl hI (xs (nI i + 1).toNatClampNeg) with hG | hB
  · obtain ⟨P, p6, hP⟩ := hG
    have hT := kL_law_c18 h
    repeat (refine sw_s hT rfl rfl ?_)
    refine sw_sld h hL dL_law_1494 j1 ?_
    repeat (refine sw_s hT rfl rfl ?_)
    refine sw_csL (n := 3) h hL (wn_autoPickup _ p6 (fun rr y hp => by obtain ⟨v, rfl, hv, -⟩ := hP rr y hp; obtain ⟨w, rfl⟩ := vk_i hv (Or.inl rfl); exact ⟨w, rfl⟩)) gl_302 gl_303 gl_252 gl_304 ⟨by decide +kernel, by decide +kernel, by decide +kernel⟩ ⟨by decide +kernel, by decide +kernel⟩ dL_law_1496 (rest := []) rfl rfl (Nat.le_of_ble_eq_true rfl) hr ?_
    rintro _ _ ⟨rfl, v, y, hp, rfl⟩
    obtain ⟨v', hv', hok, hR⟩ := hP _ _ hp
    cases hv'
    obtain ⟨P2, q2, hQ⟩ := hR (y.1, y.2.1, u2 y.2.2 94 0 v.toInt64) ⟨rfl, fun a ha => rfl⟩
    have hT := kL_law_c18 h'
    show SW (xc X (cC X + 1) (sC X + 6)) mL_law 1499 _ [.int 0] _
    repeat (refine sw_s hT rfl rfl ?_)
    refine sw_sld h' hL' dL_law_1507 j1 ?_
    repeat (refine sw_s hT rfl rfl ?_)
    refine sw_cvR hT rfl (q2) rfl rfl rfl rfl (Nat.le_of_ble_eq_true rfl) ?_
    intro r2 z hz2
    obtain ⟨rfl, z0, zl, z95, hI2⟩ := hQ r2 z hz2
    show SW _ mL_law 1511 _ [.int v] z
    repeat (refine sw_s hT rfl rfl ?_)
    refine sw_cv hT rfl (r_thrown _ z) rfl rfl rfl rfl (Nat.le_of_ble_eq_true rfl) ?_
    rw [z0]
    repeat (refine sw_s hT rfl rfl ?_)
    refine sw_b hT rfl rfl (fun _ => ?_) (fun c => absurd (rfl) c)
    repeat (refine sw_s hT rfl rfl ?_)
    refine sw_b hT rfl rfl (fun _ => ?_) (fun c => absurd (rfl) c)
    repeat (refine sw_s hT rfl rfl ?_)
    have zv : z.2.2 94 (0 : Int32).toNatClampNeg = v.toInt64 := by rw [zl]; exact u2_at y.2.2 94 0 v.toInt64
    refine sw_lald hT rfl rfl (in01) ?_
    rw [zv]
    repeat (refine sw_s hT rfl rfl ?_)
    refine sw_b hT rfl rfl (fun _ => ?_) (fun c => absurd (lc_cmp) c)
    repeat (first | (refine sw_at (n := 1931) rfl ?_; exact (sw_pick [2, 3, 4, 5, 6, 7] rfl (K z hI2))) | refine sw_s hT rfl rfl ?_)
  · have hT := kL_law_c18 h
    repeat (refine sw_s hT rfl rfl ?_)
    refine sw_sld h hL dL_law_1494 j1 ?_
    repeat (refine sw_s hT rfl rfl ?_)
    refine sw_csL (n := 3) h hL (wt1_autoPickup hfl _ hB.1) gl_302 gl_303 gl_252 gl_304 ⟨by decide +kernel, by decide +kernel, by decide +kernel⟩ ⟨by decide +kernel, by decide +kernel⟩ dL_law_1496 (rest := []) rfl rfl (Nat.le_of_ble_eq_true rfl) hr ?_
    rintro _ _ ⟨rfl, rfl⟩
    obtain ⟨P2, q2, hQ⟩ := hB.2 _ mid_rf
    have hT := kL_law_c18 h'
    show SW (xc X (cC X + 1) (sC X + 6)) mL_law 1499 _ [.int 1] _
    repeat (refine sw_s hT rfl rfl ?_)
    refine sw_sld h' hL' dL_law_1507 j1 ?_
    repeat (refine sw_s hT rfl rfl ?_)
    refine sw_cvR hT rfl (q2) rfl rfl rfl rfl (Nat.le_of_ble_eq_true rfl) ?_
    intro r2 z hz2
    obtain ⟨rfl, z0, zl, z95, hI2⟩ := hQ r2 z hz2
    show SW _ mL_law 1511 _ [.int 0] z
    repeat (refine sw_s hT rfl rfl ?_)
    refine sw_cv hT rfl (r_thrown _ z) rfl rfl rfl rfl (Nat.le_of_ble_eq_true rfl) ?_
    rw [z0]
    repeat (refine sw_s hT rfl rfl ?_)
    refine sw_b hT rfl rfl (fun _ => ?_) (fun c => absurd (rfl) c)
    repeat (refine sw_s hT rfl rfl ?_)
    refine sw_b hT rfl rfl (fun c => absurd c ((by decide))) (fun _ => ?_)
    repeat (first | (refine sw_at (n := 1931) rfl ?_; exact (sw_pick [2, 3, 4, 5, 6, 7] rfl (K z hI2))) | refine sw_s hT rfl rfl ?_)
set_option maxHeartbeats 1000000 in
theorem lc_19 {X : Ctx} {b L : Nat} {xs : Nat → Int32} (h : sCx X mL_law) (hL : lCx X b L xs) (hL2 : L ≤ 2560) (hr : rmOK X (cC X + 1) (sC X + 6)) {i : Nat} (hi : i + 5 ≤ L) {x : Hp} (hx : INVX x) (K : ∀ z, INVX z → SW (xc X (cC X + 1) (sC X + 6)) mL_law 1931 (L0 i) [] z) : SW X mL_law 1544 (L0 i) [] x := by
  obtain ⟨n, ne, i', c', hI⟩ := hx
  have hfl := lc_fl hL
  have h' := xc_s h hr
  have hL' : lCx (xc X (cC X + 1) (sC X + 6)) b L xs := xc_l hL
  obtain ⟨P, p6, hP⟩ := op_autoGrade (Y := xk X) hI
  refine SW_widen (k := cC X + 1) (n := sC X + 6) (Nat.le_add_right _ _) (Nat.le_add_right _ _) ?_
  have hT := kL_law_c19 h'
  repeat (refine sw_s hT rfl rfl ?_)
  refine sw_cvR hT rfl (p6) rfl rfl rfl rfl (Nat.le_of_ble_eq_true rfl) ?_
  intro rr y hp
  obtain ⟨v, rfl, hv, hR⟩ := hP rr y hp
  obtain ⟨w, rfl⟩ := vk_i hv (Or.inl rfl)
  obtain ⟨P2, q2, hQ⟩ := hR y mid_rf
  show SW _ mL_law 1548 _ [.int w] y
  repeat (refine sw_s hT rfl rfl ?_)
  refine sw_cvR hT rfl (q2) rfl rfl rfl rfl (Nat.le_of_ble_eq_true rfl) ?_
  intro r2 z hz
  obtain ⟨rfl, -, -, -, hI2⟩ := hQ r2 z hz
  show SW _ mL_law 1552 _ [.int w, .int w] z
  refine sw_b hT rfl rfl (fun _ => ?_) (fun c => absurd (rfl) c)
  exact K z hI2
