/-! the cases of the law's loop -/
theorem lc_in {i L j : Nat} {v : Int32} (hL2 : L ≤ 2560) (hi : i + 5 ≤ L) (hj : j < 5) (hv : v = nI j) : vp_in (nI i + v) L := by
  rw [hv, nI_add]
  exact vp_in_nI (by omega) (by omega)
theorem lc_cmp {v : Int64} : lg_cmp v v = 0 := by
  unfold lg_cmp
  simp
def L0 (i : Nat) : Lo := [(5, .int (nI i)), (0, .ref 96), (1, .ref 0), (2, .ref 83), (3, .ref 94), (4, .ref 95)]
theorem lc_fl {X : Ctx} {b L : Nat} {xs : Nat → Int32} (h : lCx X b L xs) : (xk X).1.stackTraces = false := by
  obtain ⟨p, l, e, R, s, m, args, below, meth, c, G, a, tc, A, H0, cells, slots, Q⟩ := X
  exact h.2.2.2.2.2.1
theorem xc_s {X : Ctx} {M : MI} {k n : Nat} (h : sCx X M) (hr : rmOK X k n) : sCx (xc X k n) M := by
  obtain ⟨p, l, e, R, s, m, args, below, meth, c, G, a, tc, A, H0, cells, slots, Q⟩ := X
  obtain ⟨h1, h2, h3, h4, h5, h6, h7, -, -, h8⟩ := h
  exact ⟨h1, h2, h3, h4, h5, h6, h7, hr.1, hr.2, h8⟩
theorem xc_l {X : Ctx} {b L : Nat} {xs : Nat → Int32} {k n : Nat} (h : lCx X b L xs) : lCx (xc X k n) b L xs := by
  obtain ⟨p, l, e, R, s, m, args, below, meth, c, G, a, tc, A, H0, cells, slots, Q⟩ := X
  exact h
set_option maxHeartbeats 1000000 in
theorem lc_0 {X : Ctx} {b L : Nat} {xs : Nat → Int32} (h : sCx X mL_law) (hL : lCx X b L xs) (hL2 : L ≤ 2560) (hr : rmOK X (cC X + 1) (sC X + 6)) {i : Nat} (hi : i + 5 ≤ L) {x : Hp} (hx : INVX x) (K : ∀ z, INVX z → SW (xc X (cC X + 1) (sC X + 6)) mL_law 1931 (L0 i) [] z) : SW X mL_law 180 (L0 i) [] x := by
  obtain ⟨n, ne, i', c', hI⟩ := hx
  have hfl := lc_fl hL
  have h' := xc_s h hr
  have hL' : lCx (xc X (cC X + 1) (sC X + 6)) b L xs := xc_l hL
  have j1 : vp_in (nI i + 1) L := lc_in hL2 hi (by omega : 1 < 5) (by decide)
  have j2 : vp_in (nI i + 2) L := lc_in hL2 hi (by omega : 2 < 5) (by decide)
  rcases op_setSource (Y := xk X) hfl hI (arD (xs (nI i + 1).toNatClampNeg)) (arD (xs (nI i + 2).toNatClampNeg)) with hG | hB
  · obtain ⟨P, p6, hP⟩ := hG
    have hT := kL_law_c0 h
    repeat (refine sw_s hT rfl rfl ?_)
    refine sw_sld h hL dL_law_186 j1 ?_
    repeat (refine sw_s hT rfl rfl ?_)
    refine sw_dmul hT rfl ((ar_ok _).1) ?_
    repeat (refine sw_s hT rfl rfl ?_)
    refine sw_sld h hL dL_law_197 j2 ?_
    repeat (refine sw_s hT rfl rfl ?_)
    refine sw_dmul hT rfl ((ar_ok _).1) ?_
    repeat (refine sw_s hT rfl rfl ?_)
    refine sw_csL (n := 4) h hL (wn_setSource _ _ p6 (fun rr y hp => by obtain ⟨v, rfl, hv, -⟩ := hP rr y hp; obtain ⟨w, rfl, -⟩ := vk_d hv rfl; exact ⟨w, rfl⟩)) gl_250 gl_251 gl_252 gl_253 ⟨by decide +kernel, by decide +kernel, by decide +kernel⟩ ⟨by decide +kernel, by decide +kernel⟩ dL_law_205 (rest := []) rfl rfl (Nat.le_of_ble_eq_true rfl) hr ?_
    rintro _ _ ⟨rfl, v, y, hp, rfl⟩
    obtain ⟨v', hv', hok, hR⟩ := hP _ _ hp
    cases hv'
    obtain ⟨P2, q2, hQ⟩ := hR (y.1, u2 y.2.1 95 0 v, y.2.2) ⟨rfl, fun a ha => u2_ne ha⟩
    have hT := kL_law_c0 h'
    show SW (xc X (cC X + 1) (sC X + 6)) mL_law 208 _ [.int 0] _
    repeat (refine sw_s hT rfl rfl ?_)
    refine sw_sld h' hL' dL_law_216 j1 ?_
    repeat (refine sw_s hT rfl rfl ?_)
    refine sw_dmul hT rfl ((ar_ok _).1) ?_
    repeat (refine sw_s hT rfl rfl ?_)
    refine sw_sld h' hL' dL_law_227 j2 ?_
    repeat (refine sw_s hT rfl rfl ?_)
    refine sw_dmul hT rfl ((ar_ok _).1) ?_
    repeat (refine sw_s hT rfl rfl ?_)
    refine sw_cvR hT rfl (q2) rfl rfl rfl rfl (Nat.le_of_ble_eq_true rfl) ?_
    intro r2 z hz2
    obtain ⟨rfl, z0, zl, z95, hI2⟩ := hQ r2 z hz2
    show SW _ mL_law 236 _ [.double v] z
    repeat (refine sw_s hT rfl rfl ?_)
    refine sw_cv hT rfl (r_thrown _ z) rfl rfl rfl rfl (Nat.le_of_ble_eq_true rfl) ?_
    rw [z0]
    repeat (refine sw_s hT rfl rfl ?_)
    refine sw_b hT rfl rfl (fun _ => ?_) (fun c => absurd (rfl) c)
    repeat (refine sw_s hT rfl rfl ?_)
    refine sw_b hT rfl rfl (fun _ => ?_) (fun c => absurd (rfl) c)
    repeat (refine sw_s hT rfl rfl ?_)
    have zv : z.2.1 95 (0 : Int32).toNatClampNeg = v := by rw [z95]; exact u2_at y.2.1 95 0 v
    refine sw_dald hT rfl rfl (in01) ?_
    rw [zv]
    repeat (refine sw_s hT rfl rfl ?_)
    refine sw_b hT rfl rfl (fun _ => ?_) (fun c => absurd ((zb_eq hok.2)) c)
    repeat (first | (refine sw_at (n := 1931) rfl ?_; exact (sw_pick [2, 3, 4, 5, 6, 7] rfl (K z hI2))) | refine sw_s hT rfl rfl ?_)
  · have hT := kL_law_c0 h
    repeat (refine sw_s hT rfl rfl ?_)
    refine sw_sld h hL dL_law_186 j1 ?_
    repeat (refine sw_s hT rfl rfl ?_)
    refine sw_dmul hT rfl ((ar_ok _).1) ?_
    repeat (refine sw_s hT rfl rfl ?_)
    refine sw_sld h hL dL_law_197 j2 ?_
    repeat (refine sw_s hT rfl rfl ?_)
    refine sw_dmul hT rfl ((ar_ok _).1) ?_
    repeat (refine sw_s hT rfl rfl ?_)
    refine sw_csL (n := 4) h hL (wt1_setSource hfl _ _ hB.1) gl_250 gl_251 gl_252 gl_253 ⟨by decide +kernel, by decide +kernel, by decide +kernel⟩ ⟨by decide +kernel, by decide +kernel⟩ dL_law_205 (rest := []) rfl rfl (Nat.le_of_ble_eq_true rfl) hr ?_
    rintro _ _ ⟨rfl, rfl⟩
    obtain ⟨P2, q2, hQ⟩ := hB.2 _ mid_rf
    have hT := kL_law_c0 h'
    show SW (xc X (cC X + 1) (sC X + 6)) mL_law 208 _ [.int 1] _
    repeat (refine sw_s hT rfl rfl ?_)
    refine sw_sld h' hL' dL_law_216 j1 ?_
    repeat (refine sw_s hT rfl rfl ?_)
    refine sw_dmul hT rfl ((ar_ok _).1) ?_
    repeat (refine sw_s hT rfl rfl ?_)
    refine sw_sld h' hL' dL_law_227 j2 ?_
    repeat (refine sw_s hT rfl rfl ?_)
    refine sw_dmul hT rfl ((ar_ok _).1) ?_
    repeat (refine sw_s hT rfl rfl ?_)
    refine sw_cvR hT rfl (q2) rfl rfl rfl rfl (Nat.le_of_ble_eq_true rfl) ?_
    intro r2 z hz2
    obtain ⟨rfl, z0, zl, z95, hI2⟩ := hQ r2 z hz2
    show SW _ mL_law 236 _ [.double 0] z
    repeat (refine sw_s hT rfl rfl ?_)
    refine sw_cv hT rfl (r_thrown _ z) rfl rfl rfl rfl (Nat.le_of_ble_eq_true rfl) ?_
    rw [z0]
    repeat (refine sw_s hT rfl rfl ?_)
    refine sw_b hT rfl rfl (fun _ => ?_) (fun c => absurd (rfl) c)
    repeat (refine sw_s hT rfl rfl ?_)
    refine sw_b hT rfl rfl (fun c => absurd c ((by decide))) (fun _ => ?_)
    repeat (first | (refine sw_at (n := 1931) rfl ?_; exact (sw_pick [2, 3, 4, 5, 6, 7] rfl (K z hI2))) | refine sw_s hT rfl rfl ?_)
set_option maxHeartbeats 1000000 in
theorem lc_1 {X : Ctx} {b L : Nat} {xs : Nat → Int32} (h : sCx X mL_law) (hL : lCx X b L xs) (hL2 : L ≤ 2560) (hr : rmOK X (cC X + 1) (sC X + 6)) {i : Nat} (hi : i + 5 ≤ L) {x : Hp} (hx : INVX x) (K : ∀ z, INVX z → SW (xc X (cC X + 1) (sC X + 6)) mL_law 1931 (L0 i) [] z) : SW X mL_law 289 (L0 i) [] x := by
  obtain ⟨n, ne, i', c', hI⟩ := hx
  have hfl := lc_fl hL
  have h' := xc_s h hr
  have hL' : lCx (xc X (cC X + 1) (sC X + 6)) b L xs := xc_l hL
  have j1 : vp_in (nI i + 1) L := lc_in hL2 hi (by omega : 1 < 5) (by decide)
  have j2 : vp_in (nI i + 2) L := lc_in hL2 hi (by omega : 2 < 5) (by decide)
  rcases op_addLine (Y := xk X) hfl hI (xs (nI i + 1).toNatClampNeg) (arD (xs (nI i + 2).toNatClampNeg)) with hG | hB | hB
  · obtain ⟨P, p6, hP⟩ := hG
    have hT := kL_law_c1 h
    repeat (refine sw_s hT rfl rfl ?_)
    refine sw_sld h hL dL_law_295 j1 ?_
    repeat (refine sw_s hT rfl rfl ?_)
    refine sw_sld h hL dL_law_301 j2 ?_
    repeat (refine sw_s hT rfl rfl ?_)
    refine sw_dmul hT rfl ((ar_ok _).1) ?_
    repeat (refine sw_s hT rfl rfl ?_)
    refine sw_csL (n := 4) h hL (wn_addLine _ _ p6 (fun rr y hp => by obtain ⟨v, rfl, hv, -⟩ := hP rr y hp; obtain ⟨w, rfl⟩ := vk_i hv (Or.inl rfl); exact ⟨w, rfl⟩)) gl_254 gl_255 gl_252 gl_256 ⟨by decide +kernel, by decide +kernel, by decide +kernel⟩ ⟨by decide +kernel, by decide +kernel⟩ dL_law_308 (rest := []) rfl rfl (Nat.le_of_ble_eq_true rfl) hr ?_
    rintro _ _ ⟨rfl, v, y, hp, rfl⟩
    obtain ⟨v', hv', hok, hR⟩ := hP _ _ hp
    cases hv'
    obtain ⟨P2, q2, hQ⟩ := hR (y.1, y.2.1, u2 y.2.2 94 0 v.toInt64) ⟨rfl, fun a ha => rfl⟩
    have hT := kL_law_c1 h'
    show SW (xc X (cC X + 1) (sC X + 6)) mL_law 311 _ [.int 0] _
    repeat (refine sw_s hT rfl rfl ?_)
    refine sw_sld h' hL' dL_law_319 j1 ?_
    repeat (refine sw_s hT rfl rfl ?_)
    refine sw_sld h' hL' dL_law_325 j2 ?_
    repeat (refine sw_s hT rfl rfl ?_)
    refine sw_dmul hT rfl ((ar_ok _).1) ?_
    repeat (refine sw_s hT rfl rfl ?_)
    refine sw_cvR hT rfl (q2) rfl rfl rfl rfl (Nat.le_of_ble_eq_true rfl) ?_
    intro r2 z hz2
    obtain ⟨rfl, z0, zl, z95, hI2⟩ := hQ r2 z hz2
    show SW _ mL_law 334 _ [.int v] z
    repeat (refine sw_s hT rfl rfl ?_)
    refine sw_cv hT rfl (r_thrown _ z) rfl rfl rfl rfl (Nat.le_of_ble_eq_true rfl) ?_
    rw [z0]
    repeat (refine sw_s hT rfl rfl ?_)
    refine sw_b hT rfl rfl (fun _ => ?_) (fun c => absurd (rfl) c)
    repeat (refine sw_s hT rfl rfl ?_)
    refine sw_b hT rfl rfl (fun _ => ?_) (fun c => absurd (rfl) c)
    repeat (refine sw_s hT rfl rfl ?_)
    have zv : z.2.2 94 (0 : Int32).toNatClampNeg = v.toInt64 := by rw [zl]; exact u2_at y.2.2 94 0 v.toInt64
    refine sw_lald hT rfl rfl (in01) ?_
    rw [zv]
    repeat (refine sw_s hT rfl rfl ?_)
    refine sw_b hT rfl rfl (fun _ => ?_) (fun c => absurd (lc_cmp) c)
    repeat (first | (refine sw_at (n := 1931) rfl ?_; exact (sw_pick [2, 3, 4, 5, 6, 7] rfl (K z hI2))) | refine sw_s hT rfl rfl ?_)
  · have hT := kL_law_c1 h
    repeat (refine sw_s hT rfl rfl ?_)
    refine sw_sld h hL dL_law_295 j1 ?_
    repeat (refine sw_s hT rfl rfl ?_)
    refine sw_sld h hL dL_law_301 j2 ?_
    repeat (refine sw_s hT rfl rfl ?_)
    refine sw_dmul hT rfl ((ar_ok _).1) ?_
    repeat (refine sw_s hT rfl rfl ?_)
    refine sw_csL (n := 4) h hL (wt1_addLine hfl _ _ hB.1) gl_254 gl_255 gl_252 gl_256 ⟨by decide +kernel, by decide +kernel, by decide +kernel⟩ ⟨by decide +kernel, by decide +kernel⟩ dL_law_308 (rest := []) rfl rfl (Nat.le_of_ble_eq_true rfl) hr ?_
    rintro _ _ ⟨rfl, rfl⟩
    obtain ⟨P2, q2, hQ⟩ := hB.2 _ mid_rf
    have hT := kL_law_c1 h'
    show SW (xc X (cC X + 1) (sC X + 6)) mL_law 311 _ [.int 1] _
    repeat (refine sw_s hT rfl rfl ?_)
    refine sw_sld h' hL' dL_law_319 j1 ?_
    repeat (refine sw_s hT rfl rfl ?_)
    refine sw_sld h' hL' dL_law_325 j2 ?_
    repeat (refine sw_s hT rfl rfl ?_)
    refine sw_dmul hT rfl ((ar_ok _).1) ?_
    repeat (refine sw_s hT rfl rfl ?_)
    refine sw_cvR hT rfl (q2) rfl rfl rfl rfl (Nat.le_of_ble_eq_true rfl) ?_
    intro r2 z hz2
    obtain ⟨rfl, z0, zl, z95, hI2⟩ := hQ r2 z hz2
    show SW _ mL_law 334 _ [.int 0] z
    repeat (refine sw_s hT rfl rfl ?_)
    refine sw_cv hT rfl (r_thrown _ z) rfl rfl rfl rfl (Nat.le_of_ble_eq_true rfl) ?_
    rw [z0]
    repeat (refine sw_s hT rfl rfl ?_)
    refine sw_b hT rfl rfl (fun _ => ?_) (fun c => absurd (rfl) c)
    repeat (refine sw_s hT rfl rfl ?_)
    refine sw_b hT rfl rfl (fun c => absurd c ((by decide))) (fun _ => ?_)
    repeat (first | (refine sw_at (n := 1931) rfl ?_; exact (sw_pick [2, 3, 4, 5, 6, 7] rfl (K z hI2))) | refine sw_s hT rfl rfl ?_)
  · have hT := kL_law_c1 h
    repeat (refine sw_s hT rfl rfl ?_)
    refine sw_sld h hL dL_law_295 j1 ?_
    repeat (refine sw_s hT rfl rfl ?_)
    refine sw_sld h hL dL_law_301 j2 ?_
    repeat (refine sw_s hT rfl rfl ?_)
    refine sw_dmul hT rfl ((ar_ok _).1) ?_
    repeat (refine sw_s hT rfl rfl ?_)
    refine sw_csL (n := 4) h hL (wt2_addLine hfl _ _ hB.1) gl_254 gl_255 gl_252 gl_256 ⟨by decide +kernel, by decide +kernel, by decide +kernel⟩ ⟨by decide +kernel, by decide +kernel⟩ dL_law_308 (rest := []) rfl rfl (Nat.le_of_ble_eq_true rfl) hr ?_
    rintro _ _ ⟨rfl, rfl⟩
    obtain ⟨P2, q2, hQ⟩ := hB.2 _ mid_rf
    have hT := kL_law_c1 h'
    show SW (xc X (cC X + 1) (sC X + 6)) mL_law 311 _ [.int 2] _
    repeat (refine sw_s hT rfl rfl ?_)
    refine sw_sld h' hL' dL_law_319 j1 ?_
    repeat (refine sw_s hT rfl rfl ?_)
    refine sw_sld h' hL' dL_law_325 j2 ?_
    repeat (refine sw_s hT rfl rfl ?_)
    refine sw_dmul hT rfl ((ar_ok _).1) ?_
    repeat (refine sw_s hT rfl rfl ?_)
    refine sw_cvR hT rfl (q2) rfl rfl rfl rfl (Nat.le_of_ble_eq_true rfl) ?_
    intro r2 z hz2
    obtain ⟨rfl, z0, zl, z95, hI2⟩ := hQ r2 z hz2
    show SW _ mL_law 334 _ [.int 0] z
    repeat (refine sw_s hT rfl rfl ?_)
    refine sw_cv hT rfl (r_thrown _ z) rfl rfl rfl rfl (Nat.le_of_ble_eq_true rfl) ?_
    rw [z0]
    repeat (refine sw_s hT rfl rfl ?_)
    refine sw_b hT rfl rfl (fun _ => ?_) (fun c => absurd (rfl) c)
    repeat (refine sw_s hT rfl rfl ?_)
    refine sw_b hT rfl rfl (fun c => absurd c ((by decide))) (fun _ => ?_)
    repeat (first | (refine sw_at (n := 1931) rfl ?_; exact (sw_pick [2, 3, 4, 5, 6, 7] rfl (K z hI2))) | refine sw_s hT rfl rfl ?_)
set_option maxHeartbeats 1000000 in
theorem lc_2 {X : Ctx} {b L : Nat} {xs : Nat → Int32} (h : sCx X mL_law) (hL : lCx X b L xs) (hL2 : L ≤ 2560) (hr : rmOK X (cC X + 1) (sC X + 6)) {i : Nat} (hi : i + 5 ≤ L) {x : Hp} (hx : INVX x) (K : ∀ z, INVX z → SW (xc X (cC X + 1) (sC X + 6)) mL_law 1931 (L0 i) [] z) : SW X mL_law 367 (L0 i) [] x := by
  obtain ⟨n, ne, i', c', hI⟩ := hx
  have hfl := lc_fl hL
  have h' := xc_s h hr
  have hL' : lCx (xc X (cC X + 1) (sC X + 6)) b L xs := xc_l hL
  have j1 : vp_in (nI i + 1) L := lc_in hL2 hi (by omega : 1 < 5) (by decide)
  have j2 : vp_in (nI i + 2) L := lc_in hL2 hi (by omega : 2 < 5) (by decide)
  rcases op_setLoad (Y := xk X) hfl hI (xs (nI i + 1).toNatClampNeg) (xs (nI i + 2).toNatClampNeg) with hG | hB
  · obtain ⟨P, p6, hP⟩ := hG
    have hT := kL_law_c2 h
    repeat (refine sw_s hT rfl rfl ?_)
    refine sw_sld h hL dL_law_373 j1 ?_
    repeat (refine sw_s hT rfl rfl ?_)
    refine sw_sld h hL dL_law_379 j2 ?_
    repeat (refine sw_s hT rfl rfl ?_)
    refine sw_csL (n := 4) h hL (wn_setLoad _ _ p6 (fun rr y hp => by obtain ⟨v, rfl, hv, -⟩ := hP rr y hp; obtain ⟨w, rfl⟩ := vk_i hv (Or.inl rfl); exact ⟨w, rfl⟩)) gl_257 gl_258 gl_252 gl_259 ⟨by decide +kernel, by decide +kernel, by decide +kernel⟩ ⟨by decide +kernel, by decide +kernel⟩ dL_law_381 (rest := []) rfl rfl (Nat.le_of_ble_eq_true rfl) hr ?_
    rintro _ _ ⟨rfl, v, y, hp, rfl⟩
    obtain ⟨v', hv', hok, hR⟩ := hP _ _ hp
    cases hv'
    obtain ⟨P2, q2, hQ⟩ := hR (y.1, y.2.1, u2 y.2.2 94 0 v.toInt64) ⟨rfl, fun a ha => rfl⟩
    have hT := kL_law_c2 h'
    show SW (xc X (cC X + 1) (sC X + 6)) mL_law 384 _ [.int 0] _
    repeat (refine sw_s hT rfl rfl ?_)
    refine sw_sld h' hL' dL_law_392 j1 ?_
    repeat (refine sw_s hT rfl rfl ?_)
    refine sw_sld h' hL' dL_law_398 j2 ?_
    repeat (refine sw_s hT rfl rfl ?_)
    refine sw_cvR hT rfl (q2) rfl rfl rfl rfl (Nat.le_of_ble_eq_true rfl) ?_
    intro r2 z hz2
    obtain ⟨rfl, z0, zl, z95, hI2⟩ := hQ r2 z hz2
    show SW _ mL_law 402 _ [.int v] z
    repeat (refine sw_s hT rfl rfl ?_)
    refine sw_cv hT rfl (r_thrown _ z) rfl rfl rfl rfl (Nat.le_of_ble_eq_true rfl) ?_
    rw [z0]
    repeat (refine sw_s hT rfl rfl ?_)
    refine sw_b hT rfl rfl (fun _ => ?_) (fun c => absurd (rfl) c)
    repeat (refine sw_s hT rfl rfl ?_)
    refine sw_b hT rfl rfl (fun _ => ?_) (fun c => absurd (rfl) c)
    repeat (refine sw_s hT rfl rfl ?_)
    have zv : z.2.2 94 (0 : Int32).toNatClampNeg = v.toInt64 := by rw [zl]; exact u2_at y.2.2 94 0 v.toInt64
    refine sw_lald hT rfl rfl (in01) ?_
    rw [zv]
    repeat (refine sw_s hT rfl rfl ?_)
    refine sw_b hT rfl rfl (fun _ => ?_) (fun c => absurd (lc_cmp) c)
    repeat (first | (refine sw_at (n := 1931) rfl ?_; exact (sw_pick [2, 3, 4, 5, 6, 7] rfl (K z hI2))) | refine sw_s hT rfl rfl ?_)
  · have hT := kL_law_c2 h
    repeat (refine sw_s hT rfl rfl ?_)
    refine sw_sld h hL dL_law_373 j1 ?_
    repeat (refine sw_s hT rfl rfl ?_)
    refine sw_sld h hL dL_law_379 j2 ?_
    repeat (refine sw_s hT rfl rfl ?_)
    refine sw_csL (n := 4) h hL (wt1_setLoad hfl _ _ hB.1) gl_257 gl_258 gl_252 gl_259 ⟨by decide +kernel, by decide +kernel, by decide +kernel⟩ ⟨by decide +kernel, by decide +kernel⟩ dL_law_381 (rest := []) rfl rfl (Nat.le_of_ble_eq_true rfl) hr ?_
    rintro _ _ ⟨rfl, rfl⟩
    obtain ⟨P2, q2, hQ⟩ := hB.2 _ mid_rf
    have hT := kL_law_c2 h'
    show SW (xc X (cC X + 1) (sC X + 6)) mL_law 384 _ [.int 1] _
    repeat (refine sw_s hT rfl rfl ?_)
    refine sw_sld h' hL' dL_law_392 j1 ?_
    repeat (refine sw_s hT rfl rfl ?_)
    refine sw_sld h' hL' dL_law_398 j2 ?_
    repeat (refine sw_s hT rfl rfl ?_)
    refine sw_cvR hT rfl (q2) rfl rfl rfl rfl (Nat.le_of_ble_eq_true rfl) ?_
    intro r2 z hz2
    obtain ⟨rfl, z0, zl, z95, hI2⟩ := hQ r2 z hz2
    show SW _ mL_law 402 _ [.int 0] z
    repeat (refine sw_s hT rfl rfl ?_)
    refine sw_cv hT rfl (r_thrown _ z) rfl rfl rfl rfl (Nat.le_of_ble_eq_true rfl) ?_
    rw [z0]
    repeat (refine sw_s hT rfl rfl ?_)
    refine sw_b hT rfl rfl (fun _ => ?_) (fun c => absurd (rfl) c)
    repeat (refine sw_s hT rfl rfl ?_)
    refine sw_b hT rfl rfl (fun c => absurd c ((by decide))) (fun _ => ?_)
    repeat (first | (refine sw_at (n := 1931) rfl ?_; exact (sw_pick [2, 3, 4, 5, 6, 7] rfl (K z hI2))) | refine sw_s hT rfl rfl ?_)
set_option maxHeartbeats 1000000 in
theorem lc_3 {X : Ctx} {b L : Nat} {xs : Nat → Int32} (h : sCx X mL_law) (hL : lCx X b L xs) (hL2 : L ≤ 2560) (hr : rmOK X (cC X + 1) (sC X + 6)) {i : Nat} (hi : i + 5 ≤ L) {x : Hp} (hx : INVX x) (K : ∀ z, INVX z → SW (xc X (cC X + 1) (sC X + 6)) mL_law 1931 (L0 i) [] z) : SW X mL_law 435 (L0 i) [] x := by
  obtain ⟨n, ne, i', c', hI⟩ := hx
  have hfl := lc_fl hL
  have h' := xc_s h hr
  have hL' : lCx (xc X (cC X + 1) (sC X + 6)) b L xs := xc_l hL
  have j1 : vp_in (nI i + 1) L := lc_in hL2 hi (by omega : 1 < 5) (by decide)
  rcases op_loadCurrent (Y := xk X) hfl hI (xs (nI i + 1).toNatClampNeg) with hG | hB
  · obtain ⟨P, p6, hP⟩ := hG
    have hT := kL_law_c3 h
    repeat (refine sw_s hT rfl rfl ?_)
    refine sw_sld h hL dL_law_441 j1 ?_
    repeat (refine sw_s hT rfl rfl ?_)
    refine sw_csL (n := 3) h hL (wn_loadCurrent _ p6 (fun rr y hp => by obtain ⟨v, rfl, hv, -⟩ := hP rr y hp; obtain ⟨w, rfl⟩ := vk_i hv (Or.inl rfl); exact ⟨w, rfl⟩)) gl_260 gl_261 gl_252 gl_262 ⟨by decide +kernel, by decide +kernel, by decide +kernel⟩ ⟨by decide +kernel, by decide +kernel⟩ dL_law_443 (rest := []) rfl rfl (Nat.le_of_ble_eq_true rfl) hr ?_
    rintro _ _ ⟨rfl, v, y, hp, rfl⟩
    obtain ⟨v', hv', hok, hR⟩ := hP _ _ hp
    cases hv'
    obtain ⟨P2, q2, hQ⟩ := hR (y.1, y.2.1, u2 y.2.2 94 0 v.toInt64) ⟨rfl, fun a ha => rfl⟩
    have hT := kL_law_c3 h'
    show SW (xc X (cC X + 1) (sC X + 6)) mL_law 446 _ [.int 0] _
    repeat (refine sw_s hT rfl rfl ?_)
    refine sw_sld h' hL' dL_law_454 j1 ?_
    repeat (refine sw_s hT rfl rfl ?_)
    refine sw_cvR hT rfl (q2) rfl rfl rfl rfl (Nat.le_of_ble_eq_true rfl) ?_
    intro r2 z hz2
    obtain ⟨rfl, z0, zl, z95, hI2⟩ := hQ r2 z hz2
    show SW _ mL_law 458 _ [.int v] z
    repeat (refine sw_s hT rfl rfl ?_)
    refine sw_cv hT rfl (r_thrown _ z) rfl rfl rfl rfl (Nat.le_of_ble_eq_true rfl) ?_
    rw [z0]
    repeat (refine sw_s hT rfl rfl ?_)
    refine sw_b hT rfl rfl (fun _ => ?_) (fun c => absurd (rfl) c)
    repeat (refine sw_s hT rfl rfl ?_)
    refine sw_b hT rfl rfl (fun _ => ?_) (fun c => absurd (rfl) c)
    repeat (refine sw_s hT rfl rfl ?_)
    have zv : z.2.2 94 (0 : Int32).toNatClampNeg = v.toInt64 := by rw [zl]; exact u2_at y.2.2 94 0 v.toInt64
    refine sw_lald hT rfl rfl (in01) ?_
    rw [zv]
    repeat (refine sw_s hT rfl rfl ?_)
    refine sw_b hT rfl rfl (fun _ => ?_) (fun c => absurd (lc_cmp) c)
    repeat (first | (refine sw_at (n := 1931) rfl ?_; exact (sw_pick [2, 3, 4, 5, 6, 7] rfl (K z hI2))) | refine sw_s hT rfl rfl ?_)
  · have hT := kL_law_c3 h
    repeat (refine sw_s hT rfl rfl ?_)
    refine sw_sld h hL dL_law_441 j1 ?_
    repeat (refine sw_s hT rfl rfl ?_)
    refine sw_csL (n := 3) h hL (wt1_loadCurrent hfl _ hB.1) gl_260 gl_261 gl_252 gl_262 ⟨by decide +kernel, by decide +kernel, by decide +kernel⟩ ⟨by decide +kernel, by decide +kernel⟩ dL_law_443 (rest := []) rfl rfl (Nat.le_of_ble_eq_true rfl) hr ?_
    rintro _ _ ⟨rfl, rfl⟩
    obtain ⟨P2, q2, hQ⟩ := hB.2 _ mid_rf
    have hT := kL_law_c3 h'
    show SW (xc X (cC X + 1) (sC X + 6)) mL_law 446 _ [.int 1] _
    repeat (refine sw_s hT rfl rfl ?_)
    refine sw_sld h' hL' dL_law_454 j1 ?_
    repeat (refine sw_s hT rfl rfl ?_)
    refine sw_cvR hT rfl (q2) rfl rfl rfl rfl (Nat.le_of_ble_eq_true rfl) ?_
    intro r2 z hz2
    obtain ⟨rfl, z0, zl, z95, hI2⟩ := hQ r2 z hz2
    show SW _ mL_law 458 _ [.int 0] z
    repeat (refine sw_s hT rfl rfl ?_)
    refine sw_cv hT rfl (r_thrown _ z) rfl rfl rfl rfl (Nat.le_of_ble_eq_true rfl) ?_
    rw [z0]
    repeat (refine sw_s hT rfl rfl ?_)
    refine sw_b hT rfl rfl (fun _ => ?_) (fun c => absurd (rfl) c)
    repeat (refine sw_s hT rfl rfl ?_)
    refine sw_b hT rfl rfl (fun c => absurd c ((by decide))) (fun _ => ?_)
    repeat (first | (refine sw_at (n := 1931) rfl ?_; exact (sw_pick [2, 3, 4, 5, 6, 7] rfl (K z hI2))) | refine sw_s hT rfl rfl ?_)
set_option maxHeartbeats 1000000 in
theorem lc_4 {X : Ctx} {b L : Nat} {xs : Nat → Int32} (h : sCx X mL_law) (hL : lCx X b L xs) (hL2 : L ≤ 2560) (hr : rmOK X (cC X + 1) (sC X + 6)) {i : Nat} (hi : i + 5 ≤ L) {x : Hp} (hx : INVX x) (K : ∀ z, INVX z → SW (xc X (cC X + 1) (sC X + 6)) mL_law 1931 (L0 i) [] z) : SW X mL_law 491 (L0 i) [] x := by
  obtain ⟨n, ne, i', c', hI⟩ := hx
  have hfl := lc_fl hL
  have h' := xc_s h hr
  have hL' : lCx (xc X (cC X + 1) (sC X + 6)) b L xs := xc_l hL
  have j1 : vp_in (nI i + 1) L := lc_in hL2 hi (by omega : 1 < 5) (by decide)
  have j2 : vp_in (nI i + 2) L := lc_in hL2 hi (by omega : 2 < 5) (by decide)
  rcases op_faultCurrent (Y := xk X) hfl hI (xs (nI i + 1).toNatClampNeg) (xs (nI i + 2).toNatClampNeg) with hG | hB
  · obtain ⟨P, p6, hP⟩ := hG
    have hT := kL_law_c4 h
    repeat (refine sw_s hT rfl rfl ?_)
    refine sw_sld h hL dL_law_497 j1 ?_
    repeat (refine sw_s hT rfl rfl ?_)
    refine sw_sld h hL dL_law_503 j2 ?_
    repeat (refine sw_s hT rfl rfl ?_)
    refine sw_csL (n := 4) h hL (wn_faultCurrent _ _ p6 (fun rr y hp => by obtain ⟨v, rfl, hv, -⟩ := hP rr y hp; obtain ⟨w, rfl, -⟩ := vk_d hv rfl; exact ⟨w, rfl⟩)) gl_263 gl_264 gl_252 gl_265 ⟨by decide +kernel, by decide +kernel, by decide +kernel⟩ ⟨by decide +kernel, by decide +kernel⟩ dL_law_506 (rest := []) rfl rfl (Nat.le_of_ble_eq_true rfl) hr ?_
    rintro _ _ ⟨rfl, v, y, hp, rfl⟩
    obtain ⟨v', hv', hok, hR⟩ := hP _ _ hp
    cases hv'
    obtain ⟨P2, q2, hQ⟩ := hR (y.1, u2 y.2.1 95 0 v, y.2.2) ⟨rfl, fun a ha => u2_ne ha⟩
    have hT := kL_law_c4 h'
    show SW (xc X (cC X + 1) (sC X + 6)) mL_law 509 _ [.int 0] _
    repeat (refine sw_s hT rfl rfl ?_)
    refine sw_sld h' hL' dL_law_517 j1 ?_
    repeat (refine sw_s hT rfl rfl ?_)
    refine sw_sld h' hL' dL_law_523 j2 ?_
    repeat (refine sw_s hT rfl rfl ?_)
    refine sw_cvR hT rfl (q2) rfl rfl rfl rfl (Nat.le_of_ble_eq_true rfl) ?_
    intro r2 z hz2
    obtain ⟨rfl, z0, zl, z95, hI2⟩ := hQ r2 z hz2
    show SW _ mL_law 527 _ [.double v] z
    repeat (refine sw_s hT rfl rfl ?_)
    refine sw_cv hT rfl (r_thrown _ z) rfl rfl rfl rfl (Nat.le_of_ble_eq_true rfl) ?_
    rw [z0]
    repeat (refine sw_s hT rfl rfl ?_)
    refine sw_b hT rfl rfl (fun _ => ?_) (fun c => absurd (rfl) c)
    repeat (refine sw_s hT rfl rfl ?_)
    refine sw_b hT rfl rfl (fun _ => ?_) (fun c => absurd (rfl) c)
    repeat (refine sw_s hT rfl rfl ?_)
    have zv : z.2.1 95 (0 : Int32).toNatClampNeg = v := by rw [z95]; exact u2_at y.2.1 95 0 v
    refine sw_dald hT rfl rfl (in01) ?_
    rw [zv]
    repeat (refine sw_s hT rfl rfl ?_)
    refine sw_b hT rfl rfl (fun _ => ?_) (fun c => absurd ((zb_eq hok.2)) c)
    repeat (first | (refine sw_at (n := 1931) rfl ?_; exact (sw_pick [2, 3, 4, 5, 6, 7] rfl (K z hI2))) | refine sw_s hT rfl rfl ?_)
  · have hT := kL_law_c4 h
    repeat (refine sw_s hT rfl rfl ?_)
    refine sw_sld h hL dL_law_497 j1 ?_
    repeat (refine sw_s hT rfl rfl ?_)
    refine sw_sld h hL dL_law_503 j2 ?_
    repeat (refine sw_s hT rfl rfl ?_)
    refine sw_csL (n := 4) h hL (wt1_faultCurrent hfl _ _ hB.1) gl_263 gl_264 gl_252 gl_265 ⟨by decide +kernel, by decide +kernel, by decide +kernel⟩ ⟨by decide +kernel, by decide +kernel⟩ dL_law_506 (rest := []) rfl rfl (Nat.le_of_ble_eq_true rfl) hr ?_
    rintro _ _ ⟨rfl, rfl⟩
    obtain ⟨P2, q2, hQ⟩ := hB.2 _ mid_rf
    have hT := kL_law_c4 h'
    show SW (xc X (cC X + 1) (sC X + 6)) mL_law 509 _ [.int 1] _
    repeat (refine sw_s hT rfl rfl ?_)
    refine sw_sld h' hL' dL_law_517 j1 ?_
    repeat (refine sw_s hT rfl rfl ?_)
    refine sw_sld h' hL' dL_law_523 j2 ?_
    repeat (refine sw_s hT rfl rfl ?_)
    refine sw_cvR hT rfl (q2) rfl rfl rfl rfl (Nat.le_of_ble_eq_true rfl) ?_
    intro r2 z hz2
    obtain ⟨rfl, z0, zl, z95, hI2⟩ := hQ r2 z hz2
    show SW _ mL_law 527 _ [.double 0] z
    repeat (refine sw_s hT rfl rfl ?_)
    refine sw_cv hT rfl (r_thrown _ z) rfl rfl rfl rfl (Nat.le_of_ble_eq_true rfl) ?_
    rw [z0]
    repeat (refine sw_s hT rfl rfl ?_)
    refine sw_b hT rfl rfl (fun _ => ?_) (fun c => absurd (rfl) c)
    repeat (refine sw_s hT rfl rfl ?_)
    refine sw_b hT rfl rfl (fun c => absurd c ((by decide))) (fun _ => ?_)
    repeat (first | (refine sw_at (n := 1931) rfl ?_; exact (sw_pick [2, 3, 4, 5, 6, 7] rfl (K z hI2))) | refine sw_s hT rfl rfl ?_)
set_option maxHeartbeats 1000000 in
theorem lc_5 {X : Ctx} {b L : Nat} {xs : Nat → Int32} (h : sCx X mL_law) (hL : lCx X b L xs) (hL2 : L ≤ 2560) (hr : rmOK X (cC X + 1) (sC X + 6)) {i : Nat} (hi : i + 5 ≤ L) {x : Hp} (hx : INVX x) (K : ∀ z, INVX z → SW (xc X (cC X + 1) (sC X + 6)) mL_law 1931 (L0 i) [] z) : SW X mL_law 580 (L0 i) [] x := by
  obtain ⟨n, ne, i', c', hI⟩ := hx
  have hfl := lc_fl hL
  have h' := xc_s h hr
  have hL' : lCx (xc X (cC X + 1) (sC X + 6)) b L xs := xc_l hL
  have j1 : vp_in (nI i + 1) L := lc_in hL2 hi (by omega : 1 < 5) (by decide)
  have j2 : vp_in (nI i + 2) L := lc_in hL2 hi (by omega : 2 < 5) (by decide)
  have j3 : vp_in (nI i + 3) L := lc_in hL2 hi (by omega : 3 < 5) (by decide)
  have j4 : vp_in (nI i + 4) L := lc_in hL2 hi (by omega : 4 < 5) (by decide)
  rcases op_setRelay (Y := xk X) hfl hI (xs (nI i + 1).toNatClampNeg) (xs (nI i + 2).toNatClampNeg) (xs (nI i + 3).toNatClampNeg) (xs (nI i + 4).toNatClampNeg) with hG | hB
  · obtain ⟨P, p6, hP⟩ := hG
    have hT := kL_law_c5 h
    repeat (refine sw_s hT rfl rfl ?_)
    refine sw_sld h hL dL_law_586 j1 ?_
    repeat (refine sw_s hT rfl rfl ?_)
    refine sw_sld h hL dL_law_592 j2 ?_
    repeat (refine sw_s hT rfl rfl ?_)
    refine sw_sld h hL dL_law_598 j3 ?_
    repeat (refine sw_s hT rfl rfl ?_)
    refine sw_sld h hL dL_law_604 j4 ?_
    repeat (refine sw_s hT rfl rfl ?_)
    refine sw_csL (n := 6) h hL (wn_setRelay _ _ _ _ p6 (fun rr y hp => by obtain ⟨v, rfl, hv, -⟩ := hP rr y hp; obtain ⟨w, rfl⟩ := vk_i hv (Or.inl rfl); exact ⟨w, rfl⟩)) gl_266 gl_267 gl_252 gl_268 ⟨by decide +kernel, by decide +kernel, by decide +kernel⟩ ⟨by decide +kernel, by decide +kernel⟩ dL_law_606 (rest := []) rfl rfl (Nat.le_of_ble_eq_true rfl) hr ?_
    rintro _ _ ⟨rfl, v, y, hp, rfl⟩
    obtain ⟨v', hv', hok, hR⟩ := hP _ _ hp
    cases hv'
    obtain ⟨P2, q2, hQ⟩ := hR (y.1, y.2.1, u2 y.2.2 94 0 v.toInt64) ⟨rfl, fun a ha => rfl⟩
    have hT := kL_law_c5 h'
    show SW (xc X (cC X + 1) (sC X + 6)) mL_law 609 _ [.int 0] _
    repeat (refine sw_s hT rfl rfl ?_)
    refine sw_sld h' hL' dL_law_617 j1 ?_
    repeat (refine sw_s hT rfl rfl ?_)
    refine sw_sld h' hL' dL_law_623 j2 ?_
    repeat (refine sw_s hT rfl rfl ?_)
    refine sw_sld h' hL' dL_law_629 j3 ?_
    repeat (refine sw_s hT rfl rfl ?_)
    refine sw_sld h' hL' dL_law_635 j4 ?_
    repeat (refine sw_s hT rfl rfl ?_)
    refine sw_cvR hT rfl (q2) rfl rfl rfl rfl (Nat.le_of_ble_eq_true rfl) ?_
    intro r2 z hz2
    obtain ⟨rfl, z0, zl, z95, hI2⟩ := hQ r2 z hz2
    show SW _ mL_law 639 _ [.int v] z
    repeat (refine sw_s hT rfl rfl ?_)
    refine sw_cv hT rfl (r_thrown _ z) rfl rfl rfl rfl (Nat.le_of_ble_eq_true rfl) ?_
    rw [z0]
    repeat (refine sw_s hT rfl rfl ?_)
    refine sw_b hT rfl rfl (fun _ => ?_) (fun c => absurd (rfl) c)
    repeat (refine sw_s hT rfl rfl ?_)
    refine sw_b hT rfl rfl (fun _ => ?_) (fun c => absurd (rfl) c)
    repeat (refine sw_s hT rfl rfl ?_)
    have zv : z.2.2 94 (0 : Int32).toNatClampNeg = v.toInt64 := by rw [zl]; exact u2_at y.2.2 94 0 v.toInt64
    refine sw_lald hT rfl rfl (in01) ?_
    rw [zv]
    repeat (refine sw_s hT rfl rfl ?_)
    refine sw_b hT rfl rfl (fun _ => ?_) (fun c => absurd (lc_cmp) c)
    repeat (first | (refine sw_at (n := 1931) rfl ?_; exact (sw_pick [2, 3, 4, 5, 6, 7] rfl (K z hI2))) | refine sw_s hT rfl rfl ?_)
  · have hT := kL_law_c5 h
    repeat (refine sw_s hT rfl rfl ?_)
    refine sw_sld h hL dL_law_586 j1 ?_
    repeat (refine sw_s hT rfl rfl ?_)
    refine sw_sld h hL dL_law_592 j2 ?_
    repeat (refine sw_s hT rfl rfl ?_)
    refine sw_sld h hL dL_law_598 j3 ?_
    repeat (refine sw_s hT rfl rfl ?_)
    refine sw_sld h hL dL_law_604 j4 ?_
    repeat (refine sw_s hT rfl rfl ?_)
    refine sw_csL (n := 6) h hL (wt1_setRelay hfl _ _ _ _ hB.1) gl_266 gl_267 gl_252 gl_268 ⟨by decide +kernel, by decide +kernel, by decide +kernel⟩ ⟨by decide +kernel, by decide +kernel⟩ dL_law_606 (rest := []) rfl rfl (Nat.le_of_ble_eq_true rfl) hr ?_
    rintro _ _ ⟨rfl, rfl⟩
    obtain ⟨P2, q2, hQ⟩ := hB.2 _ mid_rf
    have hT := kL_law_c5 h'
    show SW (xc X (cC X + 1) (sC X + 6)) mL_law 609 _ [.int 1] _
    repeat (refine sw_s hT rfl rfl ?_)
    refine sw_sld h' hL' dL_law_617 j1 ?_
    repeat (refine sw_s hT rfl rfl ?_)
    refine sw_sld h' hL' dL_law_623 j2 ?_
    repeat (refine sw_s hT rfl rfl ?_)
    refine sw_sld h' hL' dL_law_629 j3 ?_
    repeat (refine sw_s hT rfl rfl ?_)
    refine sw_sld h' hL' dL_law_635 j4 ?_
    repeat (refine sw_s hT rfl rfl ?_)
    refine sw_cvR hT rfl (q2) rfl rfl rfl rfl (Nat.le_of_ble_eq_true rfl) ?_
    intro r2 z hz2
    obtain ⟨rfl, z0, zl, z95, hI2⟩ := hQ r2 z hz2
    show SW _ mL_law 639 _ [.int 0] z
    repeat (refine sw_s hT rfl rfl ?_)
    refine sw_cv hT rfl (r_thrown _ z) rfl rfl rfl rfl (Nat.le_of_ble_eq_true rfl) ?_
    rw [z0]
    repeat (refine sw_s hT rfl rfl ?_)
    refine sw_b hT rfl rfl (fun _ => ?_) (fun c => absurd (rfl) c)
    repeat (refine sw_s hT rfl rfl ?_)
    refine sw_b hT rfl rfl (fun c => absurd c ((by decide))) (fun _ => ?_)
    repeat (first | (refine sw_at (n := 1931) rfl ?_; exact (sw_pick [2, 3, 4, 5, 6, 7] rfl (K z hI2))) | refine sw_s hT rfl rfl ?_)
set_option maxHeartbeats 1000000 in
theorem lc_6 {X : Ctx} {b L : Nat} {xs : Nat → Int32} (h : sCx X mL_law) (hL : lCx X b L xs) (hL2 : L ≤ 2560) (hr : rmOK X (cC X + 1) (sC X + 6)) {i : Nat} (hi : i + 5 ≤ L) {x : Hp} (hx : INVX x) (K : ∀ z, INVX z → SW (xc X (cC X + 1) (sC X + 6)) mL_law 1931 (L0 i) [] z) : SW X mL_law 672 (L0 i) [] x := by
  obtain ⟨n, ne, i', c', hI⟩ := hx
  have hfl := lc_fl hL
  have h' := xc_s h hr
  have hL' : lCx (xc X (cC X + 1) (sC X + 6)) b L xs := xc_l hL
  have j1 : vp_in (nI i + 1) L := lc_in hL2 hi (by omega : 1 < 5) (by decide)
  have j2 : vp_in (nI i + 2) L := lc_in hL2 hi (by omega : 2 < 5) (by decide)
  rcases op_setInstantaneous (Y := xk X) hfl hI (xs (nI i + 1).toNatClampNeg) (xs (nI i + 2).toNatClampNeg) with hG | hB
  · obtain ⟨P, p6, hP⟩ := hG
    have hT := kL_law_c6 h
    repeat (refine sw_s hT rfl rfl ?_)
    refine sw_sld h hL dL_law_678 j1 ?_
    repeat (refine sw_s hT rfl rfl ?_)
    refine sw_sld h hL dL_law_684 j2 ?_
    repeat (refine sw_s hT rfl rfl ?_)
    refine sw_csL (n := 4) h hL (wn_setInstantaneous _ _ p6 (fun rr y hp => by obtain ⟨v, rfl, hv, -⟩ := hP rr y hp; obtain ⟨w, rfl⟩ := vk_i hv (Or.inl rfl); exact ⟨w, rfl⟩)) gl_269 gl_270 gl_252 gl_271 ⟨by decide +kernel, by decide +kernel, by decide +kernel⟩ ⟨by decide +kernel, by decide +kernel⟩ dL_law_686 (rest := []) rfl rfl (Nat.le_of_ble_eq_true rfl) hr ?_
    rintro _ _ ⟨rfl, v, y, hp, rfl⟩
    obtain ⟨v', hv', hok, hR⟩ := hP _ _ hp
    cases hv'
    obtain ⟨P2, q2, hQ⟩ := hR (y.1, y.2.1, u2 y.2.2 94 0 v.toInt64) ⟨rfl, fun a ha => rfl⟩
    have hT := kL_law_c6 h'
    show SW (xc X (cC X + 1) (sC X + 6)) mL_law 689 _ [.int 0] _
    repeat (refine sw_s hT rfl rfl ?_)
    refine sw_sld h' hL' dL_law_697 j1 ?_
    repeat (refine sw_s hT rfl rfl ?_)
    refine sw_sld h' hL' dL_law_703 j2 ?_
    repeat (refine sw_s hT rfl rfl ?_)
    refine sw_cvR hT rfl (q2) rfl rfl rfl rfl (Nat.le_of_ble_eq_true rfl) ?_
    intro r2 z hz2
    obtain ⟨rfl, z0, zl, z95, hI2⟩ := hQ r2 z hz2
    show SW _ mL_law 707 _ [.int v] z
    repeat (refine sw_s hT rfl rfl ?_)
    refine sw_cv hT rfl (r_thrown _ z) rfl rfl rfl rfl (Nat.le_of_ble_eq_true rfl) ?_
    rw [z0]
    repeat (refine sw_s hT rfl rfl ?_)
    refine sw_b hT rfl rfl (fun _ => ?_) (fun c => absurd (rfl) c)
    repeat (refine sw_s hT rfl rfl ?_)
    refine sw_b hT rfl rfl (fun _ => ?_) (fun c => absurd (rfl) c)
    repeat (refine sw_s hT rfl rfl ?_)
    have zv : z.2.2 94 (0 : Int32).toNatClampNeg = v.toInt64 := by rw [zl]; exact u2_at y.2.2 94 0 v.toInt64
    refine sw_lald hT rfl rfl (in01) ?_
    rw [zv]
    repeat (refine sw_s hT rfl rfl ?_)
    refine sw_b hT rfl rfl (fun _ => ?_) (fun c => absurd (lc_cmp) c)
    repeat (first | (refine sw_at (n := 1931) rfl ?_; exact (sw_pick [2, 3, 4, 5, 6, 7] rfl (K z hI2))) | refine sw_s hT rfl rfl ?_)
  · have hT := kL_law_c6 h
    repeat (refine sw_s hT rfl rfl ?_)
    refine sw_sld h hL dL_law_678 j1 ?_
    repeat (refine sw_s hT rfl rfl ?_)
    refine sw_sld h hL dL_law_684 j2 ?_
    repeat (refine sw_s hT rfl rfl ?_)
    refine sw_csL (n := 4) h hL (wt1_setInstantaneous hfl _ _ hB.1) gl_269 gl_270 gl_252 gl_271 ⟨by decide +kernel, by decide +kernel, by decide +kernel⟩ ⟨by decide +kernel, by decide +kernel⟩ dL_law_686 (rest := []) rfl rfl (Nat.le_of_ble_eq_true rfl) hr ?_
    rintro _ _ ⟨rfl, rfl⟩
    obtain ⟨P2, q2, hQ⟩ := hB.2 _ mid_rf
    have hT := kL_law_c6 h'
    show SW (xc X (cC X + 1) (sC X + 6)) mL_law 689 _ [.int 1] _
    repeat (refine sw_s hT rfl rfl ?_)
    refine sw_sld h' hL' dL_law_697 j1 ?_
    repeat (refine sw_s hT rfl rfl ?_)
    refine sw_sld h' hL' dL_law_703 j2 ?_
    repeat (refine sw_s hT rfl rfl ?_)
    refine sw_cvR hT rfl (q2) rfl rfl rfl rfl (Nat.le_of_ble_eq_true rfl) ?_
    intro r2 z hz2
    obtain ⟨rfl, z0, zl, z95, hI2⟩ := hQ r2 z hz2
    show SW _ mL_law 707 _ [.int 0] z
    repeat (refine sw_s hT rfl rfl ?_)
    refine sw_cv hT rfl (r_thrown _ z) rfl rfl rfl rfl (Nat.le_of_ble_eq_true rfl) ?_
    rw [z0]
    repeat (refine sw_s hT rfl rfl ?_)
    refine sw_b hT rfl rfl (fun _ => ?_) (fun c => absurd (rfl) c)
    repeat (refine sw_s hT rfl rfl ?_)
    refine sw_b hT rfl rfl (fun c => absurd c ((by decide))) (fun _ => ?_)
    repeat (first | (refine sw_at (n := 1931) rfl ?_; exact (sw_pick [2, 3, 4, 5, 6, 7] rfl (K z hI2))) | refine sw_s hT rfl rfl ?_)
set_option maxHeartbeats 1000000 in
theorem lc_7 {X : Ctx} {b L : Nat} {xs : Nat → Int32} (h : sCx X mL_law) (hL : lCx X b L xs) (hL2 : L ≤ 2560) (hr : rmOK X (cC X + 1) (sC X + 6)) {i : Nat} (hi : i + 5 ≤ L) {x : Hp} (hx : INVX x) (K : ∀ z, INVX z → SW (xc X (cC X + 1) (sC X + 6)) mL_law 1931 (L0 i) [] z) : SW X mL_law 740 (L0 i) [] x := by
  obtain ⟨n, ne, i', c', hI⟩ := hx
  have hfl := lc_fl hL
  have h' := xc_s h hr
  have hL' : lCx (xc X (cC X + 1) (sC X + 6)) b L xs := xc_l hL
  have j1 : vp_in (nI i + 1) L := lc_in hL2 hi (by omega : 1 < 5) (by decide)
  have j2 : vp_in (nI i + 2) L := lc_in hL2 hi (by omega : 2 < 5) (by decide)
  rcases op_setShots (Y := xk X) hfl hI (xs (nI i + 1).toNatClampNeg) (xs (nI i + 2).toNatClampNeg) with hG | hB
  · obtain ⟨P, p6, hP⟩ := hG
    have hT := kL_law_c7 h
    repeat (refine sw_s hT rfl rfl ?_)
    refine sw_sld h hL dL_law_746 j1 ?_
    repeat (refine sw_s hT rfl rfl ?_)
    refine sw_sld h hL dL_law_752 j2 ?_
    repeat (refine sw_s hT rfl rfl ?_)
    refine sw_csL (n := 4) h hL (wn_setShots _ _ p6 (fun rr y hp => by obtain ⟨v, rfl, hv, -⟩ := hP rr y hp; obtain ⟨w, rfl⟩ := vk_i hv (Or.inl rfl); exact ⟨w, rfl⟩)) gl_272 gl_273 gl_252 gl_274 ⟨by decide +kernel, by decide +kernel, by decide +kernel⟩ ⟨by decide +kernel, by decide +kernel⟩ dL_law_754 (rest := []) rfl rfl (Nat.le_of_ble_eq_true rfl) hr ?_
    rintro _ _ ⟨rfl, v, y, hp, rfl⟩
    obtain ⟨v', hv', hok, hR⟩ := hP _ _ hp
    cases hv'
    obtain ⟨P2, q2, hQ⟩ := hR (y.1, y.2.1, u2 y.2.2 94 0 v.toInt64) ⟨rfl, fun a ha => rfl⟩
    have hT := kL_law_c7 h'
    show SW (xc X (cC X + 1) (sC X + 6)) mL_law 757 _ [.int 0] _
    repeat (refine sw_s hT rfl rfl ?_)
    refine sw_sld h' hL' dL_law_765 j1 ?_
    repeat (refine sw_s hT rfl rfl ?_)
    refine sw_sld h' hL' dL_law_771 j2 ?_
    repeat (refine sw_s hT rfl rfl ?_)
    refine sw_cvR hT rfl (q2) rfl rfl rfl rfl (Nat.le_of_ble_eq_true rfl) ?_
    intro r2 z hz2
    obtain ⟨rfl, z0, zl, z95, hI2⟩ := hQ r2 z hz2
    show SW _ mL_law 775 _ [.int v] z
    repeat (refine sw_s hT rfl rfl ?_)
    refine sw_cv hT rfl (r_thrown _ z) rfl rfl rfl rfl (Nat.le_of_ble_eq_true rfl) ?_
    rw [z0]
    repeat (refine sw_s hT rfl rfl ?_)
    refine sw_b hT rfl rfl (fun _ => ?_) (fun c => absurd (rfl) c)
    repeat (refine sw_s hT rfl rfl ?_)
    refine sw_b hT rfl rfl (fun _ => ?_) (fun c => absurd (rfl) c)
    repeat (refine sw_s hT rfl rfl ?_)
    have zv : z.2.2 94 (0 : Int32).toNatClampNeg = v.toInt64 := by rw [zl]; exact u2_at y.2.2 94 0 v.toInt64
    refine sw_lald hT rfl rfl (in01) ?_
    rw [zv]
    repeat (refine sw_s hT rfl rfl ?_)
    refine sw_b hT rfl rfl (fun _ => ?_) (fun c => absurd (lc_cmp) c)
    repeat (first | (refine sw_at (n := 1931) rfl ?_; exact (sw_pick [2, 3, 4, 5, 6, 7] rfl (K z hI2))) | refine sw_s hT rfl rfl ?_)
  · have hT := kL_law_c7 h
    repeat (refine sw_s hT rfl rfl ?_)
    refine sw_sld h hL dL_law_746 j1 ?_
    repeat (refine sw_s hT rfl rfl ?_)
    refine sw_sld h hL dL_law_752 j2 ?_
    repeat (refine sw_s hT rfl rfl ?_)
    refine sw_csL (n := 4) h hL (wt1_setShots hfl _ _ hB.1) gl_272 gl_273 gl_252 gl_274 ⟨by decide +kernel, by decide +kernel, by decide +kernel⟩ ⟨by decide +kernel, by decide +kernel⟩ dL_law_754 (rest := []) rfl rfl (Nat.le_of_ble_eq_true rfl) hr ?_
    rintro _ _ ⟨rfl, rfl⟩
    obtain ⟨P2, q2, hQ⟩ := hB.2 _ mid_rf
    have hT := kL_law_c7 h'
    show SW (xc X (cC X + 1) (sC X + 6)) mL_law 757 _ [.int 1] _
    repeat (refine sw_s hT rfl rfl ?_)
    refine sw_sld h' hL' dL_law_765 j1 ?_
    repeat (refine sw_s hT rfl rfl ?_)
    refine sw_sld h' hL' dL_law_771 j2 ?_
    repeat (refine sw_s hT rfl rfl ?_)
    refine sw_cvR hT rfl (q2) rfl rfl rfl rfl (Nat.le_of_ble_eq_true rfl) ?_
    intro r2 z hz2
    obtain ⟨rfl, z0, zl, z95, hI2⟩ := hQ r2 z hz2
    show SW _ mL_law 775 _ [.int 0] z
    repeat (refine sw_s hT rfl rfl ?_)
    refine sw_cv hT rfl (r_thrown _ z) rfl rfl rfl rfl (Nat.le_of_ble_eq_true rfl) ?_
    rw [z0]
    repeat (refine sw_s hT rfl rfl ?_)
    refine sw_b hT rfl rfl (fun _ => ?_) (fun c => absurd (rfl) c)
    repeat (refine sw_s hT rfl rfl ?_)
    refine sw_b hT rfl rfl (fun c => absurd c ((by decide))) (fun _ => ?_)
    repeat (first | (refine sw_at (n := 1931) rfl ?_; exact (sw_pick [2, 3, 4, 5, 6, 7] rfl (K z hI2))) | refine sw_s hT rfl rfl ?_)
set_option maxHeartbeats 1000000 in
theorem lc_8 {X : Ctx} {b L : Nat} {xs : Nat → Int32} (h : sCx X mL_law) (hL : lCx X b L xs) (hL2 : L ≤ 2560) (hr : rmOK X (cC X + 1) (sC X + 6)) {i : Nat} (hi : i + 5 ≤ L) {x : Hp} (hx : INVX x) (K : ∀ z, INVX z → SW (xc X (cC X + 1) (sC X + 6)) mL_law 1931 (L0 i) [] z) : SW X mL_law 808 (L0 i) [] x := by
  obtain ⟨n, ne, i', c', hI⟩ := hx
  have hfl := lc_fl hL
  have h' := xc_s h hr
  have hL' : lCx (xc X (cC X + 1) (sC X + 6)) b L xs := xc_l hL
  have j1 : vp_in (nI i + 1) L := lc_in hL2 hi (by omega : 1 < 5) (by decide)
  have j2 : vp_in (nI i + 2) L := lc_in hL2 hi (by omega : 2 < 5) (by decide)
  obtain ⟨bb, hbb⟩ : ∃ bb : Int32, (xs (nI i + 2).toNatClampNeg = 0 ∧ bb = 0) ∨ (¬ xs (nI i + 2).toNatClampNeg = 0 ∧ bb = 1) := by
    by_cases q : xs (nI i + 2).toNatClampNeg = 0
    · exact ⟨0, Or.inl ⟨q, rfl⟩⟩
    · exact ⟨1, Or.inr ⟨q, rfl⟩⟩
  rcases hbb with ⟨hz, rfl⟩ | ⟨hz, rfl⟩
  · rcases op_setStuck (Y := xk X) hfl hI (xs (nI i + 1).toNatClampNeg) 0 with hG | hB
    · obtain ⟨P, p6, hP⟩ := hG
      have hT := kL_law_c8 h
      repeat (refine sw_s hT rfl rfl ?_)
      refine sw_sld h hL dL_law_814 j1 ?_
      repeat (refine sw_s hT rfl rfl ?_)
      refine sw_sld h hL dL_law_820 j2 ?_
      refine sw_b hT rfl rfl (fun _ => ?_) (fun c => absurd (hz) c)
      repeat (refine sw_s hT rfl rfl ?_)
      refine sw_csL (n := 4) h hL (wn_setStuck _ _ p6 (fun rr y hp => by obtain ⟨v, rfl, hv, -⟩ := hP rr y hp; obtain ⟨w, rfl⟩ := vk_i hv (Or.inr rfl); exact ⟨w, rfl⟩)) gl_275 gl_276 gl_252 gl_277 ⟨by decide +kernel, by decide +kernel, by decide +kernel⟩ ⟨by decide +kernel, by decide +kernel⟩ dL_law_830 (rest := []) rfl rfl (Nat.le_of_ble_eq_true rfl) hr ?_
      rintro _ _ ⟨rfl, v, y, hp, rfl⟩
      obtain ⟨v', hv', hok, hR⟩ := hP _ _ hp
      cases hv'
      obtain ⟨P2, q2, hQ⟩ := hR (y.1, y.2.1, u2 y.2.2 94 0 (if v = 0 then 0 else 1)) ⟨rfl, fun a ha => rfl⟩
      have hT := kL_law_c8 h'
      show SW (xc X (cC X + 1) (sC X + 6)) mL_law 833 _ [.int 0] _
      repeat (refine sw_s hT rfl rfl ?_)
      refine sw_sld h' hL' dL_law_841 j1 ?_
      repeat (refine sw_s hT rfl rfl ?_)
      refine sw_sld h' hL' dL_law_847 j2 ?_
      refine sw_b hT rfl rfl (fun _ => ?_) (fun c => absurd (hz) c)
      repeat (refine sw_s hT rfl rfl ?_)
      refine sw_cvR hT rfl (q2) rfl rfl rfl rfl (Nat.le_of_ble_eq_true rfl) ?_
      intro r2 z hz2
      obtain ⟨rfl, z0, zl, z95, hI2⟩ := hQ r2 z hz2
      show SW _ mL_law 859 _ [.int v] z
      repeat (refine sw_s hT rfl rfl ?_)
      refine sw_cv hT rfl (r_thrown _ z) rfl rfl rfl rfl (Nat.le_of_ble_eq_true rfl) ?_
      rw [z0]
      repeat (refine sw_s hT rfl rfl ?_)
      refine sw_b hT rfl rfl (fun _ => ?_) (fun c => absurd (rfl) c)
      repeat (refine sw_s hT rfl rfl ?_)
      refine sw_b hT rfl rfl (fun _ => ?_) (fun c => absurd (rfl) c)
      repeat (refine sw_s hT rfl rfl ?_)
      have zv : z.2.2 94 (0 : Int32).toNatClampNeg = (if v = 0 then 0 else 1) := by rw [zl]; exact u2_at y.2.2 94 0 _
      refine sw_lald hT rfl rfl (in01) ?_
      rw [zv]
      repeat (refine sw_s hT rfl rfl ?_)
      refine sw_b hT rfl rfl (fun cv => ?_) (fun cv => ?_)
      · rw [if_pos cv]
        repeat (refine sw_s hT rfl rfl ?_)
        refine sw_b hT rfl rfl (fun _ => ?_) (fun c => absurd (lc_cmp) c)
        repeat (first | (refine sw_at (n := 1931) rfl ?_; exact (sw_pick [2, 3, 4, 5, 6, 7] rfl (K z hI2))) | refine sw_s hT rfl rfl ?_)
      · rw [if_neg cv]
        repeat (refine sw_s hT rfl rfl ?_)
        refine sw_b hT rfl rfl (fun _ => ?_) (fun c => absurd (lc_cmp) c)
        repeat (first | (refine sw_at (n := 1931) rfl ?_; exact (sw_pick [2, 3, 4, 5, 6, 7] rfl (K z hI2))) | refine sw_s hT rfl rfl ?_)
    · have hT := kL_law_c8 h
      repeat (refine sw_s hT rfl rfl ?_)
      refine sw_sld h hL dL_law_814 j1 ?_
      repeat (refine sw_s hT rfl rfl ?_)
      refine sw_sld h hL dL_law_820 j2 ?_
      refine sw_b hT rfl rfl (fun _ => ?_) (fun c => absurd (hz) c)
      repeat (refine sw_s hT rfl rfl ?_)
      refine sw_csL (n := 4) h hL (wt1_setStuck hfl _ _ hB.1) gl_275 gl_276 gl_252 gl_277 ⟨by decide +kernel, by decide +kernel, by decide +kernel⟩ ⟨by decide +kernel, by decide +kernel⟩ dL_law_830 (rest := []) rfl rfl (Nat.le_of_ble_eq_true rfl) hr ?_
      rintro _ _ ⟨rfl, rfl⟩
      obtain ⟨P2, q2, hQ⟩ := hB.2 _ mid_rf
      have hT := kL_law_c8 h'
      show SW (xc X (cC X + 1) (sC X + 6)) mL_law 833 _ [.int 1] _
      repeat (refine sw_s hT rfl rfl ?_)
      refine sw_sld h' hL' dL_law_841 j1 ?_
      repeat (refine sw_s hT rfl rfl ?_)
      refine sw_sld h' hL' dL_law_847 j2 ?_
      refine sw_b hT rfl rfl (fun _ => ?_) (fun c => absurd (hz) c)
      repeat (refine sw_s hT rfl rfl ?_)
      refine sw_cvR hT rfl (q2) rfl rfl rfl rfl (Nat.le_of_ble_eq_true rfl) ?_
      intro r2 z hz2
      obtain ⟨rfl, z0, zl, z95, hI2⟩ := hQ r2 z hz2
      show SW _ mL_law 859 _ [.int 0] z
      repeat (refine sw_s hT rfl rfl ?_)
      refine sw_cv hT rfl (r_thrown _ z) rfl rfl rfl rfl (Nat.le_of_ble_eq_true rfl) ?_
      rw [z0]
      repeat (refine sw_s hT rfl rfl ?_)
      refine sw_b hT rfl rfl (fun _ => ?_) (fun c => absurd (rfl) c)
      repeat (refine sw_s hT rfl rfl ?_)
      refine sw_b hT rfl rfl (fun c => absurd c ((by decide))) (fun _ => ?_)
      repeat (first | (refine sw_at (n := 1931) rfl ?_; exact (sw_pick [2, 3, 4, 5, 6, 7] rfl (K z hI2))) | refine sw_s hT rfl rfl ?_)
  · rcases op_setStuck (Y := xk X) hfl hI (xs (nI i + 1).toNatClampNeg) 1 with hG | hB
    · obtain ⟨P, p6, hP⟩ := hG
      have hT := kL_law_c8 h
      repeat (refine sw_s hT rfl rfl ?_)
      refine sw_sld h hL dL_law_814 j1 ?_
      repeat (refine sw_s hT rfl rfl ?_)
      refine sw_sld h hL dL_law_820 j2 ?_
      refine sw_b hT rfl rfl (fun c => absurd c (hz)) (fun _ => ?_)
      repeat (refine sw_s hT rfl rfl ?_)
      refine sw_csL (n := 4) h hL (wn_setStuck _ _ p6 (fun rr y hp => by obtain ⟨v, rfl, hv, -⟩ := hP rr y hp; obtain ⟨w, rfl⟩ := vk_i hv (Or.inr rfl); exact ⟨w, rfl⟩)) gl_275 gl_276 gl_252 gl_277 ⟨by decide +kernel, by decide +kernel, by decide +kernel⟩ ⟨by decide +kernel, by decide +kernel⟩ dL_law_830 (rest := []) rfl rfl (Nat.le_of_ble_eq_true rfl) hr ?_
      rintro _ _ ⟨rfl, v, y, hp, rfl⟩
      obtain ⟨v', hv', hok, hR⟩ := hP _ _ hp
      cases hv'
      obtain ⟨P2, q2, hQ⟩ := hR (y.1, y.2.1, u2 y.2.2 94 0 (if v = 0 then 0 else 1)) ⟨rfl, fun a ha => rfl⟩
      have hT := kL_law_c8 h'
      show SW (xc X (cC X + 1) (sC X + 6)) mL_law 833 _ [.int 0] _
      repeat (refine sw_s hT rfl rfl ?_)
      refine sw_sld h' hL' dL_law_841 j1 ?_
      repeat (refine sw_s hT rfl rfl ?_)
      refine sw_sld h' hL' dL_law_847 j2 ?_
      refine sw_b hT rfl rfl (fun c => absurd c (hz)) (fun _ => ?_)
      repeat (refine sw_s hT rfl rfl ?_)
      refine sw_cvR hT rfl (q2) rfl rfl rfl rfl (Nat.le_of_ble_eq_true rfl) ?_
      intro r2 z hz2
      obtain ⟨rfl, z0, zl, z95, hI2⟩ := hQ r2 z hz2
      show SW _ mL_law 859 _ [.int v] z
      repeat (refine sw_s hT rfl rfl ?_)
      refine sw_cv hT rfl (r_thrown _ z) rfl rfl rfl rfl (Nat.le_of_ble_eq_true rfl) ?_
      rw [z0]
      repeat (refine sw_s hT rfl rfl ?_)
      refine sw_b hT rfl rfl (fun _ => ?_) (fun c => absurd (rfl) c)
      repeat (refine sw_s hT rfl rfl ?_)
      refine sw_b hT rfl rfl (fun _ => ?_) (fun c => absurd (rfl) c)
      repeat (refine sw_s hT rfl rfl ?_)
      have zv : z.2.2 94 (0 : Int32).toNatClampNeg = (if v = 0 then 0 else 1) := by rw [zl]; exact u2_at y.2.2 94 0 _
      refine sw_lald hT rfl rfl (in01) ?_
      rw [zv]
      repeat (refine sw_s hT rfl rfl ?_)
      refine sw_b hT rfl rfl (fun cv => ?_) (fun cv => ?_)
      · rw [if_pos cv]
        repeat (refine sw_s hT rfl rfl ?_)
        refine sw_b hT rfl rfl (fun _ => ?_) (fun c => absurd (lc_cmp) c)
        repeat (first | (refine sw_at (n := 1931) rfl ?_; exact (sw_pick [2, 3, 4, 5, 6, 7] rfl (K z hI2))) | refine sw_s hT rfl rfl ?_)
      · rw [if_neg cv]
        repeat (refine sw_s hT rfl rfl ?_)
        refine sw_b hT rfl rfl (fun _ => ?_) (fun c => absurd (lc_cmp) c)
        repeat (first | (refine sw_at (n := 1931) rfl ?_; exact (sw_pick [2, 3, 4, 5, 6, 7] rfl (K z hI2))) | refine sw_s hT rfl rfl ?_)
    · have hT := kL_law_c8 h
      repeat (refine sw_s hT rfl rfl ?_)
      refine sw_sld h hL dL_law_814 j1 ?_
      repeat (refine sw_s hT rfl rfl ?_)
      refine sw_sld h hL dL_law_820 j2 ?_
      refine sw_b hT rfl rfl (fun c => absurd c (hz)) (fun _ => ?_)
      repeat (refine sw_s hT rfl rfl ?_)
      refine sw_csL (n := 4) h hL (wt1_setStuck hfl _ _ hB.1) gl_275 gl_276 gl_252 gl_277 ⟨by decide +kernel, by decide +kernel, by decide +kernel⟩ ⟨by decide +kernel, by decide +kernel⟩ dL_law_830 (rest := []) rfl rfl (Nat.le_of_ble_eq_true rfl) hr ?_
      rintro _ _ ⟨rfl, rfl⟩
      obtain ⟨P2, q2, hQ⟩ := hB.2 _ mid_rf
      have hT := kL_law_c8 h'
      show SW (xc X (cC X + 1) (sC X + 6)) mL_law 833 _ [.int 1] _
      repeat (refine sw_s hT rfl rfl ?_)
      refine sw_sld h' hL' dL_law_841 j1 ?_
      repeat (refine sw_s hT rfl rfl ?_)
      refine sw_sld h' hL' dL_law_847 j2 ?_
      refine sw_b hT rfl rfl (fun c => absurd c (hz)) (fun _ => ?_)
      repeat (refine sw_s hT rfl rfl ?_)
      refine sw_cvR hT rfl (q2) rfl rfl rfl rfl (Nat.le_of_ble_eq_true rfl) ?_
      intro r2 z hz2
      obtain ⟨rfl, z0, zl, z95, hI2⟩ := hQ r2 z hz2
      show SW _ mL_law 859 _ [.int 0] z
      repeat (refine sw_s hT rfl rfl ?_)
      refine sw_cv hT rfl (r_thrown _ z) rfl rfl rfl rfl (Nat.le_of_ble_eq_true rfl) ?_
      rw [z0]
      repeat (refine sw_s hT rfl rfl ?_)
      refine sw_b hT rfl rfl (fun _ => ?_) (fun c => absurd (rfl) c)
      repeat (refine sw_s hT rfl rfl ?_)
      refine sw_b hT rfl rfl (fun c => absurd c ((by decide))) (fun _ => ?_)
      repeat (first | (refine sw_at (n := 1931) rfl ?_; exact (sw_pick [2, 3, 4, 5, 6, 7] rfl (K z hI2))) | refine sw_s hT rfl rfl ?_)
set_option maxHeartbeats 1000000 in
theorem lc_9 {X : Ctx} {b L : Nat} {xs : Nat → Int32} (h : sCx X mL_law) (hL : lCx X b L xs) (hL2 : L ≤ 2560) (hr : rmOK X (cC X + 1) (sC X + 6)) {i : Nat} (hi : i + 5 ≤ L) {x : Hp} (hx : INVX x) (K : ∀ z, INVX z → SW (xc X (cC X + 1) (sC X + 6)) mL_law 1931 (L0 i) [] z) : SW X mL_law 899 (L0 i) [] x := by
  obtain ⟨n, ne, i', c', hI⟩ := hx
  have hfl := lc_fl hL
  have h' := xc_s h hr
  have hL' : lCx (xc X (cC X + 1) (sC X + 6)) b L xs := xc_l hL
  have j1 : vp_in (nI i + 1) L := lc_in hL2 hi (by omega : 1 < 5) (by decide)
  rcases op_pickup (Y := xk X) hfl hI (xs (nI i + 1).toNatClampNeg) with hG | hB
  · obtain ⟨P, p6, hP⟩ := hG
    have hT := kL_law_c9 h
    repeat (refine sw_s hT rfl rfl ?_)
    refine sw_sld h hL dL_law_905 j1 ?_
    repeat (refine sw_s hT rfl rfl ?_)
    refine sw_csL (n := 3) h hL (wn_pickup _ p6 (fun rr y hp => by obtain ⟨v, rfl, hv, -⟩ := hP rr y hp; obtain ⟨w, rfl⟩ := vk_i hv (Or.inl rfl); exact ⟨w, rfl⟩)) gl_278 gl_279 gl_252 gl_280 ⟨by decide +kernel, by decide +kernel, by decide +kernel⟩ ⟨by decide +kernel, by decide +kernel⟩ dL_law_907 (rest := []) rfl rfl (Nat.le_of_ble_eq_true rfl) hr ?_
    rintro _ _ ⟨rfl, v, y, hp, rfl⟩
    obtain ⟨v', hv', hok, hR⟩ := hP _ _ hp
    cases hv'
    obtain ⟨P2, q2, hQ⟩ := hR (y.1, y.2.1, u2 y.2.2 94 0 v.toInt64) ⟨rfl, fun a ha => rfl⟩
    have hT := kL_law_c9 h'
    show SW (xc X (cC X + 1) (sC X + 6)) mL_law 910 _ [.int 0] _
    repeat (refine sw_s hT rfl rfl ?_)
    refine sw_sld h' hL' dL_law_918 j1 ?_
    repeat (refine sw_s hT rfl rfl ?_)
    refine sw_cvR hT rfl (q2) rfl rfl rfl rfl (Nat.le_of_ble_eq_true rfl) ?_
    intro r2 z hz2
    obtain ⟨rfl, z0, zl, z95, hI2⟩ := hQ r2 z hz2
    show SW _ mL_law 922 _ [.int v] z
    repeat (refine sw_s hT rfl rfl ?_)
    refine sw_cv hT rfl (r_thrown _ z) rfl rfl rfl rfl (Nat.le_of_ble_eq_true rfl) ?_
    rw [z0]
    repeat (refine sw_s hT rfl rfl ?_)
    refine sw_b hT rfl rfl (fun _ => ?_) (fun c => absurd (rfl) c)
    repeat (refine sw_s hT rfl rfl ?_)
    refine sw_b hT rfl rfl (fun _ => ?_) (fun c => absurd (rfl) c)
    repeat (refine sw_s hT rfl rfl ?_)
    have zv : z.2.2 94 (0 : Int32).toNatClampNeg = v.toInt64 := by rw [zl]; exact u2_at y.2.2 94 0 v.toInt64
    refine sw_lald hT rfl rfl (in01) ?_
    rw [zv]
    repeat (refine sw_s hT rfl rfl ?_)
    refine sw_b hT rfl rfl (fun _ => ?_) (fun c => absurd (lc_cmp) c)
    repeat (first | (refine sw_at (n := 1931) rfl ?_; exact (sw_pick [2, 3, 4, 5, 6, 7] rfl (K z hI2))) | refine sw_s hT rfl rfl ?_)
  · have hT := kL_law_c9 h
    repeat (refine sw_s hT rfl rfl ?_)
    refine sw_sld h hL dL_law_905 j1 ?_
    repeat (refine sw_s hT rfl rfl ?_)
    refine sw_csL (n := 3) h hL (wt1_pickup hfl _ hB.1) gl_278 gl_279 gl_252 gl_280 ⟨by decide +kernel, by decide +kernel, by decide +kernel⟩ ⟨by decide +kernel, by decide +kernel⟩ dL_law_907 (rest := []) rfl rfl (Nat.le_of_ble_eq_true rfl) hr ?_
    rintro _ _ ⟨rfl, rfl⟩
    obtain ⟨P2, q2, hQ⟩ := hB.2 _ mid_rf
    have hT := kL_law_c9 h'
    show SW (xc X (cC X + 1) (sC X + 6)) mL_law 910 _ [.int 1] _
    repeat (refine sw_s hT rfl rfl ?_)
    refine sw_sld h' hL' dL_law_918 j1 ?_
    repeat (refine sw_s hT rfl rfl ?_)
    refine sw_cvR hT rfl (q2) rfl rfl rfl rfl (Nat.le_of_ble_eq_true rfl) ?_
    intro r2 z hz2
    obtain ⟨rfl, z0, zl, z95, hI2⟩ := hQ r2 z hz2
    show SW _ mL_law 922 _ [.int 0] z
    repeat (refine sw_s hT rfl rfl ?_)
    refine sw_cv hT rfl (r_thrown _ z) rfl rfl rfl rfl (Nat.le_of_ble_eq_true rfl) ?_
    rw [z0]
    repeat (refine sw_s hT rfl rfl ?_)
    refine sw_b hT rfl rfl (fun _ => ?_) (fun c => absurd (rfl) c)
    repeat (refine sw_s hT rfl rfl ?_)
    refine sw_b hT rfl rfl (fun c => absurd c ((by decide))) (fun _ => ?_)
    repeat (first | (refine sw_at (n := 1931) rfl ?_; exact (sw_pick [2, 3, 4, 5, 6, 7] rfl (K z hI2))) | refine sw_s hT rfl rfl ?_)
