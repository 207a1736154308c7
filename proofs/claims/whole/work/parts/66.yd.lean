/-! the law's loop -/
theorem lc_exit {L i : Nat} (hL2 : L ≤ 2560) (hi : i ≤ 3000) : ¬ nI L - 5 < nI i → i + 5 ≤ L := by
  intro h
  rcases Nat.lt_or_ge L 5 with q | q
  · exfalso
    apply h
    rw [Int32.lt_iff_toInt_lt, nI_toInt (by omega)]
    have : (nI L - 5).toInt < 0 := by
      rcases (show L = 0 ∨ L = 1 ∨ L = 2 ∨ L = 3 ∨ L = 4 by omega) with rfl | rfl | rfl | rfl | rfl <;> decide
    omega
  · obtain ⟨m, rfl⟩ : ∃ m, L = m + 5 := ⟨L - 5, by omega⟩
    rw [show nI (m + 5) - 5 = nI m by rw [← nI_add]; exact Int32.add_sub_cancel _ _] at h
    rcases Nat.lt_or_ge m i with z | z
    · exact absurd (nI_lt z (by omega)) h
    · omega
set_option maxHeartbeats 4000000 in
theorem law_loop {X : Ctx} {b L C1 S1 : Nat} {xs : Nat → Int32} (h0 : ∀ k n, k ≤ C1 → n ≤ S1 → sCx (xc X k n) mL_law) (hr : ∀ k n, k ≤ C1 → n ≤ S1 → rmOK (xc X k n) k n) (hL : lCx X b L xs) (hL2 : L ≤ 2560) (E : ∀ k n i z, k ≤ C1 → n ≤ S1 → SW (xc X k n) mL_law 1937 (L0 i) [] z) : ∀ d k n i x, INVX x → i ≤ 2560 → L < i + 5 + 5 * d → k + d ≤ C1 → n + 6 * d ≤ S1 → SW (xc X k n) mL_law 28 (L0 i) [] x := by
  intro d
  induction d with
  | zero =>
    intro k n i x hx hi hd hk hn
    have hc := h0 k n (by omega) (by omega)
    have hT := kL_law_h hc
    have hL1 : lCx (xc X k n) b L xs := xc_l hL
    unfold L0
    repeat (refine sw_s hT rfl rfl ?_)
    refine sw_slen hc hL1 dL_law_31 ?_
    repeat (refine sw_s hT rfl rfl ?_)
    refine sw_b hT rfl rfl (fun _ => ?_) (fun q => absurd (lc_exit hL2 (by omega) q) (by omega))
    exact E k n i x (by omega) (by omega)
  | succ d ih =>
    intro k n i x hx hi hd hk hn
    have hc := h0 k n (by omega) (by omega)
    have hT := kL_law_h hc
    have hL1 : lCx (xc X k n) b L xs := xc_l hL
    have hr1 : rmOK (xc X k n) (cC (xc X k n) + 1) (sC (xc X k n) + 6) := hr (k + 1) (n + 6) (by omega) (by omega)
    have K : i + 5 ≤ L → ∀ z, INVX z → SW (xc (xc X k n) (cC (xc X k n) + 1) (sC (xc X k n) + 6)) mL_law 1931 (L0 i) [] z := fun hiL z hz => by
      have hc2 : sCx (xc (xc X k n) (cC (xc X k n) + 1) (sC (xc X k n) + 6)) mL_law := h0 (k + 1) (n + 6) (by omega) (by omega)
      have hT := kL_law_e hc2
      have q : SW (xc (xc X k n) (cC (xc X k n) + 1) (sC (xc X k n) + 6)) mL_law 28 (L0 (i + 5)) [] z := ih (k + 1) (n + 6) (i + 5) z hz (by omega) (by omega) (by omega) (by omega)
      unfold L0 at q ⊢
      rw [← nI_add] at q
      repeat (first | (refine sw_at (n := 28) rfl ?_; exact (q)) | refine sw_s hT rfl rfl ?_)
    unfold L0
    repeat (refine sw_s hT rfl rfl ?_)
    refine sw_slen hc hL1 dL_law_31 ?_
    repeat (refine sw_s hT rfl rfl ?_)
    refine sw_b hT rfl rfl (fun _ => ?_) (fun q => ?_)
    · exact E k n i x (by omega) (by omega)
    · have hiL := lc_exit hL2 (by omega) q
      repeat (refine sw_s hT rfl rfl ?_)
      refine sw_sld hc hL1 dL_law_40 (vp_in_nI (by omega) (by omega)) ?_
      repeat (refine sw_s hT rfl rfl ?_)
      refine sw_tsw hT rfl (fun kk q hkq hq => ?_) (fun _ => ?_)
      · have hk30 : kk < 30 := (List.getElem?_eq_some_iff.mp hq).1
        rcases (show kk = 0 ∨ kk = 1 ∨ kk = 2 ∨ kk = 3 ∨ kk = 4 ∨ kk = 5 ∨ kk = 6 ∨ kk = 7 ∨ kk = 8 ∨ kk = 9 ∨ kk = 10 ∨ kk = 11 ∨ kk = 12 ∨ kk = 13 ∨ kk = 14 ∨ kk = 15 ∨ kk = 16 ∨ kk = 17 ∨ kk = 18 ∨ kk = 19 ∨ kk = 20 ∨ kk = 21 ∨ kk = 22 ∨ kk = 23 ∨ kk = 24 ∨ kk = 25 ∨ kk = 26 ∨ kk = 27 ∨ kk = 28 ∨ kk = 29 by omega) with rfl | rfl | rfl | rfl | rfl | rfl | rfl | rfl | rfl | rfl | rfl | rfl | rfl | rfl | rfl | rfl | rfl | rfl | rfl | rfl | rfl | rfl | rfl | rfl | rfl | rfl | rfl | rfl | rfl | rfl
        · cases hq
          exact lc_0 hc hL1 hL2 hr1 hiL hx (K hiL)
        · cases hq
          exact lc_1 hc hL1 hL2 hr1 hiL hx (K hiL)
        · cases hq
          exact lc_2 hc hL1 hL2 hr1 hiL hx (K hiL)
        · cases hq
          exact lc_3 hc hL1 hL2 hr1 hiL hx (K hiL)
        · cases hq
          exact lc_4 hc hL1 hL2 hr1 hiL hx (K hiL)
        · cases hq
          exact lc_5 hc hL1 hL2 hr1 hiL hx (K hiL)
        · cases hq
          exact lc_6 hc hL1 hL2 hr1 hiL hx (K hiL)
        · cases hq
          exact lc_7 hc hL1 hL2 hr1 hiL hx (K hiL)
        · cases hq
          exact lc_8 hc hL1 hL2 hr1 hiL hx (K hiL)
        · cases hq
          exact lc_9 hc hL1 hL2 hr1 hiL hx (K hiL)
        · cases hq
          exact lc_10 hc hL1 hL2 hr1 hiL hx (K hiL)
        · cases hq
          exact lc_11 hc hL1 hL2 hr1 hiL hx (K hiL)
        · cases hq
          exact lc_12 hc hL1 hL2 hr1 hiL hx (K hiL)
        · cases hq
          exact lc_13 hc hL1 hL2 hr1 hiL hx (K hiL)
        · cases hq
          exact lc_14 hc hL1 hL2 hr1 hiL hx (K hiL)
        · cases hq
          exact lc_15 hc hL1 hL2 hr1 hiL hx (K hiL)
        · cases hq
          exact lc_16 hc hL1 hL2 hr1 hiL hx (K hiL)
        · cases hq
          exact lc_17 hc hL1 hL2 hr1 hiL hx (K hiL)
        · cases hq
          exact lc_18 hc hL1 hL2 hr1 hiL hx (K hiL)
        · cases hq
          exact lc_19 hc hL1 hL2 hr1 hiL hx (K hiL)
        · cases hq
          exact lc_20 hc hL1 hL2 hr1 hiL hx (K hiL)
        · cases hq
          exact lc_21 hc hL1 hL2 hr1 hiL hx (K hiL)
        · cases hq
          exact lc_22 hc hL1 hL2 hr1 hiL hx (K hiL)
        · cases hq
          exact lc_23 hc hL1 hL2 hr1 hiL hx (K hiL)
        · cases hq
          exact lc_24 hc hL1 hL2 hr1 hiL hx (K hiL)
        · cases hq
          exact lc_25 hc hL1 hL2 hr1 hiL hx (K hiL)
        · cases hq
          exact lc_26 hc hL1 hL2 hr1 hiL hx (K hiL)
        · cases hq
          exact lc_27 hc hL1 hL2 hr1 hiL hx (K hiL)
        · cases hq
          exact lc_28 hc hL1 hL2 hr1 hiL hx (K hiL)
        · cases hq
          exact lc_29 hc hL1 hL2 hr1 hiL hx (K hiL)
      · exact SW_widen (k := cC (xc X k n) + 1) (n := sC (xc X k n) + 6) (Nat.le_add_right _ _) (Nat.le_add_right _ _) (K hiL x hx)
