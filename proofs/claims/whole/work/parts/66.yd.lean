/-! the law's loop -/
theorem lc_exit {L i : Nat} (hL2 : L ≤ 2560) (hi : i ≤ 3000) : ¬ nI L - 5 < nI i → i + 5 ≤ L := by
  intro h
  rcases Nat.lt_or_ge L 5 with q | q
  · exfalso
    apply h
    rw [Int32.lt_iff_toInt_lt, nI_toInt (by omega)]
    have : (nI L - 5).toInt < 0 := by
      rcases (show L = 0 ∨ L = 1 ∨ L = 2 ∨ L = 3 ∨ L = 4 by omega) with rfl | rfl | rfl | rfl | rfl <;> decide
    omega
  · obtain ⟨m, rfl⟩ : ∃ m, L = m + 5 := ⟨L - 5, by omega⟩
    rw [show nI (m + 5) - 5 = nI m by rw [← nI_add]; exact Int32.add_sub_cancel _ _] at h
    rcases Nat.lt_or_ge m i with z | z
    · exact absurd (nI_lt z (by omega)) h
    · omega
set_option maxHeartbeats 1000000 in
theorem law_out {X : Ctx} {b L : Nat} {xs : Nat → Int32} (hc : sCx X mL_law) (hL1 : lCx X b L xs) (hL2 : L ≤ 2560) {i : Nat} {x : Hp} (hi : i ≤ 3000) (hd : L < i + 5) (E : SW X mL_law 1937 (L0 i) [] x) : SW X mL_law 28 (L0 i) [] x := by
  have hT := kL_law_h hc
  unfold L0
  repeat (refine sw_s hT rfl rfl ?_)
  refine sw_slen hc hL1 dL_law_31 ?_
  repeat (refine sw_s hT rfl rfl ?_)
  refine sw_b hT rfl rfl (fun _ => ?_) (fun q => absurd (lc_exit hL2 hi q) (Nat.not_le_of_lt hd))
  exact E
set_option maxHeartbeats 1000000 in
theorem law_sw {X : Ctx} {b L : Nat} {xs : Nat → Int32} (hc : sCx X mL_law) (hL : lCx X b L xs) (hL2 : L ≤ 2560) (hr : rmOK X (cC X + 1) (sC X + 6)) {i : Nat} (hi : i + 5 ≤ L) {x : Hp} {v : Int32} (hx : INVX x) (K : ∀ z, INVX z → SW (xc X (cC X + 1) (sC X + 6)) mL_law 1931 (L0 i) [] z) : SW X mL_law 44 (L0 i) [.int v] x := by
  have hT := kL_law_h hc
  refine sw_tsw hT rfl (fun kk q hkq hq => ?_) (fun _ => ?_)
  · refine (show ∀ q, q ∈ _ → SW X mL_law q (L0 i) [] x from ?_) q (List.mem_of_getElem? hq)
    refine List.forall_mem_cons.mpr ⟨lc_0 hc hL hL2 hr hi hx K, ?_⟩
    refine List.forall_mem_cons.mpr ⟨lc_1 hc hL hL2 hr hi hx K, ?_⟩
    refine List.forall_mem_cons.mpr ⟨lc_2 hc hL hL2 hr hi hx K, ?_⟩
    refine List.forall_mem_cons.mpr ⟨lc_3 hc hL hL2 hr hi hx K, ?_⟩
    refine List.forall_mem_cons.mpr ⟨lc_4 hc hL hL2 hr hi hx K, ?_⟩
    refine List.forall_mem_cons.mpr ⟨lc_5 hc hL hL2 hr hi hx K, ?_⟩
    refine List.forall_mem_cons.mpr ⟨lc_6 hc hL hL2 hr hi hx K, ?_⟩
    refine List.forall_mem_cons.mpr ⟨lc_7 hc hL hL2 hr hi hx K, ?_⟩
    refine List.forall_mem_cons.mpr ⟨lc_8 hc hL hL2 hr hi hx K, ?_⟩
    refine List.forall_mem_cons.mpr ⟨lc_9 hc hL hL2 hr hi hx K, ?_⟩
    refine List.forall_mem_cons.mpr ⟨lc_10 hc hL hL2 hr hi hx K, ?_⟩
    refine List.forall_mem_cons.mpr ⟨lc_11 hc hL hL2 hr hi hx K, ?_⟩
    refine List.forall_mem_cons.mpr ⟨lc_12 hc hL hL2 hr hi hx K, ?_⟩
    refine List.forall_mem_cons.mpr ⟨lc_13 hc hL hL2 hr hi hx K, ?_⟩
    refine List.forall_mem_cons.mpr ⟨lc_14 hc hL hL2 hr hi hx K, ?_⟩
    refine List.forall_mem_cons.mpr ⟨lc_15 hc hL hL2 hr hi hx K, ?_⟩
    refine List.forall_mem_cons.mpr ⟨lc_16 hc hL hL2 hr hi hx K, ?_⟩
    refine List.forall_mem_cons.mpr ⟨lc_17 hc hL hL2 hr hi hx K, ?_⟩
    refine List.forall_mem_cons.mpr ⟨lc_18 hc hL hL2 hr hi hx K, ?_⟩
    refine List.forall_mem_cons.mpr ⟨lc_19 hc hL hL2 hr hi hx K, ?_⟩
    refine List.forall_mem_cons.mpr ⟨lc_20 hc hL hL2 hr hi hx K, ?_⟩
    refine List.forall_mem_cons.mpr ⟨lc_21 hc hL hL2 hr hi hx K, ?_⟩
    refine List.forall_mem_cons.mpr ⟨lc_22 hc hL hL2 hr hi hx K, ?_⟩
    refine List.forall_mem_cons.mpr ⟨lc_23 hc hL hL2 hr hi hx K, ?_⟩
    refine List.forall_mem_cons.mpr ⟨lc_24 hc hL hL2 hr hi hx K, ?_⟩
    refine List.forall_mem_cons.mpr ⟨lc_25 hc hL hL2 hr hi hx K, ?_⟩
    refine List.forall_mem_cons.mpr ⟨lc_26 hc hL hL2 hr hi hx K, ?_⟩
    refine List.forall_mem_cons.mpr ⟨lc_27 hc hL hL2 hr hi hx K, ?_⟩
    refine List.forall_mem_cons.mpr ⟨lc_28 hc hL hL2 hr hi hx K, ?_⟩
    refine List.forall_mem_cons.mpr ⟨lc_29 hc hL hL2 hr hi hx K, ?_⟩
    exact fun _ h => absurd h List.not_mem_nil
  · exact SW_widen (k := cC X + 1) (n := sC X + 6) (Nat.le_add_right _ _) (Nat.le_add_right _ _) (K x hx)
set_option maxHeartbeats 1000000 in
theorem law_body {X : Ctx} {b L : Nat} {xs : Nat → Int32} (hc : sCx X mL_law) (hL1 : lCx X b L xs) (hL2 : L ≤ 2560) (hr : rmOK X (cC X + 1) (sC X + 6)) {i : Nat} {x : Hp} (hi : i ≤ 2560) (hd : i + 5 ≤ L) (hx : INVX x) (E : SW X mL_law 1937 (L0 i) [] x) (K : ∀ z, INVX z → SW (xc X (cC X + 1) (sC X + 6)) mL_law 1931 (L0 i) [] z) : SW X mL_law 28 (L0 i) [] x := by
  have hT := kL_law_h hc
  unfold L0
  repeat (refine sw_s hT rfl rfl ?_)
  refine sw_slen hc hL1 dL_law_31 ?_
  repeat (refine sw_s hT rfl rfl ?_)
  refine sw_b hT rfl rfl (fun _ => ?_) (fun q => ?_)
  · exact E
  · repeat (refine sw_s hT rfl rfl ?_)
    refine sw_sld hc hL1 dL_law_40 (vp_in_nI (by omega) (by omega)) ?_
    repeat (refine sw_s hT rfl rfl ?_)
    exact law_sw hc hL1 hL2 hr hd hx K
set_option maxHeartbeats 1000000 in
theorem law_inc {X : Ctx} {i : Nat} {x : Hp} (hc : sCx X mL_law) (K : SW X mL_law 28 (L0 (i + 5)) [] x) : SW X mL_law 1931 (L0 i) [] x := by
  have hT := kL_law_e hc
  unfold L0 at K ⊢
  rw [← nI_add] at K
  repeat (first | (refine sw_at (n := 28) rfl ?_; exact (K)) | refine sw_s hT rfl rfl ?_)
theorem xc_xc {X : Ctx} {k n k2 n2 : Nat} : xc (xc X k n) k2 n2 = xc X k2 n2 := by
  obtain ⟨p, l, e, R, s, m, args, below, meth, c, G, a, tc, A, H0, cells, slots, Q⟩ := X
  exact Eq.refl (p, l, e, R, s, m, args, below, meth, c, G, a, tc, A, H0, k2, n2, Q)
theorem xc_c {X : Ctx} {k n : Nat} : cC (xc X k n) = k := by
  obtain ⟨p, l, e, R, s, m, args, below, meth, c, G, a, tc, A, H0, cells, slots, Q⟩ := X
  rfl
theorem xc_n {X : Ctx} {k n : Nat} : sC (xc X k n) = n := by
  obtain ⟨p, l, e, R, s, m, args, below, meth, c, G, a, tc, A, H0, cells, slots, Q⟩ := X
  rfl
theorem xc_rm {X : Ctx} {k n k2 n2 : Nat} (h : rmOK X k2 n2) : rmOK (xc X k n) k2 n2 := by
  obtain ⟨p, l, e, R, s, m, args, below, meth, c, G, a, tc, A, H0, cells, slots, Q⟩ := X
  exact ⟨h.1, h.2⟩
theorem law_loop {X : Ctx} {b L C1 S1 : Nat} {xs : Nat → Int32} (h0 : ∀ k n, k ≤ C1 → n ≤ S1 → sCx (xc X k n) mL_law) (hr : ∀ k n, k ≤ C1 → n ≤ S1 → rmOK X k n) (hL : lCx X b L xs) (hL2 : L ≤ 2560) (E : ∀ k n i z, k ≤ C1 → n ≤ S1 → SW (xc X k n) mL_law 1937 (L0 i) [] z) : ∀ d k n i x, INVX x → i ≤ 2560 → L < i + 5 + 5 * d → k + d ≤ C1 → n + 6 * d ≤ S1 → SW (xc X k n) mL_law 28 (L0 i) [] x := by
  intro d
  induction d with
  | zero =>
    intro k n i x hx hi hd hk hn
    have hk' : k ≤ C1 := by omega
    have hn' : n ≤ S1 := by omega
    exact law_out (h0 k n hk' hn') (xc_l hL) hL2 (by omega) (by omega) (E k n i x hk' hn')
  | succ d ih =>
    intro k n i x hx hi hd hk hn
    have hk' : k ≤ C1 := by omega
    have hn' : n ≤ S1 := by omega
    have hk2 : k + 1 ≤ C1 := by omega
    have hn2 : n + 6 ≤ S1 := by omega
    rcases Nat.lt_or_ge L (i + 5) with q | q
    · exact law_out (h0 k n hk' hn') (xc_l hL) hL2 (by omega) q (E k n i x hk' hn')
    · refine law_body (h0 k n hk' hn') (xc_l hL) hL2 (xc_rm ?_) hi q hx (E k n i x hk' hn') (fun z hz => ?_)
      · rw [xc_c, xc_n]
        exact hr (k + 1) (n + 6) hk2 hn2
      · rw [xc_c, xc_n, xc_xc]
        exact law_inc (h0 (k + 1) (n + 6) hk2 hn2) (ih (k + 1) (n + 6) (i + 5) z hz (by omega) (by omega) (by omega) (by omega))
