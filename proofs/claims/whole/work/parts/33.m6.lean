/-! the reference's saving -/
theorem inX {j : Nat} (h : j < 680) : vp_in (nI j) 680 := vp_in_nI h (by decide)
theorem inXD {j : Nat} (h : j < 304) : vp_in (nI j) 304 := vp_in_nI h (by decide)
theorem fr_le {S T : List Nat} {x y : Hp} (h : fr S x y) (hs : ∀ i, i ∈ S → i ∈ T) : fr T x y := ⟨fun i hi => h.1 i (fun q => hi (hs i q)), fun i hi => h.2.1 i (fun q => hi (hs i q)), h.2.2⟩
/-- the state as it is put behind c saved ones -/
def svE (y : Hp) (c : Nat) (z : Hp) : Prop := fr [83, 86, 87] y z ∧ (∀ k, k ≠ 5 → z.1 83 k = y.1 83 k) ∧ z.1 83 5 = nI (c + 1) ∧ (∀ k, k < 170 → z.1 86 (170 * c + k) = y.1 84 k) ∧ (∀ i, i < 170 * c → z.1 86 i = y.1 86 i) ∧ (∀ k, k < 76 → z.2.1 87 (76 * c + k) = y.2.1 85 k) ∧ ∀ i, i < 76 * c → z.2.1 87 i = y.2.1 87 i
theorem sw_save79 {X : Ctx} (hT : tab X mX7_save tX7_save) {ls : Lo} (hl : ls.lookup 0 = some (.ref 83)) {y : Hp} {c : Nat} (hc : c ≤ 3) (h5 : y.1 83 5 = nI c) {P : Po} (hR : retP X P) (hP : ∀ z, svE y c z → P none z) : SW X mX7_save 79 [(0, .ref 83)] [] y := by
  have K2 : ∀ d k, d + k = 76 → ∀ z, fr [86, 87] y z → (∀ k, k < 170 → z.1 86 (170 * c + k) = y.1 84 k) → (∀ i, i < 170 * c → z.1 86 i = y.1 86 i) → (∀ j, j < k → z.2.1 87 (76 * c + j) = y.2.1 85 j) → (∀ i, i < 76 * c → z.2.1 87 i = y.2.1 87 i) → SW X mX7_save 117 [(1, .int (nI k)), (0, .ref 83)] [] z := by
    intro d
    induction d with
    | zero =>
      intro k hk z hz h1 h2 h3 h4
      have hk : k = 76 := by omega
      subst hk
      have e83 : z.1 83 = y.1 83 := hz.1 83 (by decide)
      repeat (refine sw_s hT rfl rfl ?_)
      refine sw_b hT rfl rfl (fun _ => ?_) (fun c => absurd ((by decide)) c)
      repeat (refine sw_s hT rfl rfl ?_)
      refine sw_vretP hT rfl rfl hR ?_
      refine hP _ ⟨fr_tr (fr_le hz (by decide)) (fr_wI (by decide)), fun k hk => ?_, ?_, h1, h2, h3, h4⟩
      · show u2 z.1 83 5 _ 83 k = _
        rw [u2_k _ _ _ _ hk, e83]
      · show u2 z.1 83 5 (z.1 83 5 + 1) 83 5 = _
        rw [u2_at, e83, h5, nI_1]
    | succ d ih =>
      intro k hk z hz h1 h2 h3 h4
      have e83 : z.1 83 = y.1 83 := hz.1 83 (by decide)
      have e85 : z.2.1 85 = y.2.1 85 := hz.2.1 85 (by decide)
      repeat (refine sw_s hT rfl rfl ?_)
      rw [show (76 : Int32) = nI 76 by decide]
      refine sw_b hT rfl rfl (fun c => absurd c ((nI_ge (by omega) (by omega)))) (fun _ => ?_)
      repeat (refine sw_s hT rfl rfl ?_)
      refine sw_dald hT rfl rfl (inV (by omega)) ?_
      rw [clW (by omega), e85, e83, h5, show (76 : Int32) = nI 76 by decide, pk_mul, nI_add]
      refine sw_dast hT rfl rfl (inXD (by omega)) ?_
      rw [clW (by omega)]
      have q := ih (k + 1) (by omega) (z.1, u2 z.2.1 87 (76 * c + k) (y.2.1 85 k), z.2.2) (fr_tr hz (fr_wD (by decide))) h1 h2 (fun j hj => ?_) (fun i hi => ?_)
      · rw [← nI_1] at q
        repeat (first | (refine sw_at (n := 117) rfl ?_; exact (q)) | refine sw_s hT rfl rfl ?_)
      · show u2 z.2.1 87 (76 * c + k) (y.2.1 85 k) 87 (76 * c + j) = _
        by_cases hjk : j = k
        · subst hjk; exact u2_at _ _ _ _
        · rw [u2_k _ _ _ _ (by omega)]; exact h3 j (by omega)
      · show u2 z.2.1 87 (76 * c + k) (y.2.1 85 k) 87 i = _
        rw [u2_k _ _ _ _ (by omega)]; exact h4 i hi
  have K1 : ∀ d k, d + k = 170 → ∀ z, fr [86, 87] y z → z.2.1 = y.2.1 → (∀ j, j < k → z.1 86 (170 * c + j) = y.1 84 j) → (∀ i, i < 170 * c → z.1 86 i = y.1 86 i) → SW X mX7_save 81 [(1, .int (nI k)), (0, .ref 83)] [] z := by
    intro d
    induction d with
    | zero =>
      intro k hk z hz h0 h1 h2
      have hk : k = 170 := by omega
      subst hk
      have q := K2 76 0 (by omega) z hz h1 h2 (fun j hj => absurd hj (by omega)) (fun i _ => by rw [h0])
      repeat (refine sw_s hT rfl rfl ?_)
      refine sw_b hT rfl rfl (fun _ => ?_) (fun c => absurd ((by decide)) c)
      repeat (first | (refine sw_at (n := 117) rfl ?_; exact (q)) | refine sw_s hT rfl rfl ?_)
    | succ d ih =>
      intro k hk z hz h0 h1 h2
      have e83 : z.1 83 = y.1 83 := hz.1 83 (by decide)
      have e84 : z.1 84 = y.1 84 := hz.1 84 (by decide)
      repeat (refine sw_s hT rfl rfl ?_)
      rw [show (170 : Int32) = nI 170 by decide]
      refine sw_b hT rfl rfl (fun c => absurd c ((nI_ge (by omega) (by omega)))) (fun _ => ?_)
      repeat (refine sw_s hT rfl rfl ?_)
      refine sw_iald hT rfl rfl (inW (by omega)) ?_
      rw [clW (by omega), e84, e83, h5, show (170 : Int32) = nI 170 by decide, pk_mul, nI_add]
      refine sw_iast hT rfl rfl (inX (by omega)) ?_
      rw [clW (by omega)]
      have q := ih (k + 1) (by omega) (u2 z.1 86 (170 * c + k) (y.1 84 k), z.2) (fr_tr hz (fr_wI (by decide))) h0 (fun j hj => ?_) (fun i hi => ?_)
      · rw [← nI_1] at q
        repeat (first | (refine sw_at (n := 81) rfl ?_; exact (q)) | refine sw_s hT rfl rfl ?_)
      · show u2 z.1 86 (170 * c + k) (y.1 84 k) 86 (170 * c + j) = _
        by_cases hjk : j = k
        · subst hjk; exact u2_at _ _ _ _
        · rw [u2_k _ _ _ _ (by omega)]; exact h1 j (by omega)
      · show u2 z.1 86 (170 * c + k) (y.1 84 k) 86 i = _
        rw [u2_k _ _ _ _ (by omega)]; exact h2 i hi
  have q := K1 170 0 (by omega) y fr_rf rfl (fun j hj => absurd hj (by omega)) (fun _ _ => rfl)
  repeat (first | (refine sw_at (n := 81) rfl ?_; exact (q)) | refine sw_s hT rfl rfl ?_)
/-- a state saved behind c ones; the eldest of four gives way -/
def svP (x : Hp) (c : Nat) (z : Hp) : Prop := fr [83, 86, 87] x z ∧ (∀ k, k ≠ 5 → z.1 83 k = x.1 83 k) ∧ z.1 83 5 = nI (min (c + 1) 4) ∧ (∀ k, k < 170 → z.1 86 (170 * min c 3 + k) = x.1 84 k) ∧ (∀ i, i < 170 * min c 3 → z.1 86 i = x.1 86 (170 * (c - min c 3) + i)) ∧ (∀ k, k < 76 → z.2.1 87 (76 * min c 3 + k) = x.2.1 85 k) ∧ ∀ i, i < 76 * min c 3 → z.2.1 87 i = x.2.1 87 (76 * (c - min c 3) + i)
theorem r_save (Y : Kx) (x : Hp) (c : Nat) (hc : c ≤ 4) (h5 : x.1 83 5 = nI c) : sR Y mX7_save [.ref 83] x (fun rr z => rr = none ∧ svP x c z) := by
  refine sR_of (by decide +kernel) (Nat.le_of_ble_eq_true rfl) (fun X h hY hR => ?_)
  have hT := kX7_save h
  by_cases h4 : c = 4
  · subst h4
    have K2 : ∀ d k, d + k = 228 → ∀ z, fr [86, 87] x z → (∀ i, i < 510 → z.1 86 i = x.1 86 (170 + i)) → (∀ i, i < k → z.2.1 87 i = x.2.1 87 (76 + i)) → (∀ i, k ≤ i → z.2.1 87 i = x.2.1 87 i) → SW X mX7_save 41 [(1, .int (nI k)), (0, .ref 83)] [] z := by
      intro d
      induction d with
      | zero =>
        intro k hk z hz h1 h2 h3
        have hk : k = 228 := by omega
        subst hk
        have e83 : z.1 83 = x.1 83 := hz.1 83 (by decide)
        have e84 : z.1 84 = x.1 84 := hz.1 84 (by decide)
        have e85 : z.2.1 85 = x.2.1 85 := hz.2.1 85 (by decide)
        obtain ⟨y, hy⟩ : ∃ y : Hp, y = (u2 z.1 83 5 (z.1 83 5 - 1), z.2) := ⟨_, rfl⟩
        have y5 : y.1 83 5 = nI 3 := by rw [hy]; show u2 z.1 83 5 (z.1 83 5 - 1) 83 5 = _; rw [u2_at, e83, h5]; decide
        have yk : ∀ k, k ≠ 5 → y.1 83 k = x.1 83 k := fun k hk => by rw [hy]; show u2 z.1 83 5 (z.1 83 5 - 1) 83 k = _; rw [u2_k _ _ _ _ hk, e83]
        have zy : fr [83, 86, 87] z y := by rw [hy]; exact fr_wI (by decide)
        have y86 : y.1 86 = z.1 86 := by rw [hy]; exact u2_ne (f := z.1) (i := 83) (j := 86) (k := 5) (v := z.1 83 5 - 1) (by decide)
        have y84 : y.1 84 = z.1 84 := by rw [hy]; exact u2_ne (f := z.1) (i := 83) (j := 84) (k := 5) (v := z.1 83 5 - 1) (by decide)
        have yd : y.2 = z.2 := by rw [hy]
        have q := sw_save79 hT (ls := [(0, .ref 83)]) rfl (y := y) (c := 3) (by omega) y5 hR (fun w hw => by
          obtain ⟨w1, w2, w3, w4, w5, w6, w7⟩ := hw
          refine ⟨rfl, fr_tr (fr_tr (fr_le hz (by decide)) zy) w1, fun k hk => by rw [w2 k hk, yk k hk], w3, fun k hk => ?_, fun i hi => ?_, fun k hk => ?_, fun i hi => ?_⟩
          · rw [show 170 * min 4 3 + k = 170 * 3 + k from rfl, w4 k hk, y84, e84]
          · rw [w5 i hi, y86, h1 i hi]; rfl
          · rw [show 76 * min 4 3 + k = 76 * 3 + k from rfl, w6 k hk, yd, e85]
          · rw [w7 i hi, yd, h2 i hi]; rfl)
        rw [hy] at q
        repeat (refine sw_s hT rfl rfl ?_)
        refine sw_b hT rfl rfl (fun _ => ?_) (fun c => absurd ((by decide)) c)
        repeat (first | (refine sw_at (n := 79) rfl ?_; exact (sw_pick [1] rfl q)) | refine sw_s hT rfl rfl ?_)
      | succ d ih =>
        intro k hk z hz h1 h2 h3
        repeat (refine sw_s hT rfl rfl ?_)
        rw [show (228 : Int32) = nI 228 by decide]
        refine sw_b hT rfl rfl (fun c => absurd c ((nI_ge (by omega) (by omega)))) (fun _ => ?_)
        repeat (refine sw_s hT rfl rfl ?_)
        rw [show (76 : Int32) = nI 76 by decide, nI_add]
        refine sw_dald hT rfl rfl (inXD (by omega)) ?_
        rw [clW (by omega), h3 (k + 76) (by omega)]
        refine sw_dast hT rfl rfl (inXD (by omega)) ?_
        rw [clW (by omega)]
        have q := ih (k + 1) (by omega) (z.1, u2 z.2.1 87 k (x.2.1 87 (k + 76)), z.2.2) (fr_tr hz (fr_wD (by decide))) h1 (fun i hi => ?_) (fun i hi => ?_)
        · rw [← nI_1] at q
          repeat (first | (refine sw_at (n := 41) rfl ?_; exact (q)) | refine sw_s hT rfl rfl ?_)
        · show u2 z.2.1 87 k (x.2.1 87 (k + 76)) 87 i = _
          by_cases hik : i = k
          · subst hik; rw [u2_at, Nat.add_comm]
          · rw [u2_k _ _ _ _ hik]; exact h2 i (by omega)
        · show u2 z.2.1 87 k (x.2.1 87 (k + 76)) 87 i = _
          rw [u2_k _ _ _ _ (by omega)]; exact h3 i (by omega)
    have K1 : ∀ d k, d + k = 510 → ∀ z, fr [86, 87] x z → z.2.1 = x.2.1 → (∀ i, i < k → z.1 86 i = x.1 86 (170 + i)) → (∀ i, k ≤ i → z.1 86 i = x.1 86 i) → SW X mX7_save 10 [(1, .int (nI k)), (0, .ref 83)] [] z := by
      intro d
      induction d with
      | zero =>
        intro k hk z hz h0 h1 h2
        have hk : k = 510 := by omega
        subst hk
        have q := K2 228 0 (by omega) z hz h1 (fun j hj => absurd hj (by omega)) (fun i _ => by rw [h0])
        repeat (refine sw_s hT rfl rfl ?_)
        refine sw_b hT rfl rfl (fun _ => ?_) (fun c => absurd ((by decide)) c)
        repeat (first | (refine sw_at (n := 41) rfl ?_; exact (q)) | refine sw_s hT rfl rfl ?_)
      | succ d ih =>
        intro k hk z hz h0 h1 h2
        repeat (refine sw_s hT rfl rfl ?_)
        rw [show (510 : Int32) = nI 510 by decide]
        refine sw_b hT rfl rfl (fun c => absurd c ((nI_ge (by omega) (by omega)))) (fun _ => ?_)
        repeat (refine sw_s hT rfl rfl ?_)
        rw [show (170 : Int32) = nI 170 by decide, nI_add]
        refine sw_iald hT rfl rfl (inX (by omega)) ?_
        rw [clW (by omega), h2 (k + 170) (by omega)]
        refine sw_iast hT rfl rfl (inX (by omega)) ?_
        rw [clW (by omega)]
        have q := ih (k + 1) (by omega) (u2 z.1 86 k (x.1 86 (k + 170)), z.2) (fr_tr hz (fr_wI (by decide))) h0 (fun i hi => ?_) (fun i hi => ?_)
        · rw [← nI_1] at q
          repeat (first | (refine sw_at (n := 10) rfl ?_; exact (q)) | refine sw_s hT rfl rfl ?_)
        · show u2 z.1 86 k (x.1 86 (k + 170)) 86 i = _
          by_cases hik : i = k
          · subst hik; rw [u2_at, Nat.add_comm]
          · rw [u2_k _ _ _ _ hik]; exact h1 i (by omega)
        · show u2 z.1 86 k (x.1 86 (k + 170)) 86 i = _
          rw [u2_k _ _ _ _ (by omega)]; exact h2 i (by omega)
    have q := K1 510 0 (by omega) x fr_rf rfl (fun j hj => absurd hj (by omega)) (fun _ _ => rfl)
    repeat (refine sw_s hT rfl rfl ?_)
    rw [show fks x 83 5 0 = .int 4 from congrArg Value.int h5]
    refine sw_b hT rfl rfl (fun _ => ?_) (fun c => absurd (rfl) c)
    repeat (first | (refine sw_at (n := 10) rfl ?_; exact (q)) | refine sw_s hT rfl rfl ?_)
  · have hm : min c 3 = c := by omega
    have hm2 : min (c + 1) 4 = c + 1 := by omega
    have q := sw_save79 hT (ls := [(0, .ref 83)]) rfl (y := x) (c := c) (by omega) h5 hR (fun w hw => by
      obtain ⟨w1, w2, w3, w4, w5, w6, w7⟩ := hw
      refine ⟨rfl, w1, w2, by rw [hm2]; exact w3, ?_, ?_, ?_, ?_⟩
      all_goals rw [hm]
      · exact w4
      · rw [Nat.sub_self]; intro i hi; rw [Nat.mul_zero, Nat.zero_add]; exact w5 i hi
      · exact w6
      · rw [Nat.sub_self]; intro i hi; rw [Nat.mul_zero, Nat.zero_add]; exact w7 i hi)
    repeat (refine sw_s hT rfl rfl ?_)
    rw [show fks x 83 5 0 = .int (nI c) from congrArg Value.int h5]
    refine sw_b hT rfl rfl (fun c2 => ?_) (fun _ => ?_)
    · exact absurd ((nI_eq (a := c) (b := 4) (by omega) (by omega)).mp c2) h4
    · exact q
