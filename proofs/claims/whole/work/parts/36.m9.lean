/-! the reference: taking back, breakers, checksum -/
theorem r_thrown (Y : Kx) (x : Hp) : sM Y mX7_thrown [.ref 83] x (some (.int (x.1 83 0))) x := by
  refine sM_of (by decide +kernel) (Nat.le_of_ble_eq_true rfl) (fun X h hY hR => ?_)
  have hT := kX7_thrown h
  repeat (refine sw_s hT rfl rfl ?_)
  exact sw_iret hT rfl rfl rfl (hR)
/-- the last one of c saved states, brought back -/
def unP (x : Hp) (c : Nat) (z : Hp) : Prop := fr [83, 84, 85] x z ∧ (∀ k, k ≠ 0 → k ≠ 5 → z.1 83 k = x.1 83 k) ∧ z.1 83 0 = 0 ∧ z.1 83 5 = nI c ∧ (∀ k, k < 170 → z.1 84 k = x.1 86 (170 * c + k)) ∧ ∀ k, k < 76 → z.2.1 85 k = x.2.1 87 (76 * c + k)
theorem r_undo (Y : Kx) (x : Hp) (c : Nat) (hc : c < 4) (h5 : x.1 83 5 = nI (c + 1)) : sR Y mX7_undo [.ref 83] x (fun rr z => rr = some (.int (nI c)) ∧ unP x c z) := by
  refine sR_of (by decide +kernel) (Nat.le_of_ble_eq_true rfl) (fun X h hY hR => ?_)
  have hT := kX7_undo h
  obtain ⟨y, hy⟩ : ∃ y : Hp, y = (u2 (th x 0).1 83 5 (nI c), (th x 0).2) := ⟨_, rfl⟩
  have y5 : y.1 83 5 = nI c := by rw [hy]; exact u2_at (th x 0).1 83 5 (nI c)
  have y0 : y.1 83 0 = 0 := by rw [hy]; exact (u2_k (th x 0).1 83 5 (nI c) (by decide)).trans th_0
  have yk : ∀ k, k ≠ 0 → k ≠ 5 → y.1 83 k = x.1 83 k := fun k a b => by rw [hy]; exact (u2_k (th x 0).1 83 5 (nI c) b).trans (th_k a)
  have yo : fr [83, 84, 85] x y := by rw [hy]; exact fr_tr (fr_wI (x := x) (by decide)) (fr_wI (x := th x 0) (by decide))
  have y86 : y.1 86 = x.1 86 := yo.1 86 (by decide)
  have y87 : y.2.1 87 = x.2.1 87 := yo.2.1 87 (by decide)
  have K2 : ∀ d k, d + k = 76 → ∀ z, fr [84, 85] y z → (∀ j, j < 170 → z.1 84 j = x.1 86 (170 * c + j)) → (∀ j, j < k → z.2.1 85 j = x.2.1 87 (76 * c + j)) → SW X mX7_undo 73 [(1, .int (nI k)), (0, .ref 83)] [] z := by
    intro d
    induction d with
    | zero =>
      intro k hk z hz h1 h2
      have hk : k = 76 := by omega
      subst hk
      have e83 : z.1 83 = y.1 83 := hz.1 83 (by decide)
      repeat (refine sw_s hT rfl rfl ?_)
      refine sw_b hT rfl rfl (fun _ => ?_) (fun c => absurd ((by decide)) c)
      repeat (refine sw_s hT rfl rfl ?_)
      rw [show fks z 83 5 0 = .int (nI c) from congrArg Value.int (by rw [e83, y5])]
      refine sw_iretP hT rfl rfl rfl hR ?_
      exact ⟨rfl, fr_tr yo (fr_le hz (by decide)), fun k a b => by rw [e83]; exact yk k a b, by rw [e83]; exact y0, by rw [e83]; exact y5, h1, h2⟩
    | succ d ih =>
      intro k hk z hz h1 h2
      have e83 : z.1 83 = y.1 83 := hz.1 83 (by decide)
      have e87 : z.2.1 87 = x.2.1 87 := (hz.2.1 87 (by decide)).trans y87
      repeat (refine sw_s hT rfl rfl ?_)
      rw [show (76 : Int32) = nI 76 by decide]
      refine sw_b hT rfl rfl (fun c => absurd c ((nI_ge (by omega) (by omega)))) (fun _ => ?_)
      repeat (refine sw_s hT rfl rfl ?_)
      rw [e83, y5, show (76 : Int32) = nI 76 by decide, pk_mul, nI_add]
      refine sw_dald hT rfl rfl (inXD (by omega)) ?_
      rw [clW (by omega), e87]
      refine sw_dast hT rfl rfl (inV (by omega)) ?_
      rw [clW (by omega)]
      have q := ih (k + 1) (by omega) (z.1, u2 z.2.1 85 k (x.2.1 87 (76 * c + k)), z.2.2) (fr_tr hz (fr_wD (by decide))) h1 (fun j hj => ?_)
      · rw [← nI_1] at q
        repeat (first | (refine sw_at (n := 73) rfl ?_; exact (q)) | refine sw_s hT rfl rfl ?_)
      · show u2 z.2.1 85 k (x.2.1 87 (76 * c + k)) 85 j = _
        by_cases hjk : j = k
        · subst hjk; exact u2_at _ _ _ _
        · rw [u2_k _ _ _ _ hjk]; exact h2 j (by omega)
  have K1 : ∀ d k, d + k = 170 → ∀ z, fr [84, 85] y z → (∀ j, j < k → z.1 84 j = x.1 86 (170 * c + j)) → SW X mX7_undo 37 [(1, .int (nI k)), (0, .ref 83)] [] z := by
    intro d
    induction d with
    | zero =>
      intro k hk z hz h1
      have hk : k = 170 := by omega
      subst hk
      have q := K2 76 0 (by omega) z hz h1 (fun j hj => absurd hj (by omega))
      repeat (refine sw_s hT rfl rfl ?_)
      refine sw_b hT rfl rfl (fun _ => ?_) (fun c => absurd ((by decide)) c)
      repeat (first | (refine sw_at (n := 73) rfl ?_; exact (q)) | refine sw_s hT rfl rfl ?_)
    | succ d ih =>
      intro k hk z hz h1
      have e83 : z.1 83 = y.1 83 := hz.1 83 (by decide)
      have e86 : z.1 86 = x.1 86 := (hz.1 86 (by decide)).trans y86
      repeat (refine sw_s hT rfl rfl ?_)
      rw [show (170 : Int32) = nI 170 by decide]
      refine sw_b hT rfl rfl (fun c => absurd c ((nI_ge (by omega) (by omega)))) (fun _ => ?_)
      repeat (refine sw_s hT rfl rfl ?_)
      rw [e83, y5, show (170 : Int32) = nI 170 by decide, pk_mul, nI_add]
      refine sw_iald hT rfl rfl (inX (by omega)) ?_
      rw [clW (by omega), e86]
      refine sw_iast hT rfl rfl (inW (by omega)) ?_
      rw [clW (by omega)]
      have q := ih (k + 1) (by omega) (u2 z.1 84 k (x.1 86 (170 * c + k)), z.2) (fr_tr hz (fr_wI (by decide))) (fun j hj => ?_)
      · rw [← nI_1] at q
        repeat (first | (refine sw_at (n := 37) rfl ?_; exact (q)) | refine sw_s hT rfl rfl ?_)
      · show u2 z.1 84 k (x.1 86 (170 * c + k)) 84 j = _
        by_cases hjk : j = k
        · subst hjk; exact u2_at _ _ _ _
        · rw [u2_k _ _ _ _ hjk]; exact h1 j (by omega)
  repeat (refine sw_s hT rfl rfl ?_)
  rw [show fks x 83 5 0 = .int (nI (c + 1)) from congrArg Value.int h5]
  refine sw_b hT rfl rfl (fun c => absurd c ((nI_ne0 (Nat.succ_pos _) (by omega)))) (fun _ => ?_)
  repeat (refine sw_s hT rfl rfl ?_)
  rw [th_def, fks_th]
  refine sw_b hT rfl rfl (fun _ => ?_) (fun c => absurd ((by decide)) c)
  have q := K1 170 0 (by omega) y fr_rf (fun j hj => absurd hj (by omega))
  rw [hy, show nI c = (th x 0).1 83 5 - 1 by rw [th_k (by decide), h5, nI_pred]] at q
  repeat (first | (refine sw_at (n := 37) rfl ?_; exact (q)) | refine sw_s hT rfl rfl ?_)
theorem b_undo (Y : Kx) (x : Hp) (h5 : x.1 83 5 = 0) : sM Y mX7_undo [.ref 83] x (some (.int 0)) (th x 1) := by
  refine sM_of (by decide +kernel) (Nat.le_of_ble_eq_true rfl) (fun X h hY hR => ?_)
  have hT := kX7_undo h
  repeat (refine sw_s hT rfl rfl ?_)
  rw [show fks x 83 5 0 = .int 0 from congrArg Value.int h5]
  refine sw_b hT rfl rfl (fun _ => ?_) (fun c => absurd (rfl) c)
  repeat (refine sw_s hT rfl rfl ?_)
  rw [th_def, fks_th]
  refine sw_b hT rfl rfl (fun c => absurd c ((by decide))) (fun _ => ?_)
  repeat (refine sw_s hT rfl rfl ?_)
  exact sw_iret hT rfl rfl rfl (hR)
/-- the open breakers as bits, as the reference gathers them -/
def oM (x : Hp) : Nat → Int32
  | 0 => 0
  | j + 1 => oM x j ||| (x.1 84 (2 + 9 * j + 8) <<< (nI j &&& 31))
theorem oM_eq {x y : Hp} (h : y.1 84 = x.1 84) : ∀ j, oM y j = oM x j
  | 0 => rfl
  | j + 1 => by unfold oM; rw [oM_eq h j, h]
theorem r_openOnes (Y : Kx) (x : Hp) (n : Nat) (h0 : x.1 84 0 = nI n) (h12 : n ≤ 12) : sM Y mX7_openOnes [.ref 83] x (some (.int (oM x n))) x := by
  refine sM_of (by decide +kernel) (Nat.le_of_ble_eq_true rfl) (fun X h hY hR => ?_)
  have hT := kX7_openOnes h
  have K : ∀ d j, d + j = n → SW X mX7_openOnes 4 [(2, .int (nI j)), (1, .int (oM x j)), (0, .ref 83)] [] x := by
    intro d
    induction d with
    | zero =>
      intro j hj
      have hjn : j = n := by omega
      subst hjn
      repeat (refine sw_s hT rfl rfl ?_)
      refine sw_iald hT rfl rfl (inW (by omega : 0 < 170)) ?_
      rw [show (0 : Int32).toNatClampNeg = 0 by decide, h0]
      refine sw_b hT rfl rfl (fun _ => ?_) (fun c => absurd ((Int32.le_refl _)) c)
      repeat (refine sw_s hT rfl rfl ?_)
      exact sw_iret hT rfl rfl rfl (hR)
    | succ d ih =>
      intro j hj
      have q := ih (j + 1) (by omega)
      rw [← nI_1] at q
      repeat (refine sw_s hT rfl rfl ?_)
      refine sw_iald hT rfl rfl (inW (by omega : 0 < 170)) ?_
      rw [show (0 : Int32).toNatClampNeg = 0 by decide, h0]
      refine sw_b hT rfl rfl (fun c => absurd c ((nI_ge (by omega) (by omega)))) (fun _ => ?_)
      repeat (refine sw_s hT rfl rfl ?_)
      refine sw_cs hT rfl (r_atL _ x j 8 8 (by decide)) rfl rfl (Nat.le_of_ble_eq_true rfl) ?_
      refine sw_iald hT rfl rfl (inW (by omega)) ?_
      rw [clW (by omega)]
      repeat (first | (refine sw_at (n := 4) rfl ?_; exact (sw_pick [0, 1, 2] rfl q)) | refine sw_s hT rfl rfl ?_)
  repeat (first | (refine sw_at (n := 4) rfl ?_; exact (K n 0 (by omega))) | refine sw_s hT rfl rfl ?_)
theorem r_openBreakers (Y : Kx) (x : Hp) (n : Nat) (h0 : x.1 84 0 = nI n) (h12 : n ≤ 12) : sM Y mX7_openBreakers [.ref 83] x (some (.int (oM x n))) (th x 0) := by
  refine sM_of (by decide +kernel) (Nat.le_of_ble_eq_true rfl) (fun X h hY hR => ?_)
  have hT := kX7_openBreakers h
  rw [← oM_eq (x := x) (y := th x 0) (th_o (by decide))] at hR
  repeat (refine sw_s hT rfl rfl ?_)
  rw [th_def]
  refine sw_cv hT rfl (r_openOnes _ (th x 0) n (by rw [th_o (by decide)]; exact h0) h12) rfl rfl rfl rfl (Nat.le_of_ble_eq_true rfl) ?_
  exact sw_iret hT rfl rfl rfl (hR)
/-- whether a breaker of the row is open -/
def opB (m : Int32) (L : List Nat) : Bool := L.any (fun e => decide (¬ (m >>> (nI e &&& 31)) &&& 1 = 0))
def oB (b : Bool) : Int32 := if b then 1 else 0
theorem oB_n {b : Bool} : narrow .boolean (.int (oB b)) = .int (oB b) := by cases b <;> rfl
theorem r_isPathOpen (Y : Kx) (g x : Hp) (n : Nat) (L : List Nat) (h12 : n ≤ 12) (hO : OPN g x n) (h7 : x.1 83 7 = nI L.length) (hl : L.length ≤ 12) (hL : ∀ (i e : Nat), L[i]? = some e → x.1 88 i = nI e) (hm : ∀ e, e ∈ L → e < n) : sM Y mX7_isPathOpen [.ref 83] x (some (.int (oB (opB (g.1 7 6) L)))) x := by
  refine sM_of (by decide +kernel) (Nat.le_of_ble_eq_true rfl) (fun X h hY hR => ?_)
  have hT := kX7_isPathOpen h
  have K : ∀ (D U : List Nat), U ++ D = L → SW X mX7_isPathOpen 4 [(2, .int (nI U.length)), (1, .int (oB (opB (g.1 7 6) U))), (0, .ref 83)] [] x := by
    intro D
    induction D with
    | nil =>
      intro U hU
      rw [List.append_nil] at hU
      subst hU
      repeat (refine sw_s hT rfl rfl ?_)
      rw [show fks x 83 7 0 = .int (nI U.length) from congrArg Value.int h7]
      refine sw_b hT rfl rfl (fun _ => ?_) (fun c => absurd ((Int32.le_refl _)) c)
      repeat (refine sw_s hT rfl rfl ?_)
      exact sw_iret hT rfl rfl oB_n hR
    | cons a D ih =>
      intro U hU
      have hal : U.length < L.length := by rw [← hU]; simp
      have ha : L[U.length]? = some a := by rw [← hU, List.getElem?_append_right (Nat.le_refl _), Nat.sub_self]; rfl
      have han : a < n := hm a (List.mem_of_getElem? ha)
      have q := ih (U ++ [a]) (by rw [← hU]; simp)
      rw [show (U ++ [a]).length = U.length + 1 by simp, ← nI_1, show opB (g.1 7 6) (U ++ [a]) = (opB (g.1 7 6) U || decide (¬ (g.1 7 6 >>> (nI a &&& 31)) &&& 1 = 0)) by unfold opB; rw [List.any_append]; simp] at q
      repeat (refine sw_s hT rfl rfl ?_)
      rw [show fks x 83 7 0 = .int (nI L.length) from congrArg Value.int h7]
      refine sw_b hT rfl rfl (fun c => absurd c ((nI_ge (by omega) (by omega)))) (fun _ => ?_)
      repeat (refine sw_s hT rfl rfl ?_)
      cases hb : opB (g.1 7 6) U with
      | true =>
        rw [hb, Bool.true_or] at q
        refine sw_b hT rfl rfl (fun c => absurd c ((by decide))) (fun _ => ?_)
        repeat (first | (refine sw_at (n := 4) rfl ?_; exact (sw_pick [0, 1, 2] rfl q)) | refine sw_s hT rfl rfl ?_)
      | false =>
        rw [hb, Bool.false_or] at q
        refine sw_b hT rfl rfl (fun _ => ?_) (fun c => absurd (rfl) c)
        repeat (refine sw_s hT rfl rfl ?_)
        refine sw_iald hT rfl rfl (in12 (by omega)) ?_
        rw [cl12 (by omega), hL _ a ha]
        repeat (refine sw_s hT rfl rfl ?_)
        refine sw_cs hT rfl (r_atL _ x a 8 8 (by decide)) rfl rfl (Nat.le_of_ble_eq_true rfl) ?_
        refine sw_iald hT rfl rfl (inW (by omega)) ?_
        rw [clW (by omega), hO a han]
        repeat (refine sw_s hT rfl rfl ?_)
        by_cases c1 : bS (g.1 7 6) a
        · rw [if_pos c1]
          rw [decide_eq_true (show ¬ (g.1 7 6 >>> (nI a &&& 31)) &&& 1 = 0 from c1)] at q
          refine sw_b hT rfl rfl (fun _ => ?_) (fun c => absurd (rfl) c)
          repeat (first | (refine sw_at (n := 4) rfl ?_; exact (sw_pick [0, 1, 2] rfl q)) | refine sw_s hT rfl rfl ?_)
        · rw [if_neg c1]
          rw [decide_eq_false (show ¬ ¬ (g.1 7 6 >>> (nI a &&& 31)) &&& 1 = 0 from c1)] at q
          refine sw_b hT rfl rfl (fun c => absurd c ((by decide))) (fun _ => ?_)
          repeat (first | (refine sw_at (n := 4) rfl ?_; exact (sw_pick [0, 1, 2] rfl q)) | refine sw_s hT rfl rfl ?_)
  have q := K L [] rfl
  repeat (first | (refine sw_at (n := 4) rfl ?_; exact (q)) | refine sw_s hT rfl rfl ?_)
theorem OPN_fr {g x y : Hp} {n : Nat} (h : OPN g x n) (e : y.1 84 = x.1 84) : OPN g y n := fun k hk => by rw [e]; exact h k hk
/-- the load behind open breakers -/
def llS (g x : Hp) : Nat → Int32
  | 0 => 0
  | b + 1 => llS g x b + (if opB (g.1 7 6) (pD (fbN g) b).reverse = true then x.1 84 (2 + 9 * b + 1) else 0)
theorem r_lostLoad (Y : Kx) (g x : Hp) (n : Nat) (hB : MB g x n) (hO : OPN g x n) : sR Y mX7_lostLoad [.ref 83] x (fun rr z => rr = some (.int (llS g x n)) ∧ scr (th x 0) z) := by
  refine sR_of (by decide +kernel) (Nat.le_of_ble_eq_true rfl) (fun X h hY hR => ?_)
  have hT := kX7_lostLoad h
  have h12 := hB.1
  have K : ∀ d b, d + b = n → ∀ y, scr (th x 0) y → SW X mX7_lostLoad 9 [(2, .int (nI (b + 1))), (1, .int (llS g x b)), (0, .ref 83)] [] y := by
    intro d
    induction d with
    | zero =>
      intro b hb y hs
      have hbn : b = n := by omega
      subst hbn
      have e84 : y.1 84 = x.1 84 := (hs.1.1 84 (by decide)).trans (th_o (by decide))
      repeat (refine sw_s hT rfl rfl ?_)
      refine sw_iald hT rfl rfl (inW (by omega : 0 < 170)) ?_
      rw [show (0 : Int32).toNatClampNeg = 0 by decide, e84, hB.2.1]
      refine sw_b hT rfl rfl (fun _ => ?_) (fun c => absurd (nI_lt (by omega) (by omega)) c)
      repeat (refine sw_s hT rfl rfl ?_)
      refine sw_iretP hT rfl rfl rfl hR ?_
      exact ⟨rfl, hs⟩
    | succ d ih =>
      intro b hb y hs
      have e84 : y.1 84 = x.1 84 := (hs.1.1 84 (by decide)).trans (th_o (by decide))
      have yB : MB g y n := ⟨h12, by rw [e84]; exact hB.2.1, fun k hk => by rw [e84]; exact hB.2.2 k hk⟩
      have hl : llS g x (b + 1) = llS g x b + (if opB (g.1 7 6) (pD (fbN g) b).reverse = true then x.1 84 (2 + 9 * b + 1) else 0) := rfl
      repeat (refine sw_s hT rfl rfl ?_)
      refine sw_iald hT rfl rfl (inW (by omega : 0 < 170)) ?_
      rw [show (0 : Int32).toNatClampNeg = 0 by decide, e84, hB.2.1]
      refine sw_b hT rfl rfl (fun c => absurd c (Int32.not_lt.mpr (nI_le (by omega) (by omega)))) (fun _ => ?_)
      repeat (refine sw_s hT rfl rfl ?_)
      rw [nI_pred]
      refine sw_cvR hT rfl (r_findPath _ g y n b yB (by omega)) rfl rfl rfl rfl (Nat.le_of_ble_eq_true rfl) ?_
      rintro _ z ⟨rfl, ⟨z7, z88⟩, zs⟩
      have f84 : z.1 84 = x.1 84 := (zs.1.1 84 (by decide)).trans e84
      have hfb := MBf hB b (by omega)
      have q := ih (b + 1) (by omega) z (scr_tr hs zs)
      rw [← nI_1 (b + 1), hl] at q
      show SW X mX7_lostLoad 26 _ [] z
      repeat (refine sw_s hT rfl rfl ?_)
      refine sw_cv hT rfl (r_isPathOpen _ g z n (pD (fbN g) b).reverse h12 (OPN_fr hO f84) z7 (by rw [List.length_reverse]; have := pD_len hfb; omega) z88 (fun e he => by have := pD_le hfb e (List.mem_reverse.mp he); omega)) rfl rfl rfl rfl (Nat.le_of_ble_eq_true rfl) ?_
      cases hb : opB (g.1 7 6) (pD (fbN g) b).reverse with
      | true =>
        rw [hb, if_pos rfl] at q
        refine sw_b hT rfl rfl (fun c => absurd c ((by decide))) (fun _ => ?_)
        repeat (refine sw_s hT rfl rfl ?_)
        rw [nI_pred]
        refine sw_cs hT rfl (r_atL _ z b 1 1 (by decide)) rfl rfl (Nat.le_of_ble_eq_true rfl) ?_
        refine sw_iald hT rfl rfl (inW (by omega)) ?_
        rw [clW (by omega), f84]
        repeat (first | (refine sw_at (n := 9) rfl ?_; exact (sw_pick [0, 1, 2] rfl q)) | refine sw_s hT rfl rfl ?_)
      | false =>
        rw [hb, if_neg (by decide)] at q
        refine sw_b hT rfl rfl (fun _ => ?_) (fun c => absurd (rfl) c)
        repeat (first | (refine sw_at (n := 9) rfl ?_; exact (sw_pick [0, 1, 2] rfl q)) | refine sw_s hT rfl rfl ?_)
  have q := K n 0 (by omega) (th x 0) scr_rf
  repeat (first | (refine sw_at (n := 9) rfl ?_; exact (q)) | refine sw_s hT rfl rfl ?_)
/-- how many breakers are open, as the reference counts -/
def cM (x : Hp) : Nat → Int32
  | 0 => 0
  | j + 1 => cM x j + x.1 84 (2 + 9 * j + 8)
/-- the first j breakers closed -/
def w8S (y : Hp) : Nat → Nat → Nat → Int32
  | 0 => y.1
  | j + 1 => u2 (w8S y j) 84 (2 + 9 * j + 8) 0
theorem w8S_o (y : Hp) : ∀ j i, i ≠ 84 → w8S y j i = y.1 i
  | 0, _, _ => rfl
  | j + 1, i, h => by
    show u2 (w8S y j) 84 _ 0 i = _
    rw [u2_ne h, w8S_o y j i h]
theorem w8S_in (y : Hp) : ∀ j e, e < j → w8S y j 84 (2 + 9 * e + 8) = 0
  | 0, e, h => absurd h (by omega)
  | j + 1, e, h => by
    show u2 (w8S y j) 84 (2 + 9 * j + 8) 0 84 (2 + 9 * e + 8) = _
    by_cases q : e = j
    · subst q; exact u2_at _ _ _ _
    · rw [u2_k _ _ _ _ (by omega)]; exact w8S_in y j e (by omega)
theorem w8S_out (y : Hp) : ∀ j k, (∀ e, e < j → k ≠ 2 + 9 * e + 8) → w8S y j 84 k = y.1 84 k
  | 0, _, _ => rfl
  | j + 1, k, h => by
    show u2 (w8S y j) 84 (2 + 9 * j + 8) 0 84 k = _
    rw [u2_k _ _ _ _ (h j (by omega)), w8S_out y j k (fun e he => h e (by omega))]
theorem r_closeAll (Y : Kx) (x : Hp) (c n : Nat) (hc : c ≤ 4) (h5 : x.1 83 5 = nI c) (h0 : x.1 84 0 = nI n) (h12 : n ≤ 12) : sR Y mX7_closeAll [.ref 83] x (fun rr x' => ∃ y, sv0 x c y ∧ rr = some (.int (cM x n)) ∧ x' = (w8S y n, y.2)) := by
  refine sR_of (by decide +kernel) (Nat.le_of_ble_eq_true rfl) (fun X h hY hR => ?_)
  have hT := kX7_closeAll h
  repeat (refine sw_s hT rfl rfl ?_)
  rw [th_def]
  refine sw_cvR hT rfl (r_save _ (th x 0) c hc (th_5 h5)) rfl rfl rfl rfl (Nat.le_of_ble_eq_true rfl) ?_
  rintro _ y ⟨rfl, hy⟩
  have e84 := sv0_84 hy
  have K : ∀ d j, d + j = n → SW X mX7_closeAll 13 [(2, .int (nI j)), (1, .int (cM x j)), (0, .ref 83)] [] (w8S y j, y.2) := by
    intro d
    induction d with
    | zero =>
      intro j hj
      have hjn : j = n := by omega
      subst hjn
      repeat (refine sw_s hT rfl rfl ?_)
      refine sw_iald hT rfl rfl (inW (by omega : 0 < 170)) ?_
      rw [show (0 : Int32).toNatClampNeg = 0 by decide, show ((w8S y j, y.2) : Hp).1 84 0 = nI j from (w8S_out y j 0 (fun e _ => by omega)).trans (by rw [e84, h0])]
      refine sw_b hT rfl rfl (fun _ => ?_) (fun c => absurd ((Int32.le_refl _)) c)
      repeat (refine sw_s hT rfl rfl ?_)
      refine sw_iretP hT rfl rfl rfl hR ?_
      exact ⟨y, hy, rfl, rfl⟩
    | succ d ih =>
      intro j hj
      have q := ih (j + 1) (by omega)
      rw [← nI_1] at q
      repeat (refine sw_s hT rfl rfl ?_)
      refine sw_iald hT rfl rfl (inW (by omega : 0 < 170)) ?_
      rw [show (0 : Int32).toNatClampNeg = 0 by decide, show ((w8S y j, y.2) : Hp).1 84 0 = nI n from (w8S_out y j 0 (fun e _ => by omega)).trans (by rw [e84, h0])]
      refine sw_b hT rfl rfl (fun c => absurd c ((nI_ge (by omega) (by omega)))) (fun _ => ?_)
      repeat (refine sw_s hT rfl rfl ?_)
      refine sw_cs hT rfl (r_atL _ _ j 8 8 (by decide)) rfl rfl (Nat.le_of_ble_eq_true rfl) ?_
      refine sw_iald hT rfl rfl (inW (by omega)) ?_
      rw [clW (by omega), show ((w8S y j, y.2) : Hp).1 84 (2 + 9 * j + 8) = x.1 84 (2 + 9 * j + 8) from (w8S_out y j _ (fun e _ => by omega)).trans (by rw [e84])]
      repeat (refine sw_s hT rfl rfl ?_)
      refine sw_cs hT rfl (r_atL _ _ j 8 8 (by decide)) rfl rfl (Nat.le_of_ble_eq_true rfl) ?_
      repeat (refine sw_s hT rfl rfl ?_)
      refine sw_iast hT rfl rfl (inW (by omega)) ?_
      rw [clW (by omega)]
      repeat (first | (refine sw_at (n := 13) rfl ?_; exact (sw_pick [0, 1, 2] rfl q)) | refine sw_s hT rfl rfl ?_)
  show SW X mX7_closeAll 9 _ [] y
  have q := K n 0 (by omega)
  repeat (first | (refine sw_at (n := 13) rfl ?_; exact (q)) | refine sw_s hT rfl rfl ?_)
