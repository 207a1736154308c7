/-! the reference, leaves first; its numbers are the class's (fbN ..) -/
theorem r_in (Y : Kx) (x : Hp) (v lo hi : Int32) : sM Y mX7_in [.int v, .int lo, .int hi] x (some (.int (bI (lo ≤ v ∧ v ≤ hi)))) x := by
  refine sM_of (by decide +kernel) (Nat.le_of_ble_eq_true rfl) (fun X h hY hR => ?_)
  have hT := kX7_in h
  repeat (refine sw_s hT rfl rfl ?_)
  refine sw_b hT rfl rfl (fun c1 => ?_) (fun c1 => ?_)
  · repeat (refine sw_s hT rfl rfl ?_)
    rw [bI_f (fun q => Int32.not_le.mpr c1 q.1)] at hR
    exact sw_iret hT rfl rfl rfl (hR)
  · repeat (refine sw_s hT rfl rfl ?_)
    refine sw_b hT rfl rfl (fun c2 => ?_) (fun c2 => ?_)
    · repeat (refine sw_s hT rfl rfl ?_)
      rw [bI_f (fun q => Int32.not_le.mpr c2 q.2)] at hR
      exact sw_iret hT rfl rfl rfl (hR)
    · repeat (refine sw_s hT rfl rfl ?_)
      rw [bI_t ⟨Int32.not_lt.mp c1, Int32.not_lt.mp c2⟩] at hR
      exact sw_iret hT rfl rfl rfl (hR)
theorem r_inReal (Y : Kx) (x : Hp) (v lo hi : UInt64) : sM Y mX7_inReal [.double v, .double lo, .double hi] x (some (.int (bD v lo hi))) x := by
  refine sM_of (by decide +kernel) (Nat.le_of_ble_eq_true rfl) (fun X h hY hR => ?_)
  have hT := kX7_inReal h
  unfold bD at hR
  repeat (refine sw_s hT rfl rfl ?_)
  refine sw_b hT rfl rfl (fun c1 => ?_) (fun c1 => ?_)
  · repeat (refine sw_s hT rfl rfl ?_)
    rw [bI_f (fun q => q.1 c1)] at hR
    exact sw_iret hT rfl rfl rfl (hR)
  · repeat (refine sw_s hT rfl rfl ?_)
    refine sw_b hT rfl rfl (fun c2 => ?_) (fun c2 => ?_)
    · repeat (refine sw_s hT rfl rfl ?_)
      rw [bI_f (fun q => q.2 c2)] at hR
      exact sw_iret hT rfl rfl rfl (hR)
    · repeat (refine sw_s hT rfl rfl ?_)
      rw [bI_t ⟨c1, c2⟩] at hR
      exact sw_iret hT rfl rfl rfl (hR)
theorem nI_at (k w : Nat) : (2 : Int32) + 9 * nI k + nI w = nI (2 + 9 * k + w) := by
  rw [show (2 : Int32) = nI 2 by decide, show (9 : Int32) = nI 9 by decide, pk_mul, nI_add, nI_add]
theorem r_at (Y : Kx) (x : Hp) (k w : Nat) : sM Y mX7_at [.int (nI k), .int (nI w)] x (some (.int (nI (2 + 9 * k + w)))) x := by
  refine sM_of (by decide +kernel) (Nat.le_of_ble_eq_true rfl) (fun X h hY hR => ?_)
  have hT := kX7_at h
  rw [← nI_at] at hR
  repeat (refine sw_s hT rfl rfl ?_)
  exact sw_iret hT rfl rfl rfl (hR)
/-- r_at at the places 0 .. 8, as the code writes them -/
theorem r_atL (Y : Kx) (x : Hp) (k w : Nat) (c : Int32) (hc : c = nI w) : sM Y mX7_at [.int (nI k), .int c] x (some (.int (nI (2 + 9 * k + w)))) x := by
  rw [hc]
  exact r_at Y x k w
theorem inW {j : Nat} (h : j < 170) : vp_in (nI j) 170 := vp_in_nI h (by decide)
theorem clW {j : Nat} (h : j < 2 ^ 31) : (nI j).toNatClampNeg = j := nI_clamp h
theorem inV {j : Nat} (h : j < 76) : vp_in (nI j) 76 := vp_in_nI h (by decide)
theorem r_isLine (Y : Kx) (x : Hp) (v : Int32) : sM Y mX7_isLine [.ref 83, .int v] x (some (.int (bI (0 ≤ v ∧ v ≤ x.1 84 0 - 1)))) x := by
  refine sM_of (by decide +kernel) (Nat.le_of_ble_eq_true rfl) (fun X h hY hR => ?_)
  have hT := kX7_isLine h
  repeat (refine sw_s hT rfl rfl ?_)
  refine sw_iald hT rfl rfl (inW (by omega : 0 < 170)) ?_
  rw [show (0 : Int32).toNatClampNeg = 0 by decide]
  repeat (refine sw_s hT rfl rfl ?_)
  refine sw_cs hT rfl (r_in _ x v 0 _) rfl rfl (Nat.le_of_ble_eq_true rfl) ?_
  exact sw_iret hT rfl rfl bI_n hR
/-- the reference's lines are the class's -/
def MB (g x : Hp) (n : Nat) : Prop := n ≤ 12 ∧ x.1 84 0 = nI n ∧ ∀ k, k < n → x.1 84 (2 + 9 * k) = nI (fbN g k) ∧ fbN g k ≤ k
theorem r_above (Y : Kx) (g x : Hp) (n k : Nat) (hB : MB g x n) (hk : k < n) : sM Y mX7_above [.ref 83, .int (nI k)] x (some (.int (nI (fbN g k) - 1))) x := by
  refine sM_of (by decide +kernel) (Nat.le_of_ble_eq_true rfl) (fun X h hY hR => ?_)
  have hT := kX7_above h
  obtain ⟨h12, hn, hf⟩ := hB
  repeat (refine sw_s hT rfl rfl ?_)
  refine sw_cs hT rfl (r_atL _ x k 0 0 (by decide)) rfl rfl (Nat.le_of_ble_eq_true rfl) ?_
  refine sw_iald hT rfl rfl (inW (by omega)) ?_
  rw [clW (by omega), show 2 + 9 * k + 0 = 2 + 9 * k from rfl, (hf k hk).1]
  repeat (refine sw_s hT rfl rfl ?_)
  exact sw_iret hT rfl rfl rfl (hR)
/-- the way from a line up to the source -/
def pdF (f : Nat → Nat) : Nat → Nat → List Nat
  | 0, _ => []
  | d + 1, k => k :: (if f k = 0 then [] else pdF f d (f k - 1))
theorem pdF_fuel {f : Nat → Nat} : ∀ {d e k : Nat}, (∀ j, j ≤ k → f j ≤ j) → k < d → k < e → pdF f d k = pdF f e k
  | d + 1, e + 1, k, h, hd, he => by
    unfold pdF
    by_cases h0 : f k = 0
    · rw [if_pos h0, if_pos h0]
    · have := h k (Nat.le_refl _)
      rw [if_neg h0, if_neg h0, pdF_fuel (d := d) (e := e) (fun j hj => h j (by omega)) (by omega) (by omega)]
def pD (f : Nat → Nat) (k : Nat) : List Nat := pdF f (k + 1) k
theorem pD_0 {f : Nat → Nat} {k : Nat} (h0 : f k = 0) : pD f k = [k] := by
  unfold pD pdF
  rw [if_pos h0]
theorem pD_s {f : Nat → Nat} {k : Nat} (h : ∀ j, j ≤ k → f j ≤ j) (h0 : ¬ f k = 0) : pD f k = k :: pD f (f k - 1) := by
  unfold pD
  rw [show pdF f (k + 1) k = k :: (if f k = 0 then [] else pdF f k (f k - 1)) from rfl, if_neg h0]
  have := h k (Nat.le_refl _)
  rw [pdF_fuel (d := k) (e := f k - 1 + 1) (fun j hj => h j (by omega)) (by omega) (by omega)]
theorem pD_len {f : Nat → Nat} : ∀ {k : Nat}, (∀ j, j ≤ k → f j ≤ j) → (pD f k).length ≤ k + 1 := by
  intro k
  induction k using Nat.strongRecOn with
  | ind k ih =>
    intro h
    by_cases h0 : f k = 0
    · rw [pD_0 h0]; simp
    · have := h k (Nat.le_refl _)
      rw [pD_s h h0, List.length_cons]
      have := ih (f k - 1) (by omega) (fun j hj => h j (by omega))
      omega
theorem pD_le {f : Nat → Nat} : ∀ {k : Nat}, (∀ j, j ≤ k → f j ≤ j) → ∀ e, e ∈ pD f k → e ≤ k := by
  intro k
  induction k using Nat.strongRecOn with
  | ind k ih =>
    intro h e he
    by_cases h0 : f k = 0
    · rw [pD_0 h0] at he
      rw [List.mem_singleton.mp he]; exact Nat.le_refl _
    · have := h k (Nat.le_refl _)
      rw [pD_s h h0] at he
      rcases List.mem_cons.mp he with rfl | he
      · exact Nat.le_refl _
      · have := ih (f k - 1) (by omega) (fun j hj => h j (by omega)) e he
        omega
def MBf {g x : Hp} {n : Nat} (h : MB g x n) : ∀ k, k < n → ∀ j, j ≤ k → fbN g j ≤ j := fun k hk j hj => (h.2.2 j (by omega)).2
theorem nI_up {a : Nat} (h : a < 12) : (nI a - 1 < 0) ↔ a = 0 := by
  cases a with
  | zero => exact ⟨fun _ => rfl, fun _ => by decide⟩
  | succ a =>
    rw [nI_pred]
    exact ⟨fun q => absurd q (nI_pos (by omega)), fun q => absurd q (by omega)⟩
theorem r_isOver (Y : Kx) (g x : Hp) (n l b : Nat) (hB : MB g x n) (hl : l < n) (hb : b < n) : sM Y mX7_isOver [.ref 83, .int (nI l), .int (nI (b + 1))] x (some (.int (bI (l ∈ pD (fbN g) b)))) x := by
  refine sM_of (by decide +kernel) (Nat.le_of_ble_eq_true rfl) (fun X h hY hR => ?_)
  have hT := kX7_isOver h
  have h12 := hB.1
  have K : ∀ k, k < n → (l ∈ pD (fbN g) b ↔ l ∈ pD (fbN g) k) → SW X mX7_isOver 4 [(3, .int (nI k)), (0, .ref 83), (1, .int (nI l)), (2, .int (nI (b + 1)))] [] x := by
    intro k
    induction k using Nat.strongRecOn with
    | ind k ih =>
      intro hk he
      have hfk := MBf hB k hk
      have hkk := hfk k (Nat.le_refl _)
      repeat (refine sw_s hT rfl rfl ?_)
      refine sw_b hT rfl rfl (fun c => absurd c ((nI_pos (by omega)))) (fun _ => ?_)
      repeat (refine sw_s hT rfl rfl ?_)
      refine sw_b hT rfl rfl (fun c1 => ?_) (fun c1 => ?_)
      · have hkl : k = l := (nI_eq (by omega) (by omega)).mp c1
        subst hkl
        have hin : k ∈ pD (fbN g) b := he.mpr (by
          by_cases h0 : fbN g k = 0
          · rw [pD_0 h0]; exact List.mem_cons_self
          · rw [pD_s hfk h0]; exact List.mem_cons_self)
        rw [bI_t hin] at hR
        repeat (refine sw_s hT rfl rfl ?_)
        refine sw_b hT rfl rfl (fun _ => ?_) (fun c => absurd ((rfl : nI k = nI k)) c)
        repeat (refine sw_s hT rfl rfl ?_)
        exact sw_iret hT rfl rfl rfl (hR)
      · have hkl : ¬ l = k := fun q => c1 (by rw [q])
        repeat (refine sw_s hT rfl rfl ?_)
        refine sw_cv hT rfl (r_above _ g x n k hB hk) rfl rfl rfl rfl (Nat.le_of_ble_eq_true rfl) ?_
        by_cases h0 : fbN g k = 0
        · have hni : ¬ l ∈ pD (fbN g) b := fun q => by
            have := he.mp q
            rw [pD_0 h0] at this
            exact hkl (List.mem_singleton.mp this)
          rw [bI_f hni] at hR
          rw [h0]
          repeat (refine sw_s hT rfl rfl ?_)
          refine sw_b hT rfl rfl (fun _ => ?_) (fun c => absurd ((by decide)) c)
          repeat (refine sw_s hT rfl rfl ?_)
          refine sw_b hT rfl rfl (fun c => absurd c ?_) (fun _ => ?_)
          · intro c
            have := nI_pos' (n := l) (by omega)
            rw [← c] at this
            exact absurd this (by decide)
          repeat (refine sw_s hT rfl rfl ?_)
          exact sw_iret hT rfl rfl rfl (hR)
        · have e1 : nI (fbN g k) - 1 = nI (fbN g k - 1) := by rw [show nI (fbN g k) = nI ((fbN g k - 1) + 1) by rw [Nat.sub_add_cancel (by omega)], nI_pred]
          rw [e1]
          have q := ih (fbN g k - 1) (by omega) (by omega) (by
            rw [he, pD_s hfk h0, List.mem_cons]
            exact ⟨fun z => z.elim (fun y => absurd y hkl) id, Or.inr⟩)
          repeat (first | (refine sw_at (n := 4) rfl ?_; exact (q)) | refine sw_s hT rfl rfl ?_)
  have k0 := K b hb Iff.rfl
  rw [← nI_pred] at k0
  repeat (first | (refine sw_at (n := 4) rfl ?_; exact (k0)) | refine sw_s hT rfl rfl ?_)
def scr (x x' : Hp) : Prop := fr [83, 88] x x' ∧ ∀ k, k ≠ 7 → x'.1 83 k = x.1 83 k
theorem scr_rf {x : Hp} : scr x x := ⟨fr_rf, fun _ _ => rfl⟩
theorem scr_tr {x y z : Hp} (h : scr x y) (k : scr y z) : scr x z := ⟨fr_tr h.1 k.1, fun j hj => (k.2 j hj).trans (h.2 j hj)⟩
theorem scr_7 {x : Hp} {v : Int32} : scr x (u2 x.1 83 7 v, x.2) := ⟨fr_wI (by decide), fun k hk => u2_k x.1 83 7 v hk⟩
theorem scr_88 {x : Hp} {i : Nat} {v : Int32} : scr x (u2 x.1 88 i v, x.2) := ⟨fr_wI (by decide), fun k _ => congrFun (u2_ne (f := x.1) (k := i) (v := v) (by decide : (83 : Nat) ≠ 88)) k⟩
theorem MB_scr {g x y : Hp} {n : Nat} (h : MB g x n) (hs : fr [83, 88] x y) : MB g y n := by
  have e84 : y.1 84 = x.1 84 := hs.1 84 (by decide)
  exact ⟨h.1, by rw [e84]; exact h.2.1, fun k hk => by rw [e84]; exact h.2.2 k hk⟩
/-- the loads over a line, as the reference sums them -/
def loM (g x : Hp) (l : Nat) : Nat → Int32
  | 0 => 0
  | b + 1 => loM g x l b + (if l ∈ pD (fbN g) b then x.1 84 (2 + 9 * b + 1) else 0)
theorem r_loadOver (Y : Kx) (g x : Hp) (n l : Nat) (hB : MB g x n) (hl : l < n) : sM Y mX7_loadOver [.ref 83, .int (nI l)] x (some (.int (loM g x l n))) x := by
  refine sM_of (by decide +kernel) (Nat.le_of_ble_eq_true rfl) (fun X h hY hR => ?_)
  have hT := kX7_loadOver h
  have h12 := hB.1
  have K : ∀ d b, d + b = n → SW X mX7_loadOver 4 [(3, .int (nI (b + 1))), (2, .int (loM g x l b)), (0, .ref 83), (1, .int (nI l))] [] x := by
    intro d
    induction d with
    | zero =>
      intro b hb
      have hbn : b = n := by omega
      subst hbn
      repeat (refine sw_s hT rfl rfl ?_)
      refine sw_iald hT rfl rfl (inW (by omega : 0 < 170)) ?_
      rw [show (0 : Int32).toNatClampNeg = 0 by decide, hB.2.1]
      refine sw_b hT rfl rfl (fun _ => ?_) (fun c => absurd (nI_lt (by omega) (by omega)) c)
      repeat (refine sw_s hT rfl rfl ?_)
      exact sw_iret hT rfl rfl rfl (hR)
    | succ d ih =>
      intro b hb
      have k := ih (b + 1) (by omega)
      rw [← nI_1 (b + 1)] at k
      have hs : loM g x l (b + 1) = loM g x l b + (if l ∈ pD (fbN g) b then x.1 84 (2 + 9 * b + 1) else 0) := rfl
      repeat (refine sw_s hT rfl rfl ?_)
      refine sw_iald hT rfl rfl (inW (by omega : 0 < 170)) ?_
      rw [show (0 : Int32).toNatClampNeg = 0 by decide, hB.2.1]
      refine sw_b hT rfl rfl (fun c => absurd c (Int32.not_lt.mpr (nI_le (by omega) (by omega)))) (fun _ => ?_)
      repeat (refine sw_s hT rfl rfl ?_)
      refine sw_cv hT rfl (r_isOver _ g x n l b hB hl (by omega)) rfl rfl rfl rfl (Nat.le_of_ble_eq_true rfl) ?_
      refine sw_b hT rfl rfl (fun c1 => ?_) (fun c1 => ?_)
      · have c2 : ¬ l ∈ pD (fbN g) b := bI_0.mp c1
        rw [hs, if_neg c2] at k
        repeat (first | (refine sw_at (n := 4) rfl ?_; exact (sw_pick [0, 1, 2, 3] rfl k)) | refine sw_s hT rfl rfl ?_)
      · have c2 : l ∈ pD (fbN g) b := Decidable.byContradiction (fun q => c1 (bI_0.mpr q))
        rw [hs, if_pos c2] at k
        repeat (refine sw_s hT rfl rfl ?_)
        rw [nI_pred]
        refine sw_cs hT rfl (r_atL _ x b 1 1 (by decide)) rfl rfl (Nat.le_of_ble_eq_true rfl) ?_
        refine sw_iald hT rfl rfl (inW (by omega)) ?_
        rw [clW (by omega)]
        repeat (first | (refine sw_at (n := 4) rfl ?_; exact (sw_pick [0, 1, 2, 3] rfl k)) | refine sw_s hT rfl rfl ?_)
  have k0 := K n 0 (by omega)
  rw [show nI (0 + 1) = 1 by decide] at k0
  repeat (first | (refine sw_at (n := 4) rfl ?_; exact (k0)) | refine sw_s hT rfl rfl ?_)
/-- the way down to a line lies in the row of the path -/
def PA (x : Hp) (k : Nat) (L : List Nat) : Prop := x.1 83 7 = nI L.length ∧ ∀ (i e : Nat), L[i]? = some e → x.1 88 i = nI e
theorem r_findPath (Y : Kx) (g x : Hp) (n k : Nat) (hB : MB g x n) (hk : k < n) : sR Y mX7_findPath [.ref 83, .int (nI k)] x (fun rr x' => rr = none ∧ PA x' k (pD (fbN g) k).reverse ∧ scr x x') := by
  refine sR_of (by decide +kernel) (Nat.le_of_ble_eq_true rfl) (fun X h hY hR => ?_)
  have hT := kX7_findPath h
  have h12 := hB.1
  have hfk := MBf hB k hk
  have hl12 : (pD (fbN g) k).length ≤ 12 := by have := pD_len hfk; omega
  -- the second loop: down again
  have K2 : ∀ (D U : List Nat) (y : Hp), U.reverse ++ D = pD (fbN g) k → scr x y → y.1 83 7 = nI (pD (fbN g) k).length → (∀ (i e : Nat), U[i]? = some e → y.1 88 (D.length + i) = nI e) → (∀ j, D = pD (fbN g) j → j < n → SW X mX7_findPath 37 [(3, .int (nI j)), (2, .int (nI D.length)), (0, .ref 83), (1, .int (nI k))] [] y) ∧ (D = [] → SW X mX7_findPath 37 [(3, .int (-1)), (2, .int (nI 0)), (0, .ref 83), (1, .int (nI k))] [] y) := by
    intro D
    induction D with
    | nil =>
      intro U y hU hs h7 h88
      refine ⟨fun j hj => ?_, fun _ => ?_⟩
      · unfold pD pdF at hj
        cases hj
      · repeat (refine sw_s hT rfl rfl ?_)
        refine sw_b hT rfl rfl (fun _ => ?_) (fun c => absurd ((by decide)) c)
        refine sw_vretP hT rfl rfl hR ?_
        have hUr : U = (pD (fbN g) k).reverse := by
          rw [← hU, List.append_nil, List.reverse_reverse]
        refine ⟨rfl, ⟨by rw [h7, List.length_reverse], fun i e hi => ?_⟩, hs⟩
        rw [← hUr] at hi
        have := h88 i e hi
        rw [List.length_nil, Nat.zero_add] at this
        exact this
    | cons a D ih =>
      intro U y hU hs h7 h88
      refine ⟨fun j hj hjn => ?_, fun hD => by cases hD⟩
      have hfj := MBf hB j hjn
      have hDl : D.length < 12 := by
        have := congrArg List.length hU
        simp only [List.length_append, List.length_reverse, List.length_cons] at this
        omega
      have hMy : MB g y n := MB_scr hB hs.1
      rw [show nI (a :: D).length = nI (D.length + 1) from rfl]
      repeat (refine sw_s hT rfl rfl ?_)
      refine sw_b hT rfl rfl (fun c => absurd c ((nI_pos (by omega)))) (fun _ => ?_)
      repeat (refine sw_s hT rfl rfl ?_)
      rw [show nI (D.length + 1) + -1 = nI D.length from pk_m1 _]
      refine sw_iast hT rfl rfl (in12 hDl) ?_
      rw [cl12 hDl]
      repeat (refine sw_s hT rfl rfl ?_)
      have haj : a = j := by
        by_cases h0 : fbN g j = 0
        · rw [pD_0 h0] at hj; cases hj; rfl
        · rw [pD_s hfj h0] at hj; cases hj; rfl
      subst haj
      obtain ⟨z, hz⟩ : ∃ z : Hp, z = (u2 y.1 88 D.length (nI a), y.2) := ⟨_, rfl⟩
      rw [← hz]
      have zs : scr y z := by rw [hz]; exact scr_88
      have z7 : z.1 83 7 = nI (pD (fbN g) k).length := by
        rw [hz]
        show u2 y.1 88 D.length (nI a) 83 7 = _
        rw [u2_ne (by decide)]; exact h7
      have z88 : ∀ (i e : Nat), (a :: U)[i]? = some e → z.1 88 (D.length + i) = nI e := by
        intro i e hi
        rw [hz]
        show u2 y.1 88 D.length (nI a) 88 (D.length + i) = _
        cases i with
        | zero => cases hi; rw [Nat.add_zero, u2_at]
        | succ i =>
          rw [u2_k _ _ _ _ (by omega)]
          have := h88 i e hi
          rw [show (a :: D).length + i = D.length + (i + 1) by simp only [List.length_cons]; omega] at this
          exact this
      have ihz := ih (a :: U) z (by rw [← hU]; simp) (scr_tr hs zs) z7 z88
      refine sw_cv hT rfl (r_above _ g z n a (MB_scr hMy zs.1) hjn) rfl rfl rfl rfl (Nat.le_of_ble_eq_true rfl) ?_
      by_cases h0 : fbN g a = 0
      · have hD : D = [] := by rw [pD_0 h0] at hj; cases hj; rfl
        have q := ihz.2 hD
        rw [h0, show nI 0 - 1 = -1 by decide]
        rw [hD]
        repeat (first | (refine sw_at (n := 37) rfl ?_; exact (q)) | refine sw_s hT rfl rfl ?_)
      · have hD : D = pD (fbN g) (fbN g a - 1) := by rw [pD_s hfj h0] at hj; cases hj; rfl
        have hja := hfj a (Nat.le_refl _)
        have q := ihz.1 (fbN g a - 1) hD (by omega)
        rw [show nI (fbN g a) - 1 = nI (fbN g a - 1) by rw [show nI (fbN g a) = nI ((fbN g a - 1) + 1) by rw [Nat.sub_add_cancel (by omega)], nI_pred]]
        repeat (first | (refine sw_at (n := 37) rfl ?_; exact (q)) | refine sw_s hT rfl rfl ?_)
  -- the first loop: counting
  have K1 : ∀ (D : List Nat) (y : Hp) (c : Nat), scr x y → y.1 83 7 = nI c → c + D.length = (pD (fbN g) k).length → (∀ j, D = pD (fbN g) j → j < n → SW X mX7_findPath 7 [(2, .int (nI j)), (0, .ref 83), (1, .int (nI k))] [] y) ∧ (D = [] → SW X mX7_findPath 7 [(2, .int (-1)), (0, .ref 83), (1, .int (nI k))] [] y) := by
    intro D
    induction D with
    | nil =>
      intro y c hs h7 hc
      refine ⟨fun j hj => ?_, fun _ => ?_⟩
      · unfold pD pdF at hj
        cases hj
      · rw [List.length_nil, Nat.add_zero] at hc
        have q := (K2 (pD (fbN g) k) [] y rfl hs (by rw [h7, hc]) (fun i e hi => by cases hi)).1 k rfl hk
        rw [← hc, ← h7] at q
        repeat (refine sw_s hT rfl rfl ?_)
        refine sw_b hT rfl rfl (fun _ => ?_) (fun c => absurd ((by decide)) c)
        repeat (first | (refine sw_at (n := 37) rfl ?_; exact (q)) | refine sw_s hT rfl rfl ?_)
    | cons a D ih =>
      intro y c hs h7 hc
      refine ⟨fun j hj hjn => ?_, fun hD => by cases hD⟩
      have hfj := MBf hB j hjn
      have haj : a = j := by
        by_cases h0 : fbN g j = 0
        · rw [pD_0 h0] at hj; cases hj; rfl
        · rw [pD_s hfj h0] at hj; cases hj; rfl
      subst haj
      have hMy : MB g y n := MB_scr hB hs.1
      repeat (refine sw_s hT rfl rfl ?_)
      refine sw_b hT rfl rfl (fun c => absurd c ((nI_pos (by omega)))) (fun _ => ?_)
      repeat (refine sw_s hT rfl rfl ?_)
      obtain ⟨z, hz⟩ : ∃ z : Hp, z = (u2 y.1 83 7 (y.1 83 7 + 1), y.2) := ⟨_, rfl⟩
      rw [← hz]
      have zs : scr y z := by rw [hz]; exact scr_7
      have z7 : z.1 83 7 = nI (c + 1) := by
        rw [hz]
        show u2 y.1 83 7 (y.1 83 7 + 1) 83 7 = _
        rw [u2_at, h7, nI_1]
      have ihz := ih z (c + 1) (scr_tr hs zs) z7 (by simp only [List.length_cons] at hc; omega)
      refine sw_cv hT rfl (r_above _ g z n a (MB_scr hMy zs.1) hjn) rfl rfl rfl rfl (Nat.le_of_ble_eq_true rfl) ?_
      by_cases h0 : fbN g a = 0
      · have hD : D = [] := by rw [pD_0 h0] at hj; cases hj; rfl
        have q := ihz.2 hD
        rw [h0, show nI 0 - 1 = -1 by decide]
        repeat (first | (refine sw_at (n := 7) rfl ?_; exact (q)) | refine sw_s hT rfl rfl ?_)
      · have hD : D = pD (fbN g) (fbN g a - 1) := by rw [pD_s hfj h0] at hj; cases hj; rfl
        have hja := hfj a (Nat.le_refl _)
        have q := ihz.1 (fbN g a - 1) hD (by omega)
        rw [show nI (fbN g a) - 1 = nI (fbN g a - 1) by rw [show nI (fbN g a) = nI ((fbN g a - 1) + 1) by rw [Nat.sub_add_cancel (by omega)], nI_pred]]
        repeat (first | (refine sw_at (n := 7) rfl ?_; exact (q)) | refine sw_s hT rfl rfl ?_)
  have k0 := (K1 (pD (fbN g) k) (u2 x.1 83 7 0, x.2) 0 scr_7 ((u2_at x.1 83 7 0).trans (by decide)) (Nat.zero_add _)).1 k rfl hk
  repeat (first | (refine sw_at (n := 7) rfl ?_; exact (k0)) | refine sw_s hT rfl rfl ?_)
