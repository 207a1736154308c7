/-! the face's methods, on the roads where nothing is thrown -/
theorem bI_1 {c : Prop} [Decidable c] (h : c) : ¬ bI c = 0 := fun q => bI_0.mp q h
def US (x : Hp) (i c : Nat) : Prop := i < 4 ∧ c ≤ 4 ∧ x.1 76 1 = nI i ∧ x.1 76 0 = nI c
theorem push_o1 {x : Hp} {i c j : Nat} (hi : i < 4) (h : j < 16 ∨ 77 ≤ j) : (pushS x i c).1 j = x.1 j := by
  unfold pushS wI
  show u2 (u2 (cpA x (16 + 15 * i) 1).1 76 1 _) 76 0 _ j = _
  rw [u2_ne (by omega), u2_ne (by omega), cpA_o1 _ _ _ _ (by omega)]
theorem push_o2 {x : Hp} {i c j : Nat} (hi : i < 4) (h : j < 16 ∨ 76 ≤ j) : (pushS x i c).2.1 j = x.2.1 j := by
  unfold pushS wI
  show (cpA x (16 + 15 * i) 1).2.1 j = _
  rw [cpA_o2 _ _ _ _ (by omega)]
theorem push_o3 {x : Hp} {i c : Nat} : (pushS x i c).2.2 = x.2.2 := rfl
theorem c_pushU (Y : Kx) (x : Hp) (i c : Nat) (hU : US x i c) : sM Y mX5_push [.ref 76, .ref 1] x none (pushS x i c) := c_push Y x i c hU.1 hU.2.1 hU.2.2.1 hU.2.2.2
def LNk (x : Hp) (n k : Nat) : Prop := x.1 2 2 = nI n ∧ n ≤ 12 ∧ k < n
theorem c_reqLine (Y : Kx) (x : Hp) (n k : Nat) (hN : LNk x n k) : sM Y mX6_requireLine [.ref 0, .int (nI k)] x none x := by
  refine sM_of (by decide +kernel) (Nat.le_of_ble_eq_true rfl) (fun X h hY hR => ?_)
  have hT := kX6_requireLine h
  obtain ⟨hn, h12, hk⟩ := hN
  repeat (refine sw_s hT rfl rfl ?_)
  rw [hn, show nI n - 1 = nI (n - 1) by rw [show nI n = nI ((n - 1) + 1) by rw [Nat.sub_add_cancel (by omega)], nI_pred]]
  refine sw_cs hT rfl (c_within _ x (nI k) 0 (nI (n - 1))) rfl rfl (Nat.le_of_ble_eq_true rfl) ?_
  refine sw_b hT rfl rfl (fun c => absurd c ((bI_1 ⟨nI_pos' (by omega), nI_le (by omega) (by omega)⟩))) (fun _ => ?_)
  exact sw_vret hT rfl rfl (hR)
theorem c_reqPlace (Y : Kx) (x : Hp) (p : Nat) (hp : p ≤ 100) : sM Y mX6_requirePlace [.int (nI p)] x none x := by
  refine sM_of (by decide +kernel) (Nat.le_of_ble_eq_true rfl) (fun X h hY hR => ?_)
  have hT := kX6_requirePlace h
  repeat (refine sw_s hT rfl rfl ?_)
  refine sw_cs hT rfl (c_within _ x (nI p) 0 100) rfl rfl (Nat.le_of_ble_eq_true rfl) ?_
  refine sw_b hT rfl rfl (fun c => absurd c ((bI_1 ⟨nI_pos' (by omega), by rw [show (100 : Int32) = nI 100 by decide]; exact nI_le hp (by omega)⟩))) (fun _ => ?_)
  exact sw_vret hT rfl rfl (hR)
/-- a double is in its range, as the class asks it -/
def inD (v lo hi : UInt64) : Prop := ¬ bD v lo hi = 0
theorem c_reqImp (Y : Kx) (x : Hp) (v : UInt64) (hv : inD v 4576918229304087675 4652007308841189376) : sM Y mX6_requireImpedance [.double v] x none x := by
  refine sM_of (by decide +kernel) (Nat.le_of_ble_eq_true rfl) (fun X h hY hR => ?_)
  have hT := kX6_requireImpedance h
  repeat (refine sw_s hT rfl rfl ?_)
  refine sw_cs hT rfl (c_withinD _ x v _ _) rfl rfl (Nat.le_of_ble_eq_true rfl) ?_
  refine sw_b hT rfl rfl (fun c => absurd c ((hv))) (fun _ => ?_)
  exact sw_vret hT rfl rfl (hR)
theorem c_reqEvent (Y : Kx) (x : Hp) (n k : Nat) (hn : x.1 13 0 = nI n) (h60 : n ≤ 60) (hk : k < n) : sM Y mX6_requireEvent [.ref 0, .int (nI k)] x none x := by
  refine sM_of (by decide +kernel) (Nat.le_of_ble_eq_true rfl) (fun X h hY hR => ?_)
  have hT := kX6_requireEvent h
  repeat (refine sw_s hT rfl rfl ?_)
  rw [hn, show nI n - 1 = nI (n - 1) by rw [show nI n = nI ((n - 1) + 1) by rw [Nat.sub_add_cancel (by omega)], nI_pred]]
  refine sw_cs hT rfl (c_within _ x (nI k) 0 (nI (n - 1))) rfl rfl (Nat.le_of_ble_eq_true rfl) ?_
  refine sw_b hT rfl rfl (fun c => absurd c ((bI_1 ⟨nI_pos' (by omega), nI_le (by omega) (by omega)⟩))) (fun _ => ?_)
  exact sw_vret hT rfl rfl (hR)
theorem f_setSource (Y : Kx) (x : Hp) (i c : Nat) (v z : UInt64) (hU : US x i c) (h1 : inD v 4636737291354636288 4696837146684686336) (h2 : inD z 4576918229304087675 4652007308841189376) : sM Y mX6_setSource [.ref 0, .double v, .double z] x (some (.double (x.2.1 2 1))) ((pushS x i c).1, u2 (u2 (pushS x i c).2.1 2 0 v) 2 1 z, (pushS x i c).2.2) := by
  refine sM_of (by decide +kernel) (Nat.le_of_ble_eq_true rfl) (fun X h hY hR => ?_)
  have hT := kX6_setSource h
  have e : (pushS x i c).2.1 2 1 = x.2.1 2 1 := congrFun (push_o2 hU.1 (Or.inl (by decide))) 1
  rw [← e] at hR
  repeat (refine sw_s hT rfl rfl ?_)
  refine sw_cs hT rfl (c_withinD _ x v _ _) rfl rfl (Nat.le_of_ble_eq_true rfl) ?_
  refine sw_b hT rfl rfl (fun c => absurd c ((h1))) (fun _ => ?_)
  repeat (refine sw_s hT rfl rfl ?_)
  refine sw_cs0 hT rfl (c_reqImp _ x z h2) rfl rfl (Nat.le_of_ble_eq_true rfl) ?_
  repeat (refine sw_s hT rfl rfl ?_)
  refine sw_cv0 hT rfl (c_pushU _ x i c hU) rfl rfl rfl rfl (Nat.le_of_ble_eq_true rfl) ?_
  generalize pushS x i c = y at hR ⊢
  repeat (refine sw_s hT rfl rfl ?_)
  exact sw_dret hT rfl rfl (hR)
theorem f_addLine (Y : Kx) (x : Hp) (i c n f : Nat) (z : UInt64) (hU : US x i c) (hn : x.1 2 2 = nI n) (hn12 : n < 12) (hf : f ≤ n) (h2 : inD z 4576918229304087675 4652007308841189376) : sM Y mX6_addLine [.ref 0, .int (nI f), .double z] x (some (.int (nI n))) (apS (pushS x i c) n f z) := by
  refine sM_of (by decide +kernel) (Nat.le_of_ble_eq_true rfl) (fun X h hY hR => ?_)
  have hT := kX6_addLine h
  have e : (pushS x i c).1 2 2 = nI n := (congrFun (push_o1 hU.1 (Or.inl (by decide))) 2).trans hn
  repeat (refine sw_s hT rfl rfl ?_)
  rw [show fks x 2 2 0 = .int (nI n) from congrArg Value.int hn]
  refine sw_cs hT rfl (c_within _ x (nI f) 0 (nI n)) rfl rfl (Nat.le_of_ble_eq_true rfl) ?_
  refine sw_b hT rfl rfl (fun c => absurd c ((bI_1 ⟨nI_pos' (by omega), nI_le hf (by omega)⟩))) (fun _ => ?_)
  repeat (refine sw_s hT rfl rfl ?_)
  refine sw_cs0 hT rfl (c_reqImp _ x z h2) rfl rfl (Nat.le_of_ble_eq_true rfl) ?_
  repeat (refine sw_s hT rfl rfl ?_)
  rw [show fks x 2 2 0 = .int (nI n) from congrArg Value.int hn]
  refine sw_b hT rfl rfl (fun _ => ?_) (fun c => absurd ((by rw [show (12 : Int32) = nI 12 by decide]; exact nI_lt hn12 (by omega))) c)
  repeat (refine sw_s hT rfl rfl ?_)
  refine sw_cv0 hT rfl (c_pushU _ x i c hU) rfl rfl rfl rfl (Nat.le_of_ble_eq_true rfl) ?_
  generalize pushS x i c = y at hR e ⊢
  repeat (refine sw_s hT rfl rfl ?_)
  refine sw_cv hT rfl (c_append _ y n f z e hn12 hf) rfl rfl rfl rfl (Nat.le_of_ble_eq_true rfl) ?_
  exact sw_iret hT rfl rfl rfl (hR)
theorem f_setLoad (Y : Kx) (x : Hp) (i c n k a : Nat) (hU : US x i c) (hN : LNk x n k) (ha : a ≤ 5000) : sM Y mX6_setLoad [.ref 0, .int (nI (k + 1)), .int (nI a)] x (some (.int (x.1 6 k))) (u2 (pushS x i c).1 6 k (nI a), (pushS x i c).2) := by
  refine sM_of (by decide +kernel) (Nat.le_of_ble_eq_true rfl) (fun X h hY hR => ?_)
  have hT := kX6_setLoad h
  obtain ⟨hn, h12, hk⟩ := hN
  have e : (pushS x i c).1 6 k = x.1 6 k := congrFun (push_o1 hU.1 (Or.inl (by decide))) k
  rw [← e] at hR
  repeat (refine sw_s hT rfl rfl ?_)
  rw [show fks x 2 2 0 = .int (nI n) from congrArg Value.int hn]
  refine sw_cs hT rfl (c_within _ x (nI (k + 1)) 1 (nI n)) rfl rfl (Nat.le_of_ble_eq_true rfl) ?_
  refine sw_b hT rfl rfl (fun c => absurd c ((bI_1 ⟨by rw [show (1 : Int32) = nI 1 by decide]; exact nI_le (by omega) (by omega), nI_le (by omega) (by omega)⟩))) (fun _ => ?_)
  repeat (refine sw_s hT rfl rfl ?_)
  refine sw_cs hT rfl (c_within _ x (nI a) 0 5000) rfl rfl (Nat.le_of_ble_eq_true rfl) ?_
  refine sw_b hT rfl rfl (fun c => absurd c ((bI_1 ⟨nI_pos' (by omega), by rw [show (5000 : Int32) = nI 5000 by decide]; exact nI_le ha (by omega)⟩))) (fun _ => ?_)
  repeat (refine sw_s hT rfl rfl ?_)
  refine sw_cv0 hT rfl (c_pushU _ x i c hU) rfl rfl rfl rfl (Nat.le_of_ble_eq_true rfl) ?_
  generalize pushS x i c = y at hR ⊢
  repeat (refine sw_s hT rfl rfl ?_)
  rw [nI_pred]
  refine sw_iald hT rfl rfl (in12 (by omega)) ?_
  rw [cl12 (by omega)]
  repeat (refine sw_s hT rfl rfl ?_)
  rw [nI_pred]
  repeat (refine sw_s hT rfl rfl ?_)
  refine sw_iast hT rfl rfl (in12 (by omega)) ?_
  rw [cl12 (by omega)]
  repeat (refine sw_s hT rfl rfl ?_)
  exact sw_iret hT rfl rfl rfl (hR)
theorem f_loadCurrent (Y : Kx) (x : Hp) (n k : Nat) (hN : LNk x n k) : sM Y mX6_loadCurrent [.ref 0, .int (nI k)] x (some (.int (loS x (1 <<< (nI k &&& 31)) n))) x := by
  refine sM_of (by decide +kernel) (Nat.le_of_ble_eq_true rfl) (fun X h hY hR => ?_)
  have hT := kX6_loadCurrent h
  repeat (refine sw_s hT rfl rfl ?_)
  refine sw_cv0 hT rfl (c_reqLine _ x n k hN) rfl rfl rfl rfl (Nat.le_of_ble_eq_true rfl) ?_
  repeat (refine sw_s hT rfl rfl ?_)
  refine sw_cv hT rfl (c_loadOver _ x _ n hN.1 hN.2.1) rfl rfl rfl rfl (Nat.le_of_ble_eq_true rfl) ?_
  exact sw_iret hT rfl rfl rfl (hR)
theorem f_faultCurrent (Y : Kx) (x : Hp) (n k p : Nat) (hN : LNk x n k) (hp : p ≤ 100) (ok : curOK x k (nI p)) : sM Y mX6_faultCurrent [.ref 0, .int (nI k), .int (nI p)] x (some (.double (curS x k (nI p)))) x := by
  refine sM_of (by decide +kernel) (Nat.le_of_ble_eq_true rfl) (fun X h hY hR => ?_)
  have hT := kX6_faultCurrent h
  repeat (refine sw_s hT rfl rfl ?_)
  refine sw_cv0 hT rfl (c_reqLine _ x n k hN) rfl rfl rfl rfl (Nat.le_of_ble_eq_true rfl) ?_
  repeat (refine sw_s hT rfl rfl ?_)
  refine sw_cs0 hT rfl (c_reqPlace _ x p hp) rfl rfl (Nat.le_of_ble_eq_true rfl) ?_
  repeat (refine sw_s hT rfl rfl ?_)
  refine sw_cv hT rfl (c_currentAt _ x k (nI p) (by have := hN.2; omega) ok) rfl rfl rfl rfl (Nat.le_of_ble_eq_true rfl) ?_
  exact sw_dret hT rfl rfl (hR)
theorem f_setRelay (Y : Kx) (x : Hp) (i c n k p cv s : Nat) (hU : US x i c) (hN : LNk x n k) (hp : 1 ≤ p ∧ p ≤ 20000) (hc : cv ≤ 3) (hs : 1 ≤ s ∧ s ≤ 20) : sM Y mX6_setRelay [.ref 0, .int (nI k), .int (nI p), .int (nI cv), .int (nI s)] x (some (.int (x.1 8 k))) (u2 (u2 (u2 (pushS x i c).1 8 k (nI p)) 9 k (nI cv)) 10 k (nI s), (pushS x i c).2) := by
  refine sM_of (by decide +kernel) (Nat.le_of_ble_eq_true rfl) (fun X h hY hR => ?_)
  have hT := kX6_setRelay h
  have hk : k < 12 := by have := hN.2; omega
  have e : (pushS x i c).1 8 k = x.1 8 k := congrFun (push_o1 hU.1 (Or.inl (by decide))) k
  rw [← e] at hR
  repeat (refine sw_s hT rfl rfl ?_)
  refine sw_cv0 hT rfl (c_reqLine _ x n k hN) rfl rfl rfl rfl (Nat.le_of_ble_eq_true rfl) ?_
  repeat (refine sw_s hT rfl rfl ?_)
  refine sw_cs hT rfl (c_within _ x (nI p) 1 20000) rfl rfl (Nat.le_of_ble_eq_true rfl) ?_
  refine sw_b hT rfl rfl (fun c => absurd c ((bI_1 ⟨by rw [show (1 : Int32) = nI 1 by decide]; exact nI_le hp.1 (by omega), by rw [show (20000 : Int32) = nI 20000 by decide]; exact nI_le hp.2 (by omega)⟩))) (fun _ => ?_)
  repeat (refine sw_s hT rfl rfl ?_)
  refine sw_cs hT rfl (c_within _ x (nI cv) 0 3) rfl rfl (Nat.le_of_ble_eq_true rfl) ?_
  refine sw_b hT rfl rfl (fun c => absurd c ((bI_1 ⟨nI_pos' (by omega), by rw [show (3 : Int32) = nI 3 by decide]; exact nI_le hc (by omega)⟩))) (fun _ => ?_)
  repeat (refine sw_s hT rfl rfl ?_)
  refine sw_cs hT rfl (c_within _ x (nI s) 1 20) rfl rfl (Nat.le_of_ble_eq_true rfl) ?_
  refine sw_b hT rfl rfl (fun c => absurd c ((bI_1 ⟨by rw [show (1 : Int32) = nI 1 by decide]; exact nI_le hs.1 (by omega), by rw [show (20 : Int32) = nI 20 by decide]; exact nI_le hs.2 (by omega)⟩))) (fun _ => ?_)
  repeat (refine sw_s hT rfl rfl ?_)
  refine sw_cv0 hT rfl (c_pushU _ x i c hU) rfl rfl rfl rfl (Nat.le_of_ble_eq_true rfl) ?_
  generalize pushS x i c = y at hR ⊢
  repeat (refine sw_s hT rfl rfl ?_)
  refine sw_iald hT rfl rfl (in12 hk) ?_
  rw [cl12 hk]
  repeat (refine sw_s hT rfl rfl ?_)
  refine sw_iast hT rfl rfl (in12 hk) ?_
  rw [cl12 hk]
  repeat (refine sw_s hT rfl rfl ?_)
  refine sw_iast hT rfl rfl (in12 hk) ?_
  rw [cl12 hk]
  repeat (refine sw_s hT rfl rfl ?_)
  refine sw_iast hT rfl rfl (in12 hk) ?_
  rw [cl12 hk]
  repeat (refine sw_s hT rfl rfl ?_)
  exact sw_iret hT rfl rfl rfl (hR)
theorem f_setInstantaneous (Y : Kx) (x : Hp) (i c n k a : Nat) (hU : US x i c) (hN : LNk x n k) (ha : a ≤ 100000) : sM Y mX6_setInstantaneous [.ref 0, .int (nI k), .int (nI a)] x (some (.int (x.1 11 k))) (u2 (pushS x i c).1 11 k (nI a), (pushS x i c).2) := by
  refine sM_of (by decide +kernel) (Nat.le_of_ble_eq_true rfl) (fun X h hY hR => ?_)
  have hT := kX6_setInstantaneous h
  have hk : k < 12 := by have := hN.2; omega
  have e : (pushS x i c).1 11 k = x.1 11 k := congrFun (push_o1 hU.1 (Or.inl (by decide))) k
  rw [← e] at hR
  repeat (refine sw_s hT rfl rfl ?_)
  refine sw_cv0 hT rfl (c_reqLine _ x n k hN) rfl rfl rfl rfl (Nat.le_of_ble_eq_true rfl) ?_
  repeat (refine sw_s hT rfl rfl ?_)
  refine sw_cs hT rfl (c_within _ x (nI a) 0 100000) rfl rfl (Nat.le_of_ble_eq_true rfl) ?_
  refine sw_b hT rfl rfl (fun c => absurd c ((bI_1 ⟨nI_pos' (by omega), by rw [show (100000 : Int32) = nI 100000 by decide]; exact nI_le ha (by omega)⟩))) (fun _ => ?_)
  repeat (refine sw_s hT rfl rfl ?_)
  refine sw_cv0 hT rfl (c_pushU _ x i c hU) rfl rfl rfl rfl (Nat.le_of_ble_eq_true rfl) ?_
  generalize pushS x i c = y at hR ⊢
  repeat (refine sw_s hT rfl rfl ?_)
  refine sw_iald hT rfl rfl (in12 hk) ?_
  rw [cl12 hk]
  repeat (refine sw_s hT rfl rfl ?_)
  refine sw_iast hT rfl rfl (in12 hk) ?_
  rw [cl12 hk]
  repeat (refine sw_s hT rfl rfl ?_)
  exact sw_iret hT rfl rfl rfl (hR)
theorem f_setShots (Y : Kx) (x : Hp) (i c n k a : Nat) (hU : US x i c) (hN : LNk x n k) (ha : a ≤ 3) : sM Y mX6_setShots [.ref 0, .int (nI k), .int (nI a)] x (some (.int (x.1 12 k))) (u2 (pushS x i c).1 12 k (nI a), (pushS x i c).2) := by
  refine sM_of (by decide +kernel) (Nat.le_of_ble_eq_true rfl) (fun X h hY hR => ?_)
  have hT := kX6_setShots h
  have hk : k < 12 := by have := hN.2; omega
  have e : (pushS x i c).1 12 k = x.1 12 k := congrFun (push_o1 hU.1 (Or.inl (by decide))) k
  rw [← e] at hR
  repeat (refine sw_s hT rfl rfl ?_)
  refine sw_cv0 hT rfl (c_reqLine _ x n k hN) rfl rfl rfl rfl (Nat.le_of_ble_eq_true rfl) ?_
  repeat (refine sw_s hT rfl rfl ?_)
  refine sw_cs hT rfl (c_within _ x (nI a) 0 3) rfl rfl (Nat.le_of_ble_eq_true rfl) ?_
  refine sw_b hT rfl rfl (fun c => absurd c ((bI_1 ⟨nI_pos' (by omega), by rw [show (3 : Int32) = nI 3 by decide]; exact nI_le ha (by omega)⟩))) (fun _ => ?_)
  repeat (refine sw_s hT rfl rfl ?_)
  refine sw_cv0 hT rfl (c_pushU _ x i c hU) rfl rfl rfl rfl (Nat.le_of_ble_eq_true rfl) ?_
  generalize pushS x i c = y at hR ⊢
  repeat (refine sw_s hT rfl rfl ?_)
  refine sw_iald hT rfl rfl (in12 hk) ?_
  rw [cl12 hk]
  repeat (refine sw_s hT rfl rfl ?_)
  refine sw_iast hT rfl rfl (in12 hk) ?_
  rw [cl12 hk]
  repeat (refine sw_s hT rfl rfl ?_)
  exact sw_iret hT rfl rfl rfl (hR)
theorem f_setStuck (Y : Kx) (x : Hp) (i c n k : Nat) (b : Int32) (hU : US x i c) (hN : LNk x n k) : sM Y mX6_setStuck [.ref 0, .int (nI k), .int b] x (some (.int (bI (¬ (x.1 7 5 >>> (nI k &&& 31)) &&& 1 = 0)))) (u2 (pushS x i c).1 7 5 (if b = 0 then (pushS x i c).1 7 5 &&& ((1 <<< (nI k &&& 31)) ^^^ -1) else (pushS x i c).1 7 5 ||| (1 <<< (nI k &&& 31))), (pushS x i c).2) := by
  refine sM_of (by decide +kernel) (Nat.le_of_ble_eq_true rfl) (fun X h hY hR => ?_)
  have hT := kX6_setStuck h
  have hk : k < 12 := by have := hN.2; omega
  have e : (pushS x i c).1 7 5 = x.1 7 5 := congrFun (push_o1 hU.1 (Or.inl (by decide))) 5
  rw [← e] at hR
  repeat (refine sw_s hT rfl rfl ?_)
  refine sw_cv0 hT rfl (c_reqLine _ x n k hN) rfl rfl rfl rfl (Nat.le_of_ble_eq_true rfl) ?_
  repeat (refine sw_s hT rfl rfl ?_)
  refine sw_cv0 hT rfl (c_pushU _ x i c hU) rfl rfl rfl rfl (Nat.le_of_ble_eq_true rfl) ?_
  generalize pushS x i c = y at hR ⊢
  repeat (refine sw_s hT rfl rfl ?_)
  refine sw_cv hT rfl (c_isStuck _ y (nI k)) rfl rfl rfl rfl (Nat.le_of_ble_eq_true rfl) ?_
  repeat (refine sw_s hT rfl rfl ?_)
  refine sw_cv0 hT rfl (c_makeStuck _ y (nI k) b) rfl rfl rfl rfl (Nat.le_of_ble_eq_true rfl) ?_
  repeat (refine sw_s hT rfl rfl ?_)
  exact sw_iret hT rfl rfl bI_n hR
theorem f_pickup (Y : Kx) (x : Hp) (n k : Nat) (hN : LNk x n k) : sM Y mX6_pickup [.ref 0, .int (nI k)] x (some (.int (x.1 8 k))) x := by
  refine sM_of (by decide +kernel) (Nat.le_of_ble_eq_true rfl) (fun X h hY hR => ?_)
  have hT := kX6_pickup h
  have hk : k < 12 := by have := hN.2; omega
  repeat (refine sw_s hT rfl rfl ?_)
  refine sw_cv0 hT rfl (c_reqLine _ x n k hN) rfl rfl rfl rfl (Nat.le_of_ble_eq_true rfl) ?_
  repeat (refine sw_s hT rfl rfl ?_)
  refine sw_iald hT rfl rfl (in12 hk) ?_
  rw [cl12 hk]
  exact sw_iret hT rfl rfl rfl (hR)
theorem f_steps (Y : Kx) (x : Hp) (n k : Nat) (hN : LNk x n k) : sM Y mX6_steps [.ref 0, .int (nI k)] x (some (.int (x.1 10 k))) x := by
  refine sM_of (by decide +kernel) (Nat.le_of_ble_eq_true rfl) (fun X h hY hR => ?_)
  have hT := kX6_steps h
  have hk : k < 12 := by have := hN.2; omega
  repeat (refine sw_s hT rfl rfl ?_)
  refine sw_cv0 hT rfl (c_reqLine _ x n k hN) rfl rfl rfl rfl (Nat.le_of_ble_eq_true rfl) ?_
  repeat (refine sw_s hT rfl rfl ?_)
  refine sw_iald hT rfl rfl (in12 hk) ?_
  rw [cl12 hk]
  exact sw_iret hT rfl rfl rfl (hR)
theorem f_upstream (Y : Kx) (x : Hp) (n k : Nat) (hN : LNk x n k) : sM Y mX6_upstream [.ref 0, .int (nI k)] x (some (.int (if x.1 3 k = 0 then -1 else x.1 3 k - 1))) x := by
  refine sM_of (by decide +kernel) (Nat.le_of_ble_eq_true rfl) (fun X h hY hR => ?_)
  have hT := kX6_upstream h
  have hk : k < 12 := by have := hN.2; omega
  repeat (refine sw_s hT rfl rfl ?_)
  refine sw_cv0 hT rfl (c_reqLine _ x n k hN) rfl rfl rfl rfl (Nat.le_of_ble_eq_true rfl) ?_
  repeat (refine sw_s hT rfl rfl ?_)
  refine sw_cv hT rfl (c_lineBefore _ x k hk) rfl rfl rfl rfl (Nat.le_of_ble_eq_true rfl) ?_
  exact sw_iret hT rfl rfl rfl (hR)
theorem f_operatingTime (Y : Kx) (x : Hp) (n k : Nat) (v : UInt64) (hN : LNk x n k) (hv : inD v 0 4741671816366391296) (ok : tfOK x k v) : sM Y mX6_operatingTime [.ref 0, .int (nI k), .double v] x (some (.double (tfS x k v))) x := by
  refine sM_of (by decide +kernel) (Nat.le_of_ble_eq_true rfl) (fun X h hY hR => ?_)
  have hT := kX6_operatingTime h
  have hk : k < 12 := by have := hN.2; omega
  repeat (refine sw_s hT rfl rfl ?_)
  refine sw_cv0 hT rfl (c_reqLine _ x n k hN) rfl rfl rfl rfl (Nat.le_of_ble_eq_true rfl) ?_
  repeat (refine sw_s hT rfl rfl ?_)
  refine sw_cs hT rfl (c_withinD _ x v _ _) rfl rfl (Nat.le_of_ble_eq_true rfl) ?_
  refine sw_b hT rfl rfl (fun c => absurd c ((hv))) (fun _ => ?_)
  repeat (refine sw_s hT rfl rfl ?_)
  refine sw_cv hT rfl (c_timeFor _ x k v hk ok) rfl rfl rfl rfl (Nat.le_of_ble_eq_true rfl) ?_
  exact sw_dret hT rfl rfl (hR)
theorem f_sensitivity (Y : Kx) (x : Hp) (n k : Nat) (hN : LNk x n k) (ok : curOK x k (nI 100)) (o2 : vf_n64 (FP.dmul (curS x k (nI 100)) 4605975454099882115)) (o3 : vf_n64 (FP.ddiv (FP.dmul (curS x k (nI 100)) 4605975454099882115) (FP.i2d (x.1 8 k)))) : sM Y mX6_sensitivity [.ref 0, .int (nI k)] x (some (.double (FP.ddiv (FP.dmul (curS x k (nI 100)) 4605975454099882115) (FP.i2d (x.1 8 k))))) x := by
  refine sM_of (by decide +kernel) (Nat.le_of_ble_eq_true rfl) (fun X h hY hR => ?_)
  have hT := kX6_sensitivity h
  have hk : k < 12 := by have := hN.2; omega
  have e100 : (100 : Int32) = nI 100 := by decide
  repeat (refine sw_s hT rfl rfl ?_)
  refine sw_cv0 hT rfl (c_reqLine _ x n k hN) rfl rfl rfl rfl (Nat.le_of_ble_eq_true rfl) ?_
  repeat (refine sw_s hT rfl rfl ?_)
  rw [e100]
  refine sw_cv hT rfl (c_currentAt _ x k (nI 100) hk ok) rfl rfl rfl rfl (Nat.le_of_ble_eq_true rfl) ?_
  repeat (refine sw_s hT rfl rfl ?_)
  refine sw_dmul hT rfl (o2) ?_
  repeat (refine sw_s hT rfl rfl ?_)
  refine sw_iald hT rfl rfl (in12 hk) ?_
  rw [cl12 hk]
  repeat (refine sw_s hT rfl rfl ?_)
  refine sw_ddiv hT rfl (o3) ?_
  exact sw_dret hT rfl rfl (hR)
theorem f_setMargin (Y : Kx) (x : Hp) (i c : Nat) (v : UInt64) (hU : US x i c) (h1 : inD v 4587366580439587226 4617315517961601024) : sM Y mX6_setMargin [.ref 0, .double v] x (some (.double (x.2.1 1 3))) ((pushS x i c).1, u2 (pushS x i c).2.1 1 3 v, (pushS x i c).2.2) := by
  refine sM_of (by decide +kernel) (Nat.le_of_ble_eq_true rfl) (fun X h hY hR => ?_)
  have hT := kX6_setMargin h
  have e : (pushS x i c).2.1 1 3 = x.2.1 1 3 := congrFun (push_o2 hU.1 (Or.inl (by decide))) 3
  rw [← e] at hR
  repeat (refine sw_s hT rfl rfl ?_)
  refine sw_cs hT rfl (c_withinD _ x v _ _) rfl rfl (Nat.le_of_ble_eq_true rfl) ?_
  refine sw_b hT rfl rfl (fun c => absurd c ((h1))) (fun _ => ?_)
  repeat (refine sw_s hT rfl rfl ?_)
  refine sw_cv0 hT rfl (c_pushU _ x i c hU) rfl rfl rfl rfl (Nat.le_of_ble_eq_true rfl) ?_
  generalize pushS x i c = y at hR ⊢
  repeat (refine sw_s hT rfl rfl ?_)
  exact sw_dret hT rfl rfl (hR)
theorem f_margin (Y : Kx) (x : Hp) (n k u p : Nat) (hI : INV x n) (hk : k < n) (hu : fbN x k = u + 1) (hp : p ≤ 100) : sM Y mX6_margin [.ref 0, .int (nI k), .int (nI p)] x (some (.double (mgS x k u (nI p)))) x := by
  refine sM_of (by decide +kernel) (Nat.le_of_ble_eq_true rfl) (fun X h hY hR => ?_)
  have hT := kX6_margin h
  have h12 := hI.1
  obtain ⟨f1, f2⟩ := hI.2.2.1 k hk
  repeat (refine sw_s hT rfl rfl ?_)
  refine sw_cv0 hT rfl (c_reqLine _ x n k ⟨hI.2.1, hI.1, hk⟩) rfl rfl rfl rfl (Nat.le_of_ble_eq_true rfl) ?_
  repeat (refine sw_s hT rfl rfl ?_)
  refine sw_cs0 hT rfl (c_reqPlace _ x p hp) rfl rfl (Nat.le_of_ble_eq_true rfl) ?_
  repeat (refine sw_s hT rfl rfl ?_)
  refine sw_cv hT rfl (c_lineB1 _ x k u (by omega) f1 hu (by omega)) rfl rfl rfl rfl (Nat.le_of_ble_eq_true rfl) ?_
  repeat (refine sw_s hT rfl rfl ?_)
  refine sw_b hT rfl rfl (fun c => absurd c ?_) (fun _ => ?_)
  · intro c
    have := nI_pos' (n := u) (by omega)
    rw [c] at this
    exact absurd this (by decide)
  repeat (refine sw_s hT rfl rfl ?_)
  refine sw_cv hT rfl (c_marginAt _ x n k u p hI hk hu hp) rfl rfl rfl rfl (Nat.le_of_ble_eq_true rfl) ?_
  exact sw_dret hT rfl rfl (hR)
theorem f_violationCount (Y : Kx) (x : Hp) (n : Nat) (hI : INV x n) : sM Y mX6_violationCount [.ref 0] x (some (.int (nI (cvS x n)))) x := by
  refine sM_of (by decide +kernel) (Nat.le_of_ble_eq_true rfl) (fun X h hY hR => ?_)
  have hT := kX6_violationCount h
  repeat (refine sw_s hT rfl rfl ?_)
  refine sw_cv hT rfl (c_countViolations _ x n hI) rfl rfl rfl rfl (Nat.le_of_ble_eq_true rfl) ?_
  exact sw_iret hT rfl rfl rfl (hR)
theorem f_violation (Y : Kx) (x : Hp) (n : Nat) (r : Int32) (hI : INV x n) (h0 : 0 ≤ r) (h1 : ¬ voS x n r n 0 = -1) : sM Y mX6_violation [.ref 0, .int r] x (some (.int (voS x n r n 0))) x := by
  refine sM_of (by decide +kernel) (Nat.le_of_ble_eq_true rfl) (fun X h hY hR => ?_)
  have hT := kX6_violation h
  repeat (refine sw_s hT rfl rfl ?_)
  refine sw_b hT rfl rfl (fun _ => ?_) (fun c => absurd ((h0)) c)
  repeat (refine sw_s hT rfl rfl ?_)
  refine sw_cv hT rfl (c_violationOfRank _ x n r hI) rfl rfl rfl rfl (Nat.le_of_ble_eq_true rfl) ?_
  repeat (refine sw_s hT rfl rfl ?_)
  refine sw_b hT rfl rfl (fun c => absurd c ((h1))) (fun _ => ?_)
  repeat (refine sw_s hT rfl rfl ?_)
  exact sw_iret hT rfl rfl rfl (hR)
theorem f_eventCount (Y : Kx) (x : Hp) : sM Y mX6_eventCount [.ref 0] x (some (.int (x.1 13 0))) x := by
  refine sM_of (by decide +kernel) (Nat.le_of_ble_eq_true rfl) (fun X h hY hR => ?_)
  have hT := kX6_eventCount h
  repeat (refine sw_s hT rfl rfl ?_)
  exact sw_iret hT rfl rfl rfl (hR)
theorem f_event (Y : Kx) (x : Hp) (n k : Nat) (hn : x.1 13 0 = nI n) (h60 : n ≤ 60) (hk : k < n) : sM Y mX6_event [.ref 0, .int (nI k)] x (some (.int (x.1 14 k))) x := by
  refine sM_of (by decide +kernel) (Nat.le_of_ble_eq_true rfl) (fun X h hY hR => ?_)
  have hT := kX6_event h
  repeat (refine sw_s hT rfl rfl ?_)
  refine sw_cv0 hT rfl (c_reqEvent _ x n k hn h60 hk) rfl rfl rfl rfl (Nat.le_of_ble_eq_true rfl) ?_
  repeat (refine sw_s hT rfl rfl ?_)
  refine sw_iald hT rfl rfl (vp_in_nI (show k < 60 by omega) (by decide)) ?_
  rw [nI_clamp (show k < 2 ^ 31 by omega)]
  exact sw_iret hT rfl rfl rfl (hR)
theorem f_eventTime (Y : Kx) (x : Hp) (n k : Nat) (hn : x.1 13 0 = nI n) (h60 : n ≤ 60) (hk : k < n) : sM Y mX6_eventTime [.ref 0, .int (nI k)] x (some (.double (x.2.1 15 k))) x := by
  refine sM_of (by decide +kernel) (Nat.le_of_ble_eq_true rfl) (fun X h hY hR => ?_)
  have hT := kX6_eventTime h
  repeat (refine sw_s hT rfl rfl ?_)
  refine sw_cv0 hT rfl (c_reqEvent _ x n k hn h60 hk) rfl rfl rfl rfl (Nat.le_of_ble_eq_true rfl) ?_
  repeat (refine sw_s hT rfl rfl ?_)
  refine sw_dald hT rfl rfl (vp_in_nI (show k < 60 by omega) (by decide)) ?_
  rw [nI_clamp (show k < 2 ^ 31 by omega)]
  exact sw_dret hT rfl rfl (hR)
theorem f_clearedTime (Y : Kx) (x : Hp) : sM Y mX6_clearedTime [.ref 0] x (some (.double (x.2.1 13 3))) x := by
  refine sM_of (by decide +kernel) (Nat.le_of_ble_eq_true rfl) (fun X h hY hR => ?_)
  have hT := kX6_clearedTime h
  repeat (refine sw_s hT rfl rfl ?_)
  exact sw_dret hT rfl rfl (hR)
theorem f_openBreakers (Y : Kx) (x : Hp) : sM Y mX6_openBreakers [.ref 0] x (some (.int (x.1 7 6))) x := by
  refine sM_of (by decide +kernel) (Nat.le_of_ble_eq_true rfl) (fun X h hY hR => ?_)
  have hT := kX6_openBreakers h
  repeat (refine sw_s hT rfl rfl ?_)
  exact sw_iret hT rfl rfl rfl (hR)
theorem f_lostLoad (Y : Kx) (x : Hp) (n : Nat) (hn : x.1 2 2 = nI n) (h12 : n ≤ 12) : sM Y mX6_lostLoad [.ref 0] x (some (.int (loS x (x.1 7 6) n))) x := by
  refine sM_of (by decide +kernel) (Nat.le_of_ble_eq_true rfl) (fun X h hY hR => ?_)
  have hT := kX6_lostLoad h
  repeat (refine sw_s hT rfl rfl ?_)
  refine sw_cv hT rfl (c_loadOver _ x _ n hn h12) rfl rfl rfl rfl (Nat.le_of_ble_eq_true rfl) ?_
  exact sw_iret hT rfl rfl rfl (hR)
