/-! push, pop -/
theorem push_on {X : Ctx} (h : sCx X mX5_push) (x : Hp) (i c : Nat) (hi : i < 4) (hc : c ≤ 4) (h1 : x.1 76 1 = nI i) (h0 : x.1 76 0 = nI c) (hR : retOK X none (wI (wI x 76 1 (nI ((i + 1) % 4))) 76 0 (nI (min (c + 1) 4)))) : SW X mX5_push 13 [(0, .ref 76), (1, .ref 1)] [] x := by
  have hT := kX5_push h
  repeat (refine sw_s hT rfl rfl ?_)
  refine sw_irem hT rfl ((by decide)) ?_
  rw [h1, push_mod hi]
  repeat (refine sw_s hT rfl rfl ?_)
  refine sw_min hT rfl (Nat.le_of_ble_eq_true rfl) ?_
  have e : (u2 x.1 76 1 (nI ((i + 1) % 4)), x.2).1 76 0 = nI c := h0
  rw [e, push_min hc]
  repeat (refine sw_s hT rfl rfl ?_)
  exact sw_vret hT rfl rfl (hR)
theorem pop_on {X : Ctx} (h : sCx X mX5_popInto) (y : Hp) (c : Nat) (hc0 : 0 < c) (hy : y.1 76 0 = nI c) (hR : retOK X none (wI y 76 0 (nI (c - 1)))) : SW X mX5_popInto 27 [(0, .ref 76), (1, .ref 1)] [] y := by
  have hT := kX5_popInto h
  rw [show nI (c - 1) = nI c - 1 by rw [show nI c = nI ((c - 1) + 1) by rw [Nat.sub_add_cancel hc0], nI_pred], ← hy] at hR
  repeat (refine sw_s hT rfl rfl ?_)
  exact sw_vret hT rfl rfl (hR)
theorem c_push_0 (Y : Kx) (x : Hp) (c : Nat) (hc : c ≤ 4) (h1 : x.1 76 1 = nI 0) (h0 : x.1 76 0 = nI c) : sM Y mX5_push [.ref 76, .ref 1] x none (wI (wI (cpA x 16 1) 76 1 (nI ((0 + 1) % 4))) 76 0 (nI (min (c + 1) 4))) := by
  refine sM_of (by decide +kernel) (Nat.le_of_ble_eq_true rfl) (fun X h hY hR => ?_)
  have hT := kX5_push h
  repeat (refine sw_s hT rfl rfl ?_)
  rw [show fks x 76 1 0 = .int (nI 0) from congrArg Value.int h1]
  refine sw_aald hT rfl rfl (vp_in_nI (show 0 < 4 by decide) (by decide)) ?_
  rw [show 16 + 15 * (nI 0).toNatClampNeg = 16 by decide]
  repeat (refine sw_s hT rfl rfl ?_)
  refine sw_cv0 hT rfl (c_cpA_16_1 _ x) rfl rfl rfl rfl (Nat.le_of_ble_eq_true rfl) ?_
  have e1 : (cpA x 16 1).1 76 1 = nI 0 := (congrFun (cpA_o1 x 16 1 76 (by decide)) 1).trans h1
  have e0 : (cpA x 16 1).1 76 0 = nI c := (congrFun (cpA_o1 x 16 1 76 (by decide)) 0).trans h0
  generalize cpA x 16 1 = y at e1 e0 hR ⊢
  exact push_on h y 0 c (by decide) hc e1 e0 hR
theorem c_pop_0 (Y : Kx) (x : Hp) (c : Nat) (hc0 : 0 < c) (h1 : x.1 76 1 = nI 1) (h0 : x.1 76 0 = nI c) : sM Y mX5_popInto [.ref 76, .ref 1] x none (wI (cpA (wI x 76 1 (nI 0)) 1 16) 76 0 (nI (c - 1))) := by
  refine sM_of (by decide +kernel) (Nat.le_of_ble_eq_true rfl) (fun X h hY hR => ?_)
  have hT := kX5_popInto h
  repeat (refine sw_s hT rfl rfl ?_)
  refine sw_irem hT rfl ((by decide)) ?_
  rw [h1, show (nI 1 + 4 - 1 - (nI 1 + 4 - 1) / 4 * 4) = nI 0 by decide]
  repeat (refine sw_s hT rfl rfl ?_)
  have e0 : (wI x 76 1 (nI 0)).1 76 0 = nI c := h0
  have e1 : (wI x 76 1 (nI 0)).1 76 1 = nI 0 := by
    show u2 x.1 76 1 (nI 0) 76 1 = _
    rw [u2_self]
    exact if_pos rfl
  have e2 : (u2 x.1 76 1 (nI 0), x.2) = wI x 76 1 (nI 0) := rfl
  rw [e2]
  generalize wI x 76 1 (nI 0) = y at e0 e1 hR ⊢
  rw [show fks y 76 1 0 = .int (nI 0) from congrArg Value.int e1]
  refine sw_aald hT rfl rfl (vp_in_nI (show 0 < 4 by decide) (by decide)) ?_
  rw [show 16 + 15 * (nI 0).toNatClampNeg = 16 by decide]
  repeat (refine sw_s hT rfl rfl ?_)
  refine sw_cv0 hT rfl (c_cpA_1_16 _ y) rfl rfl rfl rfl (Nat.le_of_ble_eq_true rfl) ?_
  have e3 : (cpA y 1 16).1 76 0 = nI c := (congrFun (cpA_o1 y 1 16 76 (by decide)) 0).trans e0
  generalize cpA y 1 16 = z at e3 hR ⊢
  exact pop_on h z c hc0 e3 hR
theorem c_push_1 (Y : Kx) (x : Hp) (c : Nat) (hc : c ≤ 4) (h1 : x.1 76 1 = nI 1) (h0 : x.1 76 0 = nI c) : sM Y mX5_push [.ref 76, .ref 1] x none (wI (wI (cpA x 31 1) 76 1 (nI ((1 + 1) % 4))) 76 0 (nI (min (c + 1) 4))) := by
  refine sM_of (by decide +kernel) (Nat.le_of_ble_eq_true rfl) (fun X h hY hR => ?_)
  have hT := kX5_push h
  repeat (refine sw_s hT rfl rfl ?_)
  rw [show fks x 76 1 0 = .int (nI 1) from congrArg Value.int h1]
  refine sw_aald hT rfl rfl (vp_in_nI (show 1 < 4 by decide) (by decide)) ?_
  rw [show 16 + 15 * (nI 1).toNatClampNeg = 31 by decide]
  repeat (refine sw_s hT rfl rfl ?_)
  refine sw_cv0 hT rfl (c_cpA_31_1 _ x) rfl rfl rfl rfl (Nat.le_of_ble_eq_true rfl) ?_
  have e1 : (cpA x 31 1).1 76 1 = nI 1 := (congrFun (cpA_o1 x 31 1 76 (by decide)) 1).trans h1
  have e0 : (cpA x 31 1).1 76 0 = nI c := (congrFun (cpA_o1 x 31 1 76 (by decide)) 0).trans h0
  generalize cpA x 31 1 = y at e1 e0 hR ⊢
  exact push_on h y 1 c (by decide) hc e1 e0 hR
theorem c_pop_1 (Y : Kx) (x : Hp) (c : Nat) (hc0 : 0 < c) (h1 : x.1 76 1 = nI 2) (h0 : x.1 76 0 = nI c) : sM Y mX5_popInto [.ref 76, .ref 1] x none (wI (cpA (wI x 76 1 (nI 1)) 1 31) 76 0 (nI (c - 1))) := by
  refine sM_of (by decide +kernel) (Nat.le_of_ble_eq_true rfl) (fun X h hY hR => ?_)
  have hT := kX5_popInto h
  repeat (refine sw_s hT rfl rfl ?_)
  refine sw_irem hT rfl ((by decide)) ?_
  rw [h1, show (nI 2 + 4 - 1 - (nI 2 + 4 - 1) / 4 * 4) = nI 1 by decide]
  repeat (refine sw_s hT rfl rfl ?_)
  have e0 : (wI x 76 1 (nI 1)).1 76 0 = nI c := h0
  have e1 : (wI x 76 1 (nI 1)).1 76 1 = nI 1 := by
    show u2 x.1 76 1 (nI 1) 76 1 = _
    rw [u2_self]
    exact if_pos rfl
  have e2 : (u2 x.1 76 1 (nI 1), x.2) = wI x 76 1 (nI 1) := rfl
  rw [e2]
  generalize wI x 76 1 (nI 1) = y at e0 e1 hR ⊢
  rw [show fks y 76 1 0 = .int (nI 1) from congrArg Value.int e1]
  refine sw_aald hT rfl rfl (vp_in_nI (show 1 < 4 by decide) (by decide)) ?_
  rw [show 16 + 15 * (nI 1).toNatClampNeg = 31 by decide]
  repeat (refine sw_s hT rfl rfl ?_)
  refine sw_cv0 hT rfl (c_cpA_1_31 _ y) rfl rfl rfl rfl (Nat.le_of_ble_eq_true rfl) ?_
  have e3 : (cpA y 1 31).1 76 0 = nI c := (congrFun (cpA_o1 y 1 31 76 (by decide)) 0).trans e0
  generalize cpA y 1 31 = z at e3 hR ⊢
  exact pop_on h z c hc0 e3 hR
theorem c_push_2 (Y : Kx) (x : Hp) (c : Nat) (hc : c ≤ 4) (h1 : x.1 76 1 = nI 2) (h0 : x.1 76 0 = nI c) : sM Y mX5_push [.ref 76, .ref 1] x none (wI (wI (cpA x 46 1) 76 1 (nI ((2 + 1) % 4))) 76 0 (nI (min (c + 1) 4))) := by
  refine sM_of (by decide +kernel) (Nat.le_of_ble_eq_true rfl) (fun X h hY hR => ?_)
  have hT := kX5_push h
  repeat (refine sw_s hT rfl rfl ?_)
  rw [show fks x 76 1 0 = .int (nI 2) from congrArg Value.int h1]
  refine sw_aald hT rfl rfl (vp_in_nI (show 2 < 4 by decide) (by decide)) ?_
  rw [show 16 + 15 * (nI 2).toNatClampNeg = 46 by decide]
  repeat (refine sw_s hT rfl rfl ?_)
  refine sw_cv0 hT rfl (c_cpA_46_1 _ x) rfl rfl rfl rfl (Nat.le_of_ble_eq_true rfl) ?_
  have e1 : (cpA x 46 1).1 76 1 = nI 2 := (congrFun (cpA_o1 x 46 1 76 (by decide)) 1).trans h1
  have e0 : (cpA x 46 1).1 76 0 = nI c := (congrFun (cpA_o1 x 46 1 76 (by decide)) 0).trans h0
  generalize cpA x 46 1 = y at e1 e0 hR ⊢
  exact push_on h y 2 c (by decide) hc e1 e0 hR
theorem c_pop_2 (Y : Kx) (x : Hp) (c : Nat) (hc0 : 0 < c) (h1 : x.1 76 1 = nI 3) (h0 : x.1 76 0 = nI c) : sM Y mX5_popInto [.ref 76, .ref 1] x none (wI (cpA (wI x 76 1 (nI 2)) 1 46) 76 0 (nI (c - 1))) := by
  refine sM_of (by decide +kernel) (Nat.le_of_ble_eq_true rfl) (fun X h hY hR => ?_)
  have hT := kX5_popInto h
  repeat (refine sw_s hT rfl rfl ?_)
  refine sw_irem hT rfl ((by decide)) ?_
  rw [h1, show (nI 3 + 4 - 1 - (nI 3 + 4 - 1) / 4 * 4) = nI 2 by decide]
  repeat (refine sw_s hT rfl rfl ?_)
  have e0 : (wI x 76 1 (nI 2)).1 76 0 = nI c := h0
  have e1 : (wI x 76 1 (nI 2)).1 76 1 = nI 2 := by
    show u2 x.1 76 1 (nI 2) 76 1 = _
    rw [u2_self]
    exact if_pos rfl
  have e2 : (u2 x.1 76 1 (nI 2), x.2) = wI x 76 1 (nI 2) := rfl
  rw [e2]
  generalize wI x 76 1 (nI 2) = y at e0 e1 hR ⊢
  rw [show fks y 76 1 0 = .int (nI 2) from congrArg Value.int e1]
  refine sw_aald hT rfl rfl (vp_in_nI (show 2 < 4 by decide) (by decide)) ?_
  rw [show 16 + 15 * (nI 2).toNatClampNeg = 46 by decide]
  repeat (refine sw_s hT rfl rfl ?_)
  refine sw_cv0 hT rfl (c_cpA_1_46 _ y) rfl rfl rfl rfl (Nat.le_of_ble_eq_true rfl) ?_
  have e3 : (cpA y 1 46).1 76 0 = nI c := (congrFun (cpA_o1 y 1 46 76 (by decide)) 0).trans e0
  generalize cpA y 1 46 = z at e3 hR ⊢
  exact pop_on h z c hc0 e3 hR
theorem c_push_3 (Y : Kx) (x : Hp) (c : Nat) (hc : c ≤ 4) (h1 : x.1 76 1 = nI 3) (h0 : x.1 76 0 = nI c) : sM Y mX5_push [.ref 76, .ref 1] x none (wI (wI (cpA x 61 1) 76 1 (nI ((3 + 1) % 4))) 76 0 (nI (min (c + 1) 4))) := by
  refine sM_of (by decide +kernel) (Nat.le_of_ble_eq_true rfl) (fun X h hY hR => ?_)
  have hT := kX5_push h
  repeat (refine sw_s hT rfl rfl ?_)
  rw [show fks x 76 1 0 = .int (nI 3) from congrArg Value.int h1]
  refine sw_aald hT rfl rfl (vp_in_nI (show 3 < 4 by decide) (by decide)) ?_
  rw [show 16 + 15 * (nI 3).toNatClampNeg = 61 by decide]
  repeat (refine sw_s hT rfl rfl ?_)
  refine sw_cv0 hT rfl (c_cpA_61_1 _ x) rfl rfl rfl rfl (Nat.le_of_ble_eq_true rfl) ?_
  have e1 : (cpA x 61 1).1 76 1 = nI 3 := (congrFun (cpA_o1 x 61 1 76 (by decide)) 1).trans h1
  have e0 : (cpA x 61 1).1 76 0 = nI c := (congrFun (cpA_o1 x 61 1 76 (by decide)) 0).trans h0
  generalize cpA x 61 1 = y at e1 e0 hR ⊢
  exact push_on h y 3 c (by decide) hc e1 e0 hR
theorem c_pop_3 (Y : Kx) (x : Hp) (c : Nat) (hc0 : 0 < c) (h1 : x.1 76 1 = nI 0) (h0 : x.1 76 0 = nI c) : sM Y mX5_popInto [.ref 76, .ref 1] x none (wI (cpA (wI x 76 1 (nI 3)) 1 61) 76 0 (nI (c - 1))) := by
  refine sM_of (by decide +kernel) (Nat.le_of_ble_eq_true rfl) (fun X h hY hR => ?_)
  have hT := kX5_popInto h
  repeat (refine sw_s hT rfl rfl ?_)
  refine sw_irem hT rfl ((by decide)) ?_
  rw [h1, show (nI 0 + 4 - 1 - (nI 0 + 4 - 1) / 4 * 4) = nI 3 by decide]
  repeat (refine sw_s hT rfl rfl ?_)
  have e0 : (wI x 76 1 (nI 3)).1 76 0 = nI c := h0
  have e1 : (wI x 76 1 (nI 3)).1 76 1 = nI 3 := by
    show u2 x.1 76 1 (nI 3) 76 1 = _
    rw [u2_self]
    exact if_pos rfl
  have e2 : (u2 x.1 76 1 (nI 3), x.2) = wI x 76 1 (nI 3) := rfl
  rw [e2]
  generalize wI x 76 1 (nI 3) = y at e0 e1 hR ⊢
  rw [show fks y 76 1 0 = .int (nI 3) from congrArg Value.int e1]
  refine sw_aald hT rfl rfl (vp_in_nI (show 3 < 4 by decide) (by decide)) ?_
  rw [show 16 + 15 * (nI 3).toNatClampNeg = 61 by decide]
  repeat (refine sw_s hT rfl rfl ?_)
  refine sw_cv0 hT rfl (c_cpA_1_61 _ y) rfl rfl rfl rfl (Nat.le_of_ble_eq_true rfl) ?_
  have e3 : (cpA y 1 61).1 76 0 = nI c := (congrFun (cpA_o1 y 1 61 76 (by decide)) 0).trans e0
  generalize cpA y 1 61 = z at e3 hR ⊢
  exact pop_on h z c hc0 e3 hR
theorem c_push (Y : Kx) (x : Hp) (i c : Nat) (hi : i < 4) (hc : c ≤ 4) (h1 : x.1 76 1 = nI i) (h0 : x.1 76 0 = nI c) : sM Y mX5_push [.ref 76, .ref 1] x none (pushS x i c) := by
  match i, hi, h1 with
  | 0, _, h1 => exact c_push_0 Y x c hc h1 h0
  | 1, _, h1 => exact c_push_1 Y x c hc h1 h0
  | 2, _, h1 => exact c_push_2 Y x c hc h1 h0
  | 3, _, h1 => exact c_push_3 Y x c hc h1 h0
/-- back to the state that was saved last, at place j -/
def popS (x : Hp) (j c : Nat) : Hp := wI (cpA (wI x 76 1 (nI j)) 1 (16 + 15 * j)) 76 0 (nI (c - 1))
theorem c_popInto (Y : Kx) (x : Hp) (j c : Nat) (hj : j < 4) (hc0 : 0 < c) (h1 : x.1 76 1 = nI ((j + 1) % 4)) (h0 : x.1 76 0 = nI c) : sM Y mX5_popInto [.ref 76, .ref 1] x none (popS x j c) := by
  match j, hj, h1 with
  | 0, _, h1 => exact c_pop_0 Y x c hc0 h1 h0
  | 1, _, h1 => exact c_pop_1 Y x c hc0 h1 h0
  | 2, _, h1 => exact c_pop_2 Y x c hc0 h1 h0
  | 3, _, h1 => exact c_pop_3 Y x c hc0 h1 h0
