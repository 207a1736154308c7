/-! contracts of the law's methods -/
theorem in01 : vp_in 0 1 := vp_in_nI (by omega : 0 < 1) (by decide)
theorem wn_setSource {Y : Kx} {x : Hp} (v0 : UInt64) (v1 : UInt64) {P : Po} (hM : sR Y mX6_setSource [.ref 0, .double v0, .double v1] x P) (hP : ∀ rr y, P rr y → ∃ v, rr = some (.double v)) : sL Y mL_setSource hL_setSource [.ref 0, .double v0, .double v1, .ref 95] x (fun rr z => rr = some (.int 0) ∧ ∃ v y, P (some (.double v)) y ∧ z = (y.1, u2 y.2.1 95 0 v, y.2.2)) := by
  refine sL_ok (by decide +kernel) (Nat.le_of_ble_eq_true rfl) (fun X h hY hR => ?_)
  subst hY
  have hT := kL_setSource h
  repeat (refine sw_s hT rfl rfl ?_)
  refine sw_cvR hT rfl (hM) rfl rfl rfl rfl (Nat.le_of_ble_eq_true rfl) ?_
  intro rr y hp
  obtain ⟨v, rfl⟩ := hP rr y hp
  show SW X mL_setSource 9 _ [.double v, .int 0, .ref 95] y
  refine sw_dast hT rfl rfl (in01) ?_
  repeat (refine sw_s hT rfl rfl ?_)
  refine sw_iretP hT rfl rfl rfl hR ?_
  exact ⟨rfl, v, y, hp, rfl⟩
theorem wt1_setSource {Y : Kx} (hfl : Y.1.stackTraces = false) {x : Hp} (v0 : UInt64) (v1 : UInt64) (hM : sT Y mX6_setSource [.ref 0, .double v0, .double v1] x "java/lang/IllegalArgumentException") : sL Y mL_setSource hL_setSource [.ref 0, .double v0, .double v1, .ref 95] x (fun rr z => rr = some (.int 1) ∧ z = x) := by
  refine sL_thr hfl (by decide +kernel) (Nat.le_of_ble_eq_true rfl) (fun X h ht hY hR => ?_)
  subst hY
  have hT := kL_setSource h
  repeat (refine sw_s hT rfl rfl ?_)
  refine sw_catch (n := 2) h ht hM gl_0 gl_1 gl_2 gw_27 gl_4 ⟨by decide +kernel, by decide +kernel, by decide +kernel⟩ ⟨by decide +kernel, by decide +kernel⟩ dL_setSource_6 (rest := [.int 0, .ref 95]) rfl rfl rfl rfl (Nat.le_of_ble_eq_true rfl) [] ⟨0, 10, 13, 13⟩ [] rfl (fun y hy => absurd hy List.not_mem_nil) (by decide) (by decide) gl_89 (by decide +kernel) (Or.inl ⟨dL_setSource_13, rfl⟩) (by decide +kernel) ?_
  refine sw_ci h (v := 1) (by decide +kernel) dL_setSource_15 ?_
  exact ret_L h hR rfl ⟨rfl, rfl⟩ dL_setSource_16
theorem wn_addLine {Y : Kx} {x : Hp} (v0 : Int32) (v1 : UInt64) {P : Po} (hM : sR Y mX6_addLine [.ref 0, .int v0, .double v1] x P) (hP : ∀ rr y, P rr y → ∃ v, rr = some (.int v)) : sL Y mL_addLine hL_addLine [.ref 0, .int v0, .double v1, .ref 94] x (fun rr z => rr = some (.int 0) ∧ ∃ v y, P (some (.int v)) y ∧ z = (y.1, y.2.1, u2 y.2.2 94 0 v.toInt64)) := by
  refine sL_ok (by decide +kernel) (Nat.le_of_ble_eq_true rfl) (fun X h hY hR => ?_)
  subst hY
  have hT := kL_addLine h
  repeat (refine sw_s hT rfl rfl ?_)
  refine sw_cvR hT rfl (hM) rfl rfl rfl rfl (Nat.le_of_ble_eq_true rfl) ?_
  intro rr y hp
  obtain ⟨v, rfl⟩ := hP rr y hp
  show SW X mL_addLine 9 _ [.int v, .int 0, .ref 94] y
  repeat (refine sw_s hT rfl rfl ?_)
  refine sw_last hT rfl rfl (in01) ?_
  repeat (refine sw_s hT rfl rfl ?_)
  refine sw_iretP hT rfl rfl rfl hR ?_
  exact ⟨rfl, v, y, hp, rfl⟩
theorem wt1_addLine {Y : Kx} (hfl : Y.1.stackTraces = false) {x : Hp} (v0 : Int32) (v1 : UInt64) (hM : sT Y mX6_addLine [.ref 0, .int v0, .double v1] x "java/lang/IllegalArgumentException") : sL Y mL_addLine hL_addLine [.ref 0, .int v0, .double v1, .ref 94] x (fun rr z => rr = some (.int 1) ∧ z = x) := by
  refine sL_thr hfl (by decide +kernel) (Nat.le_of_ble_eq_true rfl) (fun X h ht hY hR => ?_)
  subst hY
  have hT := kL_addLine h
  repeat (refine sw_s hT rfl rfl ?_)
  refine sw_catch (n := 2) h ht hM gl_5 gl_6 gl_7 gw_27 gl_8 ⟨by decide +kernel, by decide +kernel, by decide +kernel⟩ ⟨by decide +kernel, by decide +kernel⟩ dL_addLine_6 (rest := [.int 0, .ref 94]) rfl rfl rfl rfl (Nat.le_of_ble_eq_true rfl) [] ⟨0, 11, 14, 13⟩ [⟨0, 11, 18, 19⟩] rfl (fun y hy => absurd hy List.not_mem_nil) (by decide) (by decide) gl_89 (by decide +kernel) (Or.inl ⟨dL_addLine_14, rfl⟩) (by decide +kernel) ?_
  refine sw_ci h (v := 1) (by decide +kernel) dL_addLine_16 ?_
  exact ret_L h hR rfl ⟨rfl, rfl⟩ dL_addLine_17
theorem wt2_addLine {Y : Kx} (hfl : Y.1.stackTraces = false) {x : Hp} (v0 : Int32) (v1 : UInt64) (hM : sT Y mX6_addLine [.ref 0, .int v0, .double v1] x "java/lang/IllegalStateException") : sL Y mL_addLine hL_addLine [.ref 0, .int v0, .double v1, .ref 94] x (fun rr z => rr = some (.int 2) ∧ z = x) := by
  refine sL_thr hfl (by decide +kernel) (Nat.le_of_ble_eq_true rfl) (fun X h ht hY hR => ?_)
  subst hY
  have hT := kL_addLine h
  repeat (refine sw_s hT rfl rfl ?_)
  refine sw_catch (n := 2) h ht hM gl_5 gl_6 gl_7 gw_27 gl_8 ⟨by decide +kernel, by decide +kernel, by decide +kernel⟩ ⟨by decide +kernel, by decide +kernel⟩ dL_addLine_6 (rest := [.int 0, .ref 94]) rfl rfl rfl rfl (Nat.le_of_ble_eq_true rfl) [⟨0, 11, 14, 13⟩] ⟨0, 11, 18, 19⟩ [] rfl (fun y hy => by rw [List.mem_singleton.mp hy]; exact ⟨by decide, gl_89, rfl⟩) (by decide) (by decide) gl_90 (by decide +kernel) (Or.inl ⟨dL_addLine_18, rfl⟩) (by decide +kernel) ?_
  refine sw_ci h (v := 2) (by decide +kernel) dL_addLine_20 ?_
  exact ret_L h hR rfl ⟨rfl, rfl⟩ dL_addLine_21
theorem wn_setLoad {Y : Kx} {x : Hp} (v0 : Int32) (v1 : Int32) {P : Po} (hM : sR Y mX6_setLoad [.ref 0, .int v0, .int v1] x P) (hP : ∀ rr y, P rr y → ∃ v, rr = some (.int v)) : sL Y mL_setLoad hL_setLoad [.ref 0, .int v0, .int v1, .ref 94] x (fun rr z => rr = some (.int 0) ∧ ∃ v y, P (some (.int v)) y ∧ z = (y.1, y.2.1, u2 y.2.2 94 0 v.toInt64)) := by
  refine sL_ok (by decide +kernel) (Nat.le_of_ble_eq_true rfl) (fun X h hY hR => ?_)
  subst hY
  have hT := kL_setLoad h
  repeat (refine sw_s hT rfl rfl ?_)
  refine sw_cvR hT rfl (hM) rfl rfl rfl rfl (Nat.le_of_ble_eq_true rfl) ?_
  intro rr y hp
  obtain ⟨v, rfl⟩ := hP rr y hp
  show SW X mL_setLoad 8 _ [.int v, .int 0, .ref 94] y
  repeat (refine sw_s hT rfl rfl ?_)
  refine sw_last hT rfl rfl (in01) ?_
  repeat (refine sw_s hT rfl rfl ?_)
  refine sw_iretP hT rfl rfl rfl hR ?_
  exact ⟨rfl, v, y, hp, rfl⟩
theorem wt1_setLoad {Y : Kx} (hfl : Y.1.stackTraces = false) {x : Hp} (v0 : Int32) (v1 : Int32) (hM : sT Y mX6_setLoad [.ref 0, .int v0, .int v1] x "java/lang/IllegalArgumentException") : sL Y mL_setLoad hL_setLoad [.ref 0, .int v0, .int v1, .ref 94] x (fun rr z => rr = some (.int 1) ∧ z = x) := by
  refine sL_thr hfl (by decide +kernel) (Nat.le_of_ble_eq_true rfl) (fun X h ht hY hR => ?_)
  subst hY
  have hT := kL_setLoad h
  repeat (refine sw_s hT rfl rfl ?_)
  refine sw_catch (n := 2) h ht hM gl_9 gl_10 gl_11 gw_27 gl_12 ⟨by decide +kernel, by decide +kernel, by decide +kernel⟩ ⟨by decide +kernel, by decide +kernel⟩ dL_setLoad_5 (rest := [.int 0, .ref 94]) rfl rfl rfl rfl (Nat.le_of_ble_eq_true rfl) [] ⟨0, 10, 13, 13⟩ [] rfl (fun y hy => absurd hy List.not_mem_nil) (by decide) (by decide) gl_89 (by decide +kernel) (Or.inl ⟨dL_setLoad_13, rfl⟩) (by decide +kernel) ?_
  refine sw_ci h (v := 1) (by decide +kernel) dL_setLoad_15 ?_
  exact ret_L h hR rfl ⟨rfl, rfl⟩ dL_setLoad_16
theorem wn_loadCurrent {Y : Kx} {x : Hp} (v0 : Int32) {P : Po} (hM : sR Y mX6_loadCurrent [.ref 0, .int v0] x P) (hP : ∀ rr y, P rr y → ∃ v, rr = some (.int v)) : sL Y mL_loadCurrent hL_loadCurrent [.ref 0, .int v0, .ref 94] x (fun rr z => rr = some (.int 0) ∧ ∃ v y, P (some (.int v)) y ∧ z = (y.1, y.2.1, u2 y.2.2 94 0 v.toInt64)) := by
  refine sL_ok (by decide +kernel) (Nat.le_of_ble_eq_true rfl) (fun X h hY hR => ?_)
  subst hY
  have hT := kL_loadCurrent h
  repeat (refine sw_s hT rfl rfl ?_)
  refine sw_cvR hT rfl (hM) rfl rfl rfl rfl (Nat.le_of_ble_eq_true rfl) ?_
  intro rr y hp
  obtain ⟨v, rfl⟩ := hP rr y hp
  show SW X mL_loadCurrent 7 _ [.int v, .int 0, .ref 94] y
  repeat (refine sw_s hT rfl rfl ?_)
  refine sw_last hT rfl rfl (in01) ?_
  repeat (refine sw_s hT rfl rfl ?_)
  refine sw_iretP hT rfl rfl rfl hR ?_
  exact ⟨rfl, v, y, hp, rfl⟩
theorem wt1_loadCurrent {Y : Kx} (hfl : Y.1.stackTraces = false) {x : Hp} (v0 : Int32) (hM : sT Y mX6_loadCurrent [.ref 0, .int v0] x "java/lang/IllegalArgumentException") : sL Y mL_loadCurrent hL_loadCurrent [.ref 0, .int v0, .ref 94] x (fun rr z => rr = some (.int 1) ∧ z = x) := by
  refine sL_thr hfl (by decide +kernel) (Nat.le_of_ble_eq_true rfl) (fun X h ht hY hR => ?_)
  subst hY
  have hT := kL_loadCurrent h
  repeat (refine sw_s hT rfl rfl ?_)
  refine sw_catch (n := 1) h ht hM gl_13 gl_14 gl_15 gw_27 gl_16 ⟨by decide +kernel, by decide +kernel, by decide +kernel⟩ ⟨by decide +kernel, by decide +kernel⟩ dL_loadCurrent_4 (rest := [.int 0, .ref 94]) rfl rfl rfl rfl (Nat.le_of_ble_eq_true rfl) [] ⟨0, 9, 12, 13⟩ [] rfl (fun y hy => absurd hy List.not_mem_nil) (by decide) (by decide) gl_89 (by decide +kernel) (Or.inr ⟨3, rfl, dL_loadCurrent_12, rfl⟩) (by decide +kernel) ?_
  refine sw_ci h (v := 1) (by decide +kernel) dL_loadCurrent_13 ?_
  exact ret_L h hR rfl ⟨rfl, rfl⟩ dL_loadCurrent_14
theorem wn_faultCurrent {Y : Kx} {x : Hp} (v0 : Int32) (v1 : Int32) {P : Po} (hM : sR Y mX6_faultCurrent [.ref 0, .int v0, .int v1] x P) (hP : ∀ rr y, P rr y → ∃ v, rr = some (.double v)) : sL Y mL_faultCurrent hL_faultCurrent [.ref 0, .int v0, .int v1, .ref 95] x (fun rr z => rr = some (.int 0) ∧ ∃ v y, P (some (.double v)) y ∧ z = (y.1, u2 y.2.1 95 0 v, y.2.2)) := by
  refine sL_ok (by decide +kernel) (Nat.le_of_ble_eq_true rfl) (fun X h hY hR => ?_)
  subst hY
  have hT := kL_faultCurrent h
  repeat (refine sw_s hT rfl rfl ?_)
  refine sw_cvR hT rfl (hM) rfl rfl rfl rfl (Nat.le_of_ble_eq_true rfl) ?_
  intro rr y hp
  obtain ⟨v, rfl⟩ := hP rr y hp
  show SW X mL_faultCurrent 8 _ [.double v, .int 0, .ref 95] y
  refine sw_dast hT rfl rfl (in01) ?_
  repeat (refine sw_s hT rfl rfl ?_)
  refine sw_iretP hT rfl rfl rfl hR ?_
  exact ⟨rfl, v, y, hp, rfl⟩
theorem wt1_faultCurrent {Y : Kx} (hfl : Y.1.stackTraces = false) {x : Hp} (v0 : Int32) (v1 : Int32) (hM : sT Y mX6_faultCurrent [.ref 0, .int v0, .int v1] x "java/lang/IllegalArgumentException") : sL Y mL_faultCurrent hL_faultCurrent [.ref 0, .int v0, .int v1, .ref 95] x (fun rr z => rr = some (.int 1) ∧ z = x) := by
  refine sL_thr hfl (by decide +kernel) (Nat.le_of_ble_eq_true rfl) (fun X h ht hY hR => ?_)
  subst hY
  have hT := kL_faultCurrent h
  repeat (refine sw_s hT rfl rfl ?_)
  refine sw_catch (n := 2) h ht hM gl_17 gl_18 gl_19 gw_27 gl_20 ⟨by decide +kernel, by decide +kernel, by decide +kernel⟩ ⟨by decide +kernel, by decide +kernel⟩ dL_faultCurrent_5 (rest := [.int 0, .ref 95]) rfl rfl rfl rfl (Nat.le_of_ble_eq_true rfl) [] ⟨0, 9, 12, 13⟩ [] rfl (fun y hy => absurd hy List.not_mem_nil) (by decide) (by decide) gl_89 (by decide +kernel) (Or.inl ⟨dL_faultCurrent_12, rfl⟩) (by decide +kernel) ?_
  refine sw_ci h (v := 1) (by decide +kernel) dL_faultCurrent_14 ?_
  exact ret_L h hR rfl ⟨rfl, rfl⟩ dL_faultCurrent_15
theorem wn_setRelay {Y : Kx} {x : Hp} (v0 : Int32) (v1 : Int32) (v2 : Int32) (v3 : Int32) {P : Po} (hM : sR Y mX6_setRelay [.ref 0, .int v0, .int v1, .int v2, .int v3] x P) (hP : ∀ rr y, P rr y → ∃ v, rr = some (.int v)) : sL Y mL_setRelay hL_setRelay [.ref 0, .int v0, .int v1, .int v2, .int v3, .ref 94] x (fun rr z => rr = some (.int 0) ∧ ∃ v y, P (some (.int v)) y ∧ z = (y.1, y.2.1, u2 y.2.2 94 0 v.toInt64)) := by
  refine sL_ok (by decide +kernel) (Nat.le_of_ble_eq_true rfl) (fun X h hY hR => ?_)
  subst hY
  have hT := kL_setRelay h
  repeat (refine sw_s hT rfl rfl ?_)
  refine sw_cvR hT rfl (hM) rfl rfl rfl rfl (Nat.le_of_ble_eq_true rfl) ?_
  intro rr y hp
  obtain ⟨v, rfl⟩ := hP rr y hp
  show SW X mL_setRelay 12 _ [.int v, .int 0, .ref 94] y
  repeat (refine sw_s hT rfl rfl ?_)
  refine sw_last hT rfl rfl (in01) ?_
  repeat (refine sw_s hT rfl rfl ?_)
  refine sw_iretP hT rfl rfl rfl hR ?_
  exact ⟨rfl, v, y, hp, rfl⟩
theorem wt1_setRelay {Y : Kx} (hfl : Y.1.stackTraces = false) {x : Hp} (v0 : Int32) (v1 : Int32) (v2 : Int32) (v3 : Int32) (hM : sT Y mX6_setRelay [.ref 0, .int v0, .int v1, .int v2, .int v3] x "java/lang/IllegalArgumentException") : sL Y mL_setRelay hL_setRelay [.ref 0, .int v0, .int v1, .int v2, .int v3, .ref 94] x (fun rr z => rr = some (.int 1) ∧ z = x) := by
  refine sL_thr hfl (by decide +kernel) (Nat.le_of_ble_eq_true rfl) (fun X h ht hY hR => ?_)
  subst hY
  have hT := kL_setRelay h
  repeat (refine sw_s hT rfl rfl ?_)
  refine sw_catch (n := 4) h ht hM gl_21 gl_22 gl_23 gw_27 gl_24 ⟨by decide +kernel, by decide +kernel, by decide +kernel⟩ ⟨by decide +kernel, by decide +kernel⟩ dL_setRelay_9 (rest := [.int 0, .ref 94]) rfl rfl rfl rfl (Nat.le_of_ble_eq_true rfl) [] ⟨0, 14, 17, 13⟩ [] rfl (fun y hy => absurd hy List.not_mem_nil) (by decide) (by decide) gl_89 (by decide +kernel) (Or.inl ⟨dL_setRelay_17, rfl⟩) (by decide +kernel) ?_
  refine sw_ci h (v := 1) (by decide +kernel) dL_setRelay_19 ?_
  exact ret_L h hR rfl ⟨rfl, rfl⟩ dL_setRelay_20
theorem wn_setInstantaneous {Y : Kx} {x : Hp} (v0 : Int32) (v1 : Int32) {P : Po} (hM : sR Y mX6_setInstantaneous [.ref 0, .int v0, .int v1] x P) (hP : ∀ rr y, P rr y → ∃ v, rr = some (.int v)) : sL Y mL_setInstantaneous hL_setInstantaneous [.ref 0, .int v0, .int v1, .ref 94] x (fun rr z => rr = some (.int 0) ∧ ∃ v y, P (some (.int v)) y ∧ z = (y.1, y.2.1, u2 y.2.2 94 0 v.toInt64)) := by
  refine sL_ok (by decide +kernel) (Nat.le_of_ble_eq_true rfl) (fun X h hY hR => ?_)
  subst hY
  have hT := kL_setInstantaneous h
  repeat (refine sw_s hT rfl rfl ?_)
  refine sw_cvR hT rfl (hM) rfl rfl rfl rfl (Nat.le_of_ble_eq_true rfl) ?_
  intro rr y hp
  obtain ⟨v, rfl⟩ := hP rr y hp
  show SW X mL_setInstantaneous 8 _ [.int v, .int 0, .ref 94] y
  repeat (refine sw_s hT rfl rfl ?_)
  refine sw_last hT rfl rfl (in01) ?_
  repeat (refine sw_s hT rfl rfl ?_)
  refine sw_iretP hT rfl rfl rfl hR ?_
  exact ⟨rfl, v, y, hp, rfl⟩
theorem wt1_setInstantaneous {Y : Kx} (hfl : Y.1.stackTraces = false) {x : Hp} (v0 : Int32) (v1 : Int32) (hM : sT Y mX6_setInstantaneous [.ref 0, .int v0, .int v1] x "java/lang/IllegalArgumentException") : sL Y mL_setInstantaneous hL_setInstantaneous [.ref 0, .int v0, .int v1, .ref 94] x (fun rr z => rr = some (.int 1) ∧ z = x) := by
  refine sL_thr hfl (by decide +kernel) (Nat.le_of_ble_eq_true rfl) (fun X h ht hY hR => ?_)
  subst hY
  have hT := kL_setInstantaneous h
  repeat (refine sw_s hT rfl rfl ?_)
  refine sw_catch (n := 2) h ht hM gl_25 gl_26 gl_27 gw_27 gl_28 ⟨by decide +kernel, by decide +kernel, by decide +kernel⟩ ⟨by decide +kernel, by decide +kernel⟩ dL_setInstantaneous_5 (rest := [.int 0, .ref 94]) rfl rfl rfl rfl (Nat.le_of_ble_eq_true rfl) [] ⟨0, 10, 13, 13⟩ [] rfl (fun y hy => absurd hy List.not_mem_nil) (by decide) (by decide) gl_89 (by decide +kernel) (Or.inl ⟨dL_setInstantaneous_13, rfl⟩) (by decide +kernel) ?_
  refine sw_ci h (v := 1) (by decide +kernel) dL_setInstantaneous_15 ?_
  exact ret_L h hR rfl ⟨rfl, rfl⟩ dL_setInstantaneous_16
theorem wn_setShots {Y : Kx} {x : Hp} (v0 : Int32) (v1 : Int32) {P : Po} (hM : sR Y mX6_setShots [.ref 0, .int v0, .int v1] x P) (hP : ∀ rr y, P rr y → ∃ v, rr = some (.int v)) : sL Y mL_setShots hL_setShots [.ref 0, .int v0, .int v1, .ref 94] x (fun rr z => rr = some (.int 0) ∧ ∃ v y, P (some (.int v)) y ∧ z = (y.1, y.2.1, u2 y.2.2 94 0 v.toInt64)) := by
  refine sL_ok (by decide +kernel) (Nat.le_of_ble_eq_true rfl) (fun X h hY hR => ?_)
  subst hY
  have hT := kL_setShots h
  repeat (refine sw_s hT rfl rfl ?_)
  refine sw_cvR hT rfl (hM) rfl rfl rfl rfl (Nat.le_of_ble_eq_true rfl) ?_
  intro rr y hp
  obtain ⟨v, rfl⟩ := hP rr y hp
  show SW X mL_setShots 8 _ [.int v, .int 0, .ref 94] y
  repeat (refine sw_s hT rfl rfl ?_)
  refine sw_last hT rfl rfl (in01) ?_
  repeat (refine sw_s hT rfl rfl ?_)
  refine sw_iretP hT rfl rfl rfl hR ?_
  exact ⟨rfl, v, y, hp, rfl⟩
theorem wt1_setShots {Y : Kx} (hfl : Y.1.stackTraces = false) {x : Hp} (v0 : Int32) (v1 : Int32) (hM : sT Y mX6_setShots [.ref 0, .int v0, .int v1] x "java/lang/IllegalArgumentException") : sL Y mL_setShots hL_setShots [.ref 0, .int v0, .int v1, .ref 94] x (fun rr z => rr = some (.int 1) ∧ z = x) := by
  refine sL_thr hfl (by decide +kernel) (Nat.le_of_ble_eq_true rfl) (fun X h ht hY hR => ?_)
  subst hY
  have hT := kL_setShots h
  repeat (refine sw_s hT rfl rfl ?_)
  refine sw_catch (n := 2) h ht hM gl_29 gl_30 gl_31 gw_27 gl_32 ⟨by decide +kernel, by decide +kernel, by decide +kernel⟩ ⟨by decide +kernel, by decide +kernel⟩ dL_setShots_5 (rest := [.int 0, .ref 94]) rfl rfl rfl rfl (Nat.le_of_ble_eq_true rfl) [] ⟨0, 10, 13, 13⟩ [] rfl (fun y hy => absurd hy List.not_mem_nil) (by decide) (by decide) gl_89 (by decide +kernel) (Or.inl ⟨dL_setShots_13, rfl⟩) (by decide +kernel) ?_
  refine sw_ci h (v := 1) (by decide +kernel) dL_setShots_15 ?_
  exact ret_L h hR rfl ⟨rfl, rfl⟩ dL_setShots_16
theorem wn_setStuck {Y : Kx} {x : Hp} (v0 : Int32) (v1 : Int32) {P : Po} (hM : sR Y mX6_setStuck [.ref 0, .int v0, .int v1] x P) (hP : ∀ rr y, P rr y → ∃ v, rr = some (.int v)) : sL Y mL_setStuck hL_setStuck [.ref 0, .int v0, .int v1, .ref 94] x (fun rr z => rr = some (.int 0) ∧ ∃ v y, P (some (.int v)) y ∧ z = (y.1, y.2.1, u2 y.2.2 94 0 (if v = 0 then 0 else 1))) := by
  refine sL_ok (by decide +kernel) (Nat.le_of_ble_eq_true rfl) (fun X h hY hR => ?_)
  subst hY
  have hT := kL_setStuck h
  repeat (refine sw_s hT rfl rfl ?_)
  refine sw_cvR hT rfl (hM) rfl rfl rfl rfl (Nat.le_of_ble_eq_true rfl) ?_
  intro rr y hp
  obtain ⟨v, rfl⟩ := hP rr y hp
  show SW X mL_setStuck 8 _ [.int v, .int 0, .ref 94] y
  refine sw_b hT rfl rfl (fun c => ?_) (fun c => ?_)
  · repeat (refine sw_s hT rfl rfl ?_)
    refine sw_last hT rfl rfl (in01) ?_
    repeat (refine sw_s hT rfl rfl ?_)
    refine sw_iretP hT rfl rfl rfl hR ?_
    exact ⟨rfl, v, y, hp, by rw [if_pos c]; rfl⟩
  · repeat (refine sw_s hT rfl rfl ?_)
    refine sw_last hT rfl rfl (in01) ?_
    repeat (refine sw_s hT rfl rfl ?_)
    refine sw_iretP hT rfl rfl rfl hR ?_
    exact ⟨rfl, v, y, hp, by rw [if_neg c]; rfl⟩
theorem wt1_setStuck {Y : Kx} (hfl : Y.1.stackTraces = false) {x : Hp} (v0 : Int32) (v1 : Int32) (hM : sT Y mX6_setStuck [.ref 0, .int v0, .int v1] x "java/lang/IllegalArgumentException") : sL Y mL_setStuck hL_setStuck [.ref 0, .int v0, .int v1, .ref 94] x (fun rr z => rr = some (.int 1) ∧ z = x) := by
  refine sL_thr hfl (by decide +kernel) (Nat.le_of_ble_eq_true rfl) (fun X h ht hY hR => ?_)
  subst hY
  have hT := kL_setStuck h
  repeat (refine sw_s hT rfl rfl ?_)
  refine sw_catch (n := 2) h ht hM gl_33 gl_34 gl_35 gw_27 gl_36 ⟨by decide +kernel, by decide +kernel, by decide +kernel⟩ ⟨by decide +kernel, by decide +kernel⟩ dL_setStuck_5 (rest := [.int 0, .ref 94]) rfl rfl rfl rfl (Nat.le_of_ble_eq_true rfl) [] ⟨0, 17, 20, 13⟩ [] rfl (fun y hy => absurd hy List.not_mem_nil) (by decide) (by decide) gl_89 (by decide +kernel) (Or.inl ⟨dL_setStuck_20, rfl⟩) (by decide +kernel) ?_
  refine sw_ci h (v := 1) (by decide +kernel) dL_setStuck_22 ?_
  exact ret_L h hR rfl ⟨rfl, rfl⟩ dL_setStuck_23
theorem wn_pickup {Y : Kx} {x : Hp} (v0 : Int32) {P : Po} (hM : sR Y mX6_pickup [.ref 0, .int v0] x P) (hP : ∀ rr y, P rr y → ∃ v, rr = some (.int v)) : sL Y mL_pickup hL_pickup [.ref 0, .int v0, .ref 94] x (fun rr z => rr = some (.int 0) ∧ ∃ v y, P (some (.int v)) y ∧ z = (y.1, y.2.1, u2 y.2.2 94 0 v.toInt64)) := by
  refine sL_ok (by decide +kernel) (Nat.le_of_ble_eq_true rfl) (fun X h hY hR => ?_)
  subst hY
  have hT := kL_pickup h
  repeat (refine sw_s hT rfl rfl ?_)
  refine sw_cvR hT rfl (hM) rfl rfl rfl rfl (Nat.le_of_ble_eq_true rfl) ?_
  intro rr y hp
  obtain ⟨v, rfl⟩ := hP rr y hp
  show SW X mL_pickup 7 _ [.int v, .int 0, .ref 94] y
  repeat (refine sw_s hT rfl rfl ?_)
  refine sw_last hT rfl rfl (in01) ?_
  repeat (refine sw_s hT rfl rfl ?_)
  refine sw_iretP hT rfl rfl rfl hR ?_
  exact ⟨rfl, v, y, hp, rfl⟩
theorem wt1_pickup {Y : Kx} (hfl : Y.1.stackTraces = false) {x : Hp} (v0 : Int32) (hM : sT Y mX6_pickup [.ref 0, .int v0] x "java/lang/IllegalArgumentException") : sL Y mL_pickup hL_pickup [.ref 0, .int v0, .ref 94] x (fun rr z => rr = some (.int 1) ∧ z = x) := by
  refine sL_thr hfl (by decide +kernel) (Nat.le_of_ble_eq_true rfl) (fun X h ht hY hR => ?_)
  subst hY
  have hT := kL_pickup h
  repeat (refine sw_s hT rfl rfl ?_)
  refine sw_catch (n := 1) h ht hM gl_37 gl_38 gl_39 gw_27 gl_40 ⟨by decide +kernel, by decide +kernel, by decide +kernel⟩ ⟨by decide +kernel, by decide +kernel⟩ dL_pickup_4 (rest := [.int 0, .ref 94]) rfl rfl rfl rfl (Nat.le_of_ble_eq_true rfl) [] ⟨0, 9, 12, 13⟩ [] rfl (fun y hy => absurd hy List.not_mem_nil) (by decide) (by decide) gl_89 (by decide +kernel) (Or.inr ⟨3, rfl, dL_pickup_12, rfl⟩) (by decide +kernel) ?_
  refine sw_ci h (v := 1) (by decide +kernel) dL_pickup_13 ?_
  exact ret_L h hR rfl ⟨rfl, rfl⟩ dL_pickup_14
theorem wn_steps {Y : Kx} {x : Hp} (v0 : Int32) {P : Po} (hM : sR Y mX6_steps [.ref 0, .int v0] x P) (hP : ∀ rr y, P rr y → ∃ v, rr = some (.int v)) : sL Y mL_steps hL_steps [.ref 0, .int v0, .ref 94] x (fun rr z => rr = some (.int 0) ∧ ∃ v y, P (some (.int v)) y ∧ z = (y.1, y.2.1, u2 y.2.2 94 0 v.toInt64)) := by
  refine sL_ok (by decide +kernel) (Nat.le_of_ble_eq_true rfl) (fun X h hY hR => ?_)
  subst hY
  have hT := kL_steps h
  repeat (refine sw_s hT rfl rfl ?_)
  refine sw_cvR hT rfl (hM) rfl rfl rfl rfl (Nat.le_of_ble_eq_true rfl) ?_
  intro rr y hp
  obtain ⟨v, rfl⟩ := hP rr y hp
  show SW X mL_steps 7 _ [.int v, .int 0, .ref 94] y
  repeat (refine sw_s hT rfl rfl ?_)
  refine sw_last hT rfl rfl (in01) ?_
  repeat (refine sw_s hT rfl rfl ?_)
  refine sw_iretP hT rfl rfl rfl hR ?_
  exact ⟨rfl, v, y, hp, rfl⟩
theorem wt1_steps {Y : Kx} (hfl : Y.1.stackTraces = false) {x : Hp} (v0 : Int32) (hM : sT Y mX6_steps [.ref 0, .int v0] x "java/lang/IllegalArgumentException") : sL Y mL_steps hL_steps [.ref 0, .int v0, .ref 94] x (fun rr z => rr = some (.int 1) ∧ z = x) := by
  refine sL_thr hfl (by decide +kernel) (Nat.le_of_ble_eq_true rfl) (fun X h ht hY hR => ?_)
  subst hY
  have hT := kL_steps h
  repeat (refine sw_s hT rfl rfl ?_)
  refine sw_catch (n := 1) h ht hM gl_41 gl_42 gl_43 gw_27 gl_44 ⟨by decide +kernel, by decide +kernel, by decide +kernel⟩ ⟨by decide +kernel, by decide +kernel⟩ dL_steps_4 (rest := [.int 0, .ref 94]) rfl rfl rfl rfl (Nat.le_of_ble_eq_true rfl) [] ⟨0, 9, 12, 13⟩ [] rfl (fun y hy => absurd hy List.not_mem_nil) (by decide) (by decide) gl_89 (by decide +kernel) (Or.inr ⟨3, rfl, dL_steps_12, rfl⟩) (by decide +kernel) ?_
  refine sw_ci h (v := 1) (by decide +kernel) dL_steps_13 ?_
  exact ret_L h hR rfl ⟨rfl, rfl⟩ dL_steps_14
theorem wn_upstream {Y : Kx} {x : Hp} (v0 : Int32) {P : Po} (hM : sR Y mX6_upstream [.ref 0, .int v0] x P) (hP : ∀ rr y, P rr y → ∃ v, rr = some (.int v)) : sL Y mL_upstream hL_upstream [.ref 0, .int v0, .ref 94] x (fun rr z => rr = some (.int 0) ∧ ∃ v y, P (some (.int v)) y ∧ z = (y.1, y.2.1, u2 y.2.2 94 0 v.toInt64)) := by
  refine sL_ok (by decide +kernel) (Nat.le_of_ble_eq_true rfl) (fun X h hY hR => ?_)
  subst hY
  have hT := kL_upstream h
  repeat (refine sw_s hT rfl rfl ?_)
  refine sw_cvR hT rfl (hM) rfl rfl rfl rfl (Nat.le_of_ble_eq_true rfl) ?_
  intro rr y hp
  obtain ⟨v, rfl⟩ := hP rr y hp
  show SW X mL_upstream 7 _ [.int v, .int 0, .ref 94] y
  repeat (refine sw_s hT rfl rfl ?_)
  refine sw_last hT rfl rfl (in01) ?_
  repeat (refine sw_s hT rfl rfl ?_)
  refine sw_iretP hT rfl rfl rfl hR ?_
  exact ⟨rfl, v, y, hp, rfl⟩
theorem wt1_upstream {Y : Kx} (hfl : Y.1.stackTraces = false) {x : Hp} (v0 : Int32) (hM : sT Y mX6_upstream [.ref 0, .int v0] x "java/lang/IllegalArgumentException") : sL Y mL_upstream hL_upstream [.ref 0, .int v0, .ref 94] x (fun rr z => rr = some (.int 1) ∧ z = x) := by
  refine sL_thr hfl (by decide +kernel) (Nat.le_of_ble_eq_true rfl) (fun X h ht hY hR => ?_)
  subst hY
  have hT := kL_upstream h
  repeat (refine sw_s hT rfl rfl ?_)
  refine sw_catch (n := 1) h ht hM gl_45 gl_46 gl_47 gw_27 gl_48 ⟨by decide +kernel, by decide +kernel, by decide +kernel⟩ ⟨by decide +kernel, by decide +kernel⟩ dL_upstream_4 (rest := [.int 0, .ref 94]) rfl rfl rfl rfl (Nat.le_of_ble_eq_true rfl) [] ⟨0, 9, 12, 13⟩ [] rfl (fun y hy => absurd hy List.not_mem_nil) (by decide) (by decide) gl_89 (by decide +kernel) (Or.inr ⟨3, rfl, dL_upstream_12, rfl⟩) (by decide +kernel) ?_
  refine sw_ci h (v := 1) (by decide +kernel) dL_upstream_13 ?_
  exact ret_L h hR rfl ⟨rfl, rfl⟩ dL_upstream_14
theorem wn_operatingTime {Y : Kx} {x : Hp} (v0 : Int32) (v1 : UInt64) {P : Po} (hM : sR Y mX6_operatingTime [.ref 0, .int v0, .double v1] x P) (hP : ∀ rr y, P rr y → ∃ v, rr = some (.double v)) : sL Y mL_operatingTime hL_operatingTime [.ref 0, .int v0, .double v1, .ref 95] x (fun rr z => rr = some (.int 0) ∧ ∃ v y, P (some (.double v)) y ∧ z = (y.1, u2 y.2.1 95 0 v, y.2.2)) := by
  refine sL_ok (by decide +kernel) (Nat.le_of_ble_eq_true rfl) (fun X h hY hR => ?_)
  subst hY
  have hT := kL_operatingTime h
  repeat (refine sw_s hT rfl rfl ?_)
  refine sw_cvR hT rfl (hM) rfl rfl rfl rfl (Nat.le_of_ble_eq_true rfl) ?_
  intro rr y hp
  obtain ⟨v, rfl⟩ := hP rr y hp
  show SW X mL_operatingTime 9 _ [.double v, .int 0, .ref 95] y
  refine sw_dast hT rfl rfl (in01) ?_
  repeat (refine sw_s hT rfl rfl ?_)
  refine sw_iretP hT rfl rfl rfl hR ?_
  exact ⟨rfl, v, y, hp, rfl⟩
theorem wt1_operatingTime {Y : Kx} (hfl : Y.1.stackTraces = false) {x : Hp} (v0 : Int32) (v1 : UInt64) (hM : sT Y mX6_operatingTime [.ref 0, .int v0, .double v1] x "java/lang/IllegalArgumentException") : sL Y mL_operatingTime hL_operatingTime [.ref 0, .int v0, .double v1, .ref 95] x (fun rr z => rr = some (.int 1) ∧ z = x) := by
  refine sL_thr hfl (by decide +kernel) (Nat.le_of_ble_eq_true rfl) (fun X h ht hY hR => ?_)
  subst hY
  have hT := kL_operatingTime h
  repeat (refine sw_s hT rfl rfl ?_)
  refine sw_catch (n := 2) h ht hM gl_49 gl_50 gl_51 gw_27 gl_52 ⟨by decide +kernel, by decide +kernel, by decide +kernel⟩ ⟨by decide +kernel, by decide +kernel⟩ dL_operatingTime_6 (rest := [.int 0, .ref 95]) rfl rfl rfl rfl (Nat.le_of_ble_eq_true rfl) [] ⟨0, 10, 13, 13⟩ [] rfl (fun y hy => absurd hy List.not_mem_nil) (by decide) (by decide) gl_89 (by decide +kernel) (Or.inl ⟨dL_operatingTime_13, rfl⟩) (by decide +kernel) ?_
  refine sw_ci h (v := 1) (by decide +kernel) dL_operatingTime_15 ?_
  exact ret_L h hR rfl ⟨rfl, rfl⟩ dL_operatingTime_16
theorem wn_sensitivity {Y : Kx} {x : Hp} (v0 : Int32) {P : Po} (hM : sR Y mX6_sensitivity [.ref 0, .int v0] x P) (hP : ∀ rr y, P rr y → ∃ v, rr = some (.double v)) : sL Y mL_sensitivity hL_sensitivity [.ref 0, .int v0, .ref 95] x (fun rr z => rr = some (.int 0) ∧ ∃ v y, P (some (.double v)) y ∧ z = (y.1, u2 y.2.1 95 0 v, y.2.2)) := by
  refine sL_ok (by decide +kernel) (Nat.le_of_ble_eq_true rfl) (fun X h hY hR => ?_)
  subst hY
  have hT := kL_sensitivity h
  repeat (refine sw_s hT rfl rfl ?_)
  refine sw_cvR hT rfl (hM) rfl rfl rfl rfl (Nat.le_of_ble_eq_true rfl) ?_
  intro rr y hp
  obtain ⟨v, rfl⟩ := hP rr y hp
  show SW X mL_sensitivity 7 _ [.double v, .int 0, .ref 95] y
  refine sw_dast hT rfl rfl (in01) ?_
  repeat (refine sw_s hT rfl rfl ?_)
  refine sw_iretP hT rfl rfl rfl hR ?_
  exact ⟨rfl, v, y, hp, rfl⟩
theorem wt1_sensitivity {Y : Kx} (hfl : Y.1.stackTraces = false) {x : Hp} (v0 : Int32) (hM : sT Y mX6_sensitivity [.ref 0, .int v0] x "java/lang/IllegalArgumentException") : sL Y mL_sensitivity hL_sensitivity [.ref 0, .int v0, .ref 95] x (fun rr z => rr = some (.int 1) ∧ z = x) := by
  refine sL_thr hfl (by decide +kernel) (Nat.le_of_ble_eq_true rfl) (fun X h ht hY hR => ?_)
  subst hY
  have hT := kL_sensitivity h
  repeat (refine sw_s hT rfl rfl ?_)
  refine sw_catch (n := 1) h ht hM gl_53 gl_54 gl_55 gw_27 gl_56 ⟨by decide +kernel, by decide +kernel, by decide +kernel⟩ ⟨by decide +kernel, by decide +kernel⟩ dL_sensitivity_4 (rest := [.int 0, .ref 95]) rfl rfl rfl rfl (Nat.le_of_ble_eq_true rfl) [] ⟨0, 8, 11, 13⟩ [] rfl (fun y hy => absurd hy List.not_mem_nil) (by decide) (by decide) gl_89 (by decide +kernel) (Or.inr ⟨3, rfl, dL_sensitivity_11, rfl⟩) (by decide +kernel) ?_
  refine sw_ci h (v := 1) (by decide +kernel) dL_sensitivity_12 ?_
  exact ret_L h hR rfl ⟨rfl, rfl⟩ dL_sensitivity_13
theorem wn_setMargin {Y : Kx} {x : Hp} (v0 : UInt64) {P : Po} (hM : sR Y mX6_setMargin [.ref 0, .double v0] x P) (hP : ∀ rr y, P rr y → ∃ v, rr = some (.double v)) : sL Y mL_setMargin hL_setMargin [.ref 0, .double v0, .ref 95] x (fun rr z => rr = some (.int 0) ∧ ∃ v y, P (some (.double v)) y ∧ z = (y.1, u2 y.2.1 95 0 v, y.2.2)) := by
  refine sL_ok (by decide +kernel) (Nat.le_of_ble_eq_true rfl) (fun X h hY hR => ?_)
  subst hY
  have hT := kL_setMargin h
  repeat (refine sw_s hT rfl rfl ?_)
  refine sw_cvR hT rfl (hM) rfl rfl rfl rfl (Nat.le_of_ble_eq_true rfl) ?_
  intro rr y hp
  obtain ⟨v, rfl⟩ := hP rr y hp
  show SW X mL_setMargin 7 _ [.double v, .int 0, .ref 95] y
  refine sw_dast hT rfl rfl (in01) ?_
  repeat (refine sw_s hT rfl rfl ?_)
  refine sw_iretP hT rfl rfl rfl hR ?_
  exact ⟨rfl, v, y, hp, rfl⟩
theorem wt1_setMargin {Y : Kx} (hfl : Y.1.stackTraces = false) {x : Hp} (v0 : UInt64) (hM : sT Y mX6_setMargin [.ref 0, .double v0] x "java/lang/IllegalArgumentException") : sL Y mL_setMargin hL_setMargin [.ref 0, .double v0, .ref 95] x (fun rr z => rr = some (.int 1) ∧ z = x) := by
  refine sL_thr hfl (by decide +kernel) (Nat.le_of_ble_eq_true rfl) (fun X h ht hY hR => ?_)
  subst hY
  have hT := kL_setMargin h
  repeat (refine sw_s hT rfl rfl ?_)
  refine sw_catch (n := 1) h ht hM gl_57 gl_58 gl_59 gw_27 gl_60 ⟨by decide +kernel, by decide +kernel, by decide +kernel⟩ ⟨by decide +kernel, by decide +kernel⟩ dL_setMargin_4 (rest := [.int 0, .ref 95]) rfl rfl rfl rfl (Nat.le_of_ble_eq_true rfl) [] ⟨0, 8, 11, 13⟩ [] rfl (fun y hy => absurd hy List.not_mem_nil) (by decide) (by decide) gl_89 (by decide +kernel) (Or.inl ⟨dL_setMargin_11, rfl⟩) (by decide +kernel) ?_
  refine sw_ci h (v := 1) (by decide +kernel) dL_setMargin_13 ?_
  exact ret_L h hR rfl ⟨rfl, rfl⟩ dL_setMargin_14
theorem wn_margin {Y : Kx} {x : Hp} (v0 : Int32) (v1 : Int32) {P : Po} (hM : sR Y mX6_margin [.ref 0, .int v0, .int v1] x P) (hP : ∀ rr y, P rr y → ∃ v, rr = some (.double v)) : sL Y mL_margin hL_margin [.ref 0, .int v0, .int v1, .ref 95] x (fun rr z => rr = some (.int 0) ∧ ∃ v y, P (some (.double v)) y ∧ z = (y.1, u2 y.2.1 95 0 v, y.2.2)) := by
  refine sL_ok (by decide +kernel) (Nat.le_of_ble_eq_true rfl) (fun X h hY hR => ?_)
  subst hY
  have hT := kL_margin h
  repeat (refine sw_s hT rfl rfl ?_)
  refine sw_cvR hT rfl (hM) rfl rfl rfl rfl (Nat.le_of_ble_eq_true rfl) ?_
  intro rr y hp
  obtain ⟨v, rfl⟩ := hP rr y hp
  show SW X mL_margin 8 _ [.double v, .int 0, .ref 95] y
  refine sw_dast hT rfl rfl (in01) ?_
  repeat (refine sw_s hT rfl rfl ?_)
  refine sw_iretP hT rfl rfl rfl hR ?_
  exact ⟨rfl, v, y, hp, rfl⟩
theorem wt1_margin {Y : Kx} (hfl : Y.1.stackTraces = false) {x : Hp} (v0 : Int32) (v1 : Int32) (hM : sT Y mX6_margin [.ref 0, .int v0, .int v1] x "java/lang/IllegalArgumentException") : sL Y mL_margin hL_margin [.ref 0, .int v0, .int v1, .ref 95] x (fun rr z => rr = some (.int 1) ∧ z = x) := by
  refine sL_thr hfl (by decide +kernel) (Nat.le_of_ble_eq_true rfl) (fun X h ht hY hR => ?_)
  subst hY
  have hT := kL_margin h
  repeat (refine sw_s hT rfl rfl ?_)
  refine sw_catch (n := 2) h ht hM gl_61 gl_62 gl_63 gw_27 gl_64 ⟨by decide +kernel, by decide +kernel, by decide +kernel⟩ ⟨by decide +kernel, by decide +kernel⟩ dL_margin_5 (rest := [.int 0, .ref 95]) rfl rfl rfl rfl (Nat.le_of_ble_eq_true rfl) [] ⟨0, 9, 12, 13⟩ [⟨0, 9, 16, 19⟩] rfl (fun y hy => absurd hy List.not_mem_nil) (by decide) (by decide) gl_89 (by decide +kernel) (Or.inl ⟨dL_margin_12, rfl⟩) (by decide +kernel) ?_
  refine sw_ci h (v := 1) (by decide +kernel) dL_margin_14 ?_
  exact ret_L h hR rfl ⟨rfl, rfl⟩ dL_margin_15
theorem wt2_margin {Y : Kx} (hfl : Y.1.stackTraces = false) {x : Hp} (v0 : Int32) (v1 : Int32) (hM : sT Y mX6_margin [.ref 0, .int v0, .int v1] x "java/lang/IllegalStateException") : sL Y mL_margin hL_margin [.ref 0, .int v0, .int v1, .ref 95] x (fun rr z => rr = some (.int 2) ∧ z = x) := by
  refine sL_thr hfl (by decide +kernel) (Nat.le_of_ble_eq_true rfl) (fun X h ht hY hR => ?_)
  subst hY
  have hT := kL_margin h
  repeat (refine sw_s hT rfl rfl ?_)
  refine sw_catch (n := 2) h ht hM gl_61 gl_62 gl_63 gw_27 gl_64 ⟨by decide +kernel, by decide +kernel, by decide +kernel⟩ ⟨by decide +kernel, by decide +kernel⟩ dL_margin_5 (rest := [.int 0, .ref 95]) rfl rfl rfl rfl (Nat.le_of_ble_eq_true rfl) [⟨0, 9, 12, 13⟩] ⟨0, 9, 16, 19⟩ [] rfl (fun y hy => by rw [List.mem_singleton.mp hy]; exact ⟨by decide, gl_89, rfl⟩) (by decide) (by decide) gl_90 (by decide +kernel) (Or.inl ⟨dL_margin_16, rfl⟩) (by decide +kernel) ?_
  refine sw_ci h (v := 2) (by decide +kernel) dL_margin_18 ?_
  exact ret_L h hR rfl ⟨rfl, rfl⟩ dL_margin_19
theorem wn_violation {Y : Kx} {x : Hp} (v0 : Int32) {P : Po} (hM : sR Y mX6_violation [.ref 0, .int v0] x P) (hP : ∀ rr y, P rr y → ∃ v, rr = some (.int v)) : sL Y mL_violation hL_violation [.ref 0, .int v0, .ref 94] x (fun rr z => rr = some (.int 0) ∧ ∃ v y, P (some (.int v)) y ∧ z = (y.1, y.2.1, u2 y.2.2 94 0 v.toInt64)) := by
  refine sL_ok (by decide +kernel) (Nat.le_of_ble_eq_true rfl) (fun X h hY hR => ?_)
  subst hY
  have hT := kL_violation h
  repeat (refine sw_s hT rfl rfl ?_)
  refine sw_cvR hT rfl (hM) rfl rfl rfl rfl (Nat.le_of_ble_eq_true rfl) ?_
  intro rr y hp
  obtain ⟨v, rfl⟩ := hP rr y hp
  show SW X mL_violation 7 _ [.int v, .int 0, .ref 94] y
  repeat (refine sw_s hT rfl rfl ?_)
  refine sw_last hT rfl rfl (in01) ?_
  repeat (refine sw_s hT rfl rfl ?_)
  refine sw_iretP hT rfl rfl rfl hR ?_
  exact ⟨rfl, v, y, hp, rfl⟩
theorem wt1_violation {Y : Kx} (hfl : Y.1.stackTraces = false) {x : Hp} (v0 : Int32) (hM : sT Y mX6_violation [.ref 0, .int v0] x "java/lang/IndexOutOfBoundsException") : sL Y mL_violation hL_violation [.ref 0, .int v0, .ref 94] x (fun rr z => rr = some (.int 1) ∧ z = x) := by
  refine sL_thr hfl (by decide +kernel) (Nat.le_of_ble_eq_true rfl) (fun X h ht hY hR => ?_)
  subst hY
  have hT := kL_violation h
  repeat (refine sw_s hT rfl rfl ?_)
  refine sw_catch (n := 1) h ht hM gl_65 gl_66 gl_67 gw_27 gl_68 ⟨by decide +kernel, by decide +kernel, by decide +kernel⟩ ⟨by decide +kernel, by decide +kernel⟩ dL_violation_4 (rest := [.int 0, .ref 94]) rfl rfl rfl rfl (Nat.le_of_ble_eq_true rfl) [] ⟨0, 9, 12, 74⟩ [] rfl (fun y hy => absurd hy List.not_mem_nil) (by decide) (by decide) gl_91 (by decide +kernel) (Or.inr ⟨3, rfl, dL_violation_12, rfl⟩) (by decide +kernel) ?_
  refine sw_ci h (v := 1) (by decide +kernel) dL_violation_13 ?_
  exact ret_L h hR rfl ⟨rfl, rfl⟩ dL_violation_14
theorem wn_autoPickup {Y : Kx} {x : Hp} (v0 : Int32) {P : Po} (hM : sR Y mX6_autoPickup [.ref 0, .int v0] x P) (hP : ∀ rr y, P rr y → ∃ v, rr = some (.int v)) : sL Y mL_autoPickup hL_autoPickup [.ref 0, .int v0, .ref 94] x (fun rr z => rr = some (.int 0) ∧ ∃ v y, P (some (.int v)) y ∧ z = (y.1, y.2.1, u2 y.2.2 94 0 v.toInt64)) := by
  refine sL_ok (by decide +kernel) (Nat.le_of_ble_eq_true rfl) (fun X h hY hR => ?_)
  subst hY
  have hT := kL_autoPickup h
  repeat (refine sw_s hT rfl rfl ?_)
  refine sw_cvR hT rfl (hM) rfl rfl rfl rfl (Nat.le_of_ble_eq_true rfl) ?_
  intro rr y hp
  obtain ⟨v, rfl⟩ := hP rr y hp
  show SW X mL_autoPickup 7 _ [.int v, .int 0, .ref 94] y
  repeat (refine sw_s hT rfl rfl ?_)
  refine sw_last hT rfl rfl (in01) ?_
  repeat (refine sw_s hT rfl rfl ?_)
  refine sw_iretP hT rfl rfl rfl hR ?_
  exact ⟨rfl, v, y, hp, rfl⟩
theorem wt1_autoPickup {Y : Kx} (hfl : Y.1.stackTraces = false) {x : Hp} (v0 : Int32) (hM : sT Y mX6_autoPickup [.ref 0, .int v0] x "java/lang/IllegalArgumentException") : sL Y mL_autoPickup hL_autoPickup [.ref 0, .int v0, .ref 94] x (fun rr z => rr = some (.int 1) ∧ z = x) := by
  refine sL_thr hfl (by decide +kernel) (Nat.le_of_ble_eq_true rfl) (fun X h ht hY hR => ?_)
  subst hY
  have hT := kL_autoPickup h
  repeat (refine sw_s hT rfl rfl ?_)
  refine sw_catch (n := 1) h ht hM gl_69 gl_70 gl_71 gw_27 gl_72 ⟨by decide +kernel, by decide +kernel, by decide +kernel⟩ ⟨by decide +kernel, by decide +kernel⟩ dL_autoPickup_4 (rest := [.int 0, .ref 94]) rfl rfl rfl rfl (Nat.le_of_ble_eq_true rfl) [] ⟨0, 9, 12, 13⟩ [] rfl (fun y hy => absurd hy List.not_mem_nil) (by decide) (by decide) gl_89 (by decide +kernel) (Or.inr ⟨3, rfl, dL_autoPickup_12, rfl⟩) (by decide +kernel) ?_
  refine sw_ci h (v := 1) (by decide +kernel) dL_autoPickup_13 ?_
  exact ret_L h hR rfl ⟨rfl, rfl⟩ dL_autoPickup_14
theorem wn_simulate {Y : Kx} {x : Hp} (v0 : Int32) (v1 : Int32) (v2 : UInt64) {P : Po} (hM : sR Y mX6_simulate [.ref 0, .int v0, .int v1, .double v2] x P) (hP : ∀ rr y, P rr y → ∃ v, rr = some (.int v)) : sL Y mL_simulate hL_simulate [.ref 0, .int v0, .int v1, .double v2, .ref 94] x (fun rr z => rr = some (.int 0) ∧ ∃ v y, P (some (.int v)) y ∧ z = (y.1, y.2.1, u2 y.2.2 94 0 v.toInt64)) := by
  refine sL_ok (by decide +kernel) (Nat.le_of_ble_eq_true rfl) (fun X h hY hR => ?_)
  subst hY
  have hT := kL_simulate h
  repeat (refine sw_s hT rfl rfl ?_)
  refine sw_cvR hT rfl (hM) rfl rfl rfl rfl (Nat.le_of_ble_eq_true rfl) ?_
  intro rr y hp
  obtain ⟨v, rfl⟩ := hP rr y hp
  show SW X mL_simulate 10 _ [.int v, .int 0, .ref 94] y
  repeat (refine sw_s hT rfl rfl ?_)
  refine sw_last hT rfl rfl (in01) ?_
  repeat (refine sw_s hT rfl rfl ?_)
  refine sw_iretP hT rfl rfl rfl hR ?_
  exact ⟨rfl, v, y, hp, rfl⟩
theorem wt1_simulate {Y : Kx} (hfl : Y.1.stackTraces = false) {x : Hp} (v0 : Int32) (v1 : Int32) (v2 : UInt64) (hM : sT Y mX6_simulate [.ref 0, .int v0, .int v1, .double v2] x "java/lang/IllegalArgumentException") : sL Y mL_simulate hL_simulate [.ref 0, .int v0, .int v1, .double v2, .ref 94] x (fun rr z => rr = some (.int 1) ∧ z = x) := by
  refine sL_thr hfl (by decide +kernel) (Nat.le_of_ble_eq_true rfl) (fun X h ht hY hR => ?_)
  subst hY
  have hT := kL_simulate h
  repeat (refine sw_s hT rfl rfl ?_)
  refine sw_catch (n := 3) h ht hM gl_73 gl_74 gl_75 gw_27 gl_76 ⟨by decide +kernel, by decide +kernel, by decide +kernel⟩ ⟨by decide +kernel, by decide +kernel⟩ dL_simulate_7 (rest := [.int 0, .ref 94]) rfl rfl rfl rfl (Nat.le_of_ble_eq_true rfl) [] ⟨0, 12, 15, 13⟩ [] rfl (fun y hy => absurd hy List.not_mem_nil) (by decide) (by decide) gl_89 (by decide +kernel) (Or.inl ⟨dL_simulate_15, rfl⟩) (by decide +kernel) ?_
  refine sw_ci h (v := 1) (by decide +kernel) dL_simulate_17 ?_
  exact ret_L h hR rfl ⟨rfl, rfl⟩ dL_simulate_18
theorem wn_event {Y : Kx} {x : Hp} (v0 : Int32) {P : Po} (hM : sR Y mX6_event [.ref 0, .int v0] x P) (hP : ∀ rr y, P rr y → ∃ v, rr = some (.int v)) : sL Y mL_event hL_event [.ref 0, .int v0, .ref 94] x (fun rr z => rr = some (.int 0) ∧ ∃ v y, P (some (.int v)) y ∧ z = (y.1, y.2.1, u2 y.2.2 94 0 v.toInt64)) := by
  refine sL_ok (by decide +kernel) (Nat.le_of_ble_eq_true rfl) (fun X h hY hR => ?_)
  subst hY
  have hT := kL_event h
  repeat (refine sw_s hT rfl rfl ?_)
  refine sw_cvR hT rfl (hM) rfl rfl rfl rfl (Nat.le_of_ble_eq_true rfl) ?_
  intro rr y hp
  obtain ⟨v, rfl⟩ := hP rr y hp
  show SW X mL_event 7 _ [.int v, .int 0, .ref 94] y
  repeat (refine sw_s hT rfl rfl ?_)
  refine sw_last hT rfl rfl (in01) ?_
  repeat (refine sw_s hT rfl rfl ?_)
  refine sw_iretP hT rfl rfl rfl hR ?_
  exact ⟨rfl, v, y, hp, rfl⟩
theorem wt1_event {Y : Kx} (hfl : Y.1.stackTraces = false) {x : Hp} (v0 : Int32) (hM : sT Y mX6_event [.ref 0, .int v0] x "java/lang/IndexOutOfBoundsException") : sL Y mL_event hL_event [.ref 0, .int v0, .ref 94] x (fun rr z => rr = some (.int 1) ∧ z = x) := by
  refine sL_thr hfl (by decide +kernel) (Nat.le_of_ble_eq_true rfl) (fun X h ht hY hR => ?_)
  subst hY
  have hT := kL_event h
  repeat (refine sw_s hT rfl rfl ?_)
  refine sw_catch (n := 1) h ht hM gl_77 gl_78 gl_79 gw_27 gl_80 ⟨by decide +kernel, by decide +kernel, by decide +kernel⟩ ⟨by decide +kernel, by decide +kernel⟩ dL_event_4 (rest := [.int 0, .ref 94]) rfl rfl rfl rfl (Nat.le_of_ble_eq_true rfl) [] ⟨0, 9, 12, 74⟩ [] rfl (fun y hy => absurd hy List.not_mem_nil) (by decide) (by decide) gl_91 (by decide +kernel) (Or.inr ⟨3, rfl, dL_event_12, rfl⟩) (by decide +kernel) ?_
  refine sw_ci h (v := 1) (by decide +kernel) dL_event_13 ?_
  exact ret_L h hR rfl ⟨rfl, rfl⟩ dL_event_14
theorem wn_eventTime {Y : Kx} {x : Hp} (v0 : Int32) {P : Po} (hM : sR Y mX6_eventTime [.ref 0, .int v0] x P) (hP : ∀ rr y, P rr y → ∃ v, rr = some (.double v)) : sL Y mL_eventTime hL_eventTime [.ref 0, .int v0, .ref 95] x (fun rr z => rr = some (.int 0) ∧ ∃ v y, P (some (.double v)) y ∧ z = (y.1, u2 y.2.1 95 0 v, y.2.2)) := by
  refine sL_ok (by decide +kernel) (Nat.le_of_ble_eq_true rfl) (fun X h hY hR => ?_)
  subst hY
  have hT := kL_eventTime h
  repeat (refine sw_s hT rfl rfl ?_)
  refine sw_cvR hT rfl (hM) rfl rfl rfl rfl (Nat.le_of_ble_eq_true rfl) ?_
  intro rr y hp
  obtain ⟨v, rfl⟩ := hP rr y hp
  show SW X mL_eventTime 7 _ [.double v, .int 0, .ref 95] y
  refine sw_dast hT rfl rfl (in01) ?_
  repeat (refine sw_s hT rfl rfl ?_)
  refine sw_iretP hT rfl rfl rfl hR ?_
  exact ⟨rfl, v, y, hp, rfl⟩
theorem wt1_eventTime {Y : Kx} (hfl : Y.1.stackTraces = false) {x : Hp} (v0 : Int32) (hM : sT Y mX6_eventTime [.ref 0, .int v0] x "java/lang/IndexOutOfBoundsException") : sL Y mL_eventTime hL_eventTime [.ref 0, .int v0, .ref 95] x (fun rr z => rr = some (.int 1) ∧ z = x) := by
  refine sL_thr hfl (by decide +kernel) (Nat.le_of_ble_eq_true rfl) (fun X h ht hY hR => ?_)
  subst hY
  have hT := kL_eventTime h
  repeat (refine sw_s hT rfl rfl ?_)
  refine sw_catch (n := 1) h ht hM gl_81 gl_82 gl_83 gw_27 gl_84 ⟨by decide +kernel, by decide +kernel, by decide +kernel⟩ ⟨by decide +kernel, by decide +kernel⟩ dL_eventTime_4 (rest := [.int 0, .ref 95]) rfl rfl rfl rfl (Nat.le_of_ble_eq_true rfl) [] ⟨0, 8, 11, 74⟩ [] rfl (fun y hy => absurd hy List.not_mem_nil) (by decide) (by decide) gl_91 (by decide +kernel) (Or.inr ⟨3, rfl, dL_eventTime_11, rfl⟩) (by decide +kernel) ?_
  refine sw_ci h (v := 1) (by decide +kernel) dL_eventTime_12 ?_
  exact ret_L h hR rfl ⟨rfl, rfl⟩ dL_eventTime_13
theorem wn_undo {Y : Kx} {x : Hp}  {P : Po} (hM : sR Y mX6_undo [.ref 0] x P) (hP : ∀ rr y, P rr y → ∃ v, rr = some (.int v)) : sL Y mL_undo hL_undo [.ref 0, .ref 94] x (fun rr z => rr = some (.int 0) ∧ ∃ v y, P (some (.int v)) y ∧ z = (y.1, y.2.1, u2 y.2.2 94 0 v.toInt64)) := by
  refine sL_ok (by decide +kernel) (Nat.le_of_ble_eq_true rfl) (fun X h hY hR => ?_)
  subst hY
  have hT := kL_undo h
  repeat (refine sw_s hT rfl rfl ?_)
  refine sw_cvR hT rfl (hM) rfl rfl rfl rfl (Nat.le_of_ble_eq_true rfl) ?_
  intro rr y hp
  obtain ⟨v, rfl⟩ := hP rr y hp
  show SW X mL_undo 6 _ [.int v, .int 0, .ref 94] y
  repeat (refine sw_s hT rfl rfl ?_)
  refine sw_last hT rfl rfl (in01) ?_
  repeat (refine sw_s hT rfl rfl ?_)
  refine sw_iretP hT rfl rfl rfl hR ?_
  exact ⟨rfl, v, y, hp, rfl⟩
theorem wt1_undo {Y : Kx} (hfl : Y.1.stackTraces = false) {x : Hp}  (hM : sT Y mX6_undo [.ref 0] x "java/lang/IllegalStateException") : sL Y mL_undo hL_undo [.ref 0, .ref 94] x (fun rr z => rr = some (.int 1) ∧ z = x) := by
  refine sL_thr hfl (by decide +kernel) (Nat.le_of_ble_eq_true rfl) (fun X h ht hY hR => ?_)
  subst hY
  have hT := kL_undo h
  repeat (refine sw_s hT rfl rfl ?_)
  refine sw_catch (n := 0) h ht hM gl_85 gl_86 gl_87 gw_27 gl_88 ⟨by decide +kernel, by decide +kernel, by decide +kernel⟩ ⟨by decide +kernel, by decide +kernel⟩ dL_undo_3 (rest := [.int 0, .ref 94]) rfl rfl rfl rfl (Nat.le_of_ble_eq_true rfl) [] ⟨0, 8, 11, 19⟩ [] rfl (fun y hy => absurd hy List.not_mem_nil) (by decide) (by decide) gl_90 (by decide +kernel) (Or.inr ⟨2, rfl, dL_undo_11, rfl⟩) (by decide +kernel) ?_
  refine sw_ci h (v := 1) (by decide +kernel) dL_undo_12 ?_
  exact ret_L h hR rfl ⟨rfl, rfl⟩ dL_undo_13
