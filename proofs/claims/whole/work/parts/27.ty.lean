/-! the throw sites of FeederProtection, and its calls of methods that throw -/
theorem ths_X6_setSource_13 {X : Ctx} (h : sCx X mX6_setSource) (ht : tCx X) {ls : Lo} {x : Hp} (hR : retT X "java/lang/IllegalArgumentException" x) : SW X mX6_setSource 13 ls [] x :=
  sw_throwS h ht (text := "the voltage is out of range") rfl (by decide +kernel) cl_42 in_42 (by decide +kernel) (fun _ _ => at_all_42) go_42 (by decide +kernel) dX6_setSource_13 dX6_setSource_16 dX6_setSource_17 dX6_setSource_19 dX6_setSource_22 hR
theorem thc_X6_setSource_24 {X : Ctx} (h : sCx X mX6_setSource) (ht : tCx X) {ls : Lo} {v : UInt64} {x : Hp} {E : String} (hM : sT (xk X) mX6_requireImpedance [.double v] x E) (hR : retT X E x) : SW X mX6_setSource 24 ls [.double v] x :=
  sw_tS (n := 1) h ht hM gw_167 gw_168 gw_27 gw_169 ⟨by decide +kernel, by decide +kernel, by decide +kernel⟩ ⟨by decide +kernel, by decide +kernel⟩ dX6_setSource_24 (rest := []) rfl rfl (Nat.le_of_ble_eq_true rfl) hR rfl
theorem ths_X6_addLine_18 {X : Ctx} (h : sCx X mX6_addLine) (ht : tCx X) {ls : Lo} {x : Hp} (hR : retT X "java/lang/IllegalArgumentException" x) : SW X mX6_addLine 18 ls [] x :=
  sw_throwS h ht (text := "there is no such bus") rfl (by decide +kernel) cl_42 in_42 (by decide +kernel) (fun _ _ => at_all_42) go_42 (by decide +kernel) dX6_addLine_18 dX6_addLine_21 dX6_addLine_22 dX6_addLine_24 dX6_addLine_27 hR
theorem thc_X6_addLine_29 {X : Ctx} (h : sCx X mX6_addLine) (ht : tCx X) {ls : Lo} {v : UInt64} {x : Hp} {E : String} (hM : sT (xk X) mX6_requireImpedance [.double v] x E) (hR : retT X E x) : SW X mX6_addLine 29 ls [.double v] x :=
  sw_tS (n := 1) h ht hM gw_167 gw_168 gw_27 gw_169 ⟨by decide +kernel, by decide +kernel, by decide +kernel⟩ ⟨by decide +kernel, by decide +kernel⟩ dX6_addLine_29 (rest := []) rfl rfl (Nat.le_of_ble_eq_true rfl) hR rfl
theorem ths_X6_addLine_47 {X : Ctx} (h : sCx X mX6_addLine) (ht : tCx X) {ls : Lo} {x : Hp} (hR : retT X "java/lang/IllegalStateException" x) : SW X mX6_addLine 47 ls [] x :=
  sw_throwS h ht (text := "there is no room for another line") rfl (by decide +kernel) cl_79 in_79 (by decide +kernel) (fun _ _ => at_all_79) go_79 (by decide +kernel) dX6_addLine_47 dX6_addLine_50 dX6_addLine_51 dX6_addLine_53 dX6_addLine_56 hR
theorem ths_X6_setLoad_18 {X : Ctx} (h : sCx X mX6_setLoad) (ht : tCx X) {ls : Lo} {x : Hp} (hR : retT X "java/lang/IllegalArgumentException" x) : SW X mX6_setLoad 18 ls [] x :=
  sw_throwS h ht (text := "there is no such bus with a load") rfl (by decide +kernel) cl_42 in_42 (by decide +kernel) (fun _ _ => at_all_42) go_42 (by decide +kernel) dX6_setLoad_18 dX6_setLoad_21 dX6_setLoad_22 dX6_setLoad_24 dX6_setLoad_27 hR
theorem ths_X6_setLoad_39 {X : Ctx} (h : sCx X mX6_setLoad) (ht : tCx X) {ls : Lo} {x : Hp} (hR : retT X "java/lang/IllegalArgumentException" x) : SW X mX6_setLoad 39 ls [] x :=
  sw_throwS h ht (text := "the load is out of range") rfl (by decide +kernel) cl_42 in_42 (by decide +kernel) (fun _ _ => at_all_42) go_42 (by decide +kernel) dX6_setLoad_39 dX6_setLoad_42 dX6_setLoad_43 dX6_setLoad_45 dX6_setLoad_48 hR
theorem thc_X6_loadCurrent_2 {X : Ctx} (h : sCx X mX6_loadCurrent) (ht : tCx X) {ls : Lo} {v : Int32} {x : Hp} {E : String} (hM : sT (xk X) mX6_requireLine [.ref 0, .int v] x E) (hR : retT X E x) : SW X mX6_loadCurrent 2 ls [.int v, .ref 0] x :=
  sw_tV (n := 1) h ht hM gw_189 gw_190 gw_191 gw_27 gw_192 ⟨by decide +kernel, by decide +kernel, by decide +kernel⟩ ⟨by decide +kernel, by decide +kernel⟩ dX6_loadCurrent_2 (rest := []) rfl rfl rfl rfl (Nat.le_of_ble_eq_true rfl) hR
theorem thc_X6_faultCurrent_2 {X : Ctx} (h : sCx X mX6_faultCurrent) (ht : tCx X) {ls : Lo} {v : Int32} {x : Hp} {E : String} (hM : sT (xk X) mX6_requireLine [.ref 0, .int v] x E) (hR : retT X E x) : SW X mX6_faultCurrent 2 ls [.int v, .ref 0] x :=
  sw_tV (n := 1) h ht hM gw_189 gw_190 gw_191 gw_27 gw_192 ⟨by decide +kernel, by decide +kernel, by decide +kernel⟩ ⟨by decide +kernel, by decide +kernel⟩ dX6_faultCurrent_2 (rest := []) rfl rfl rfl rfl (Nat.le_of_ble_eq_true rfl) hR
theorem thc_X6_faultCurrent_6 {X : Ctx} (h : sCx X mX6_faultCurrent) (ht : tCx X) {ls : Lo} {v : Int32} {x : Hp} {E : String} (hM : sT (xk X) mX6_requirePlace [.int v] x E) (hR : retT X E x) : SW X mX6_faultCurrent 6 ls [.int v] x :=
  sw_tS (n := 1) h ht hM gw_197 gw_198 gw_27 gw_199 ⟨by decide +kernel, by decide +kernel, by decide +kernel⟩ ⟨by decide +kernel, by decide +kernel⟩ dX6_faultCurrent_6 (rest := []) rfl rfl (Nat.le_of_ble_eq_true rfl) hR rfl
theorem thc_X6_setRelay_2 {X : Ctx} (h : sCx X mX6_setRelay) (ht : tCx X) {ls : Lo} {v : Int32} {x : Hp} {E : String} (hM : sT (xk X) mX6_requireLine [.ref 0, .int v] x E) (hR : retT X E x) : SW X mX6_setRelay 2 ls [.int v, .ref 0] x :=
  sw_tV (n := 1) h ht hM gw_189 gw_190 gw_191 gw_27 gw_192 ⟨by decide +kernel, by decide +kernel, by decide +kernel⟩ ⟨by decide +kernel, by decide +kernel⟩ dX6_setRelay_2 (rest := []) rfl rfl rfl rfl (Nat.le_of_ble_eq_true rfl) hR
theorem ths_X6_setRelay_16 {X : Ctx} (h : sCx X mX6_setRelay) (ht : tCx X) {ls : Lo} {x : Hp} (hR : retT X "java/lang/IllegalArgumentException" x) : SW X mX6_setRelay 16 ls [] x :=
  sw_throwS h ht (text := "the pickup current is out of range") rfl (by decide +kernel) cl_42 in_42 (by decide +kernel) (fun _ _ => at_all_42) go_42 (by decide +kernel) dX6_setRelay_16 dX6_setRelay_19 dX6_setRelay_20 dX6_setRelay_22 dX6_setRelay_25 hR
theorem ths_X6_setRelay_35 {X : Ctx} (h : sCx X mX6_setRelay) (ht : tCx X) {ls : Lo} {x : Hp} (hR : retT X "java/lang/IllegalArgumentException" x) : SW X mX6_setRelay 35 ls [] x :=
  sw_throwS h ht (text := "there is no such curve") rfl (by decide +kernel) cl_42 in_42 (by decide +kernel) (fun _ _ => at_all_42) go_42 (by decide +kernel) dX6_setRelay_35 dX6_setRelay_38 dX6_setRelay_39 dX6_setRelay_41 dX6_setRelay_44 hR
theorem ths_X6_setRelay_56 {X : Ctx} (h : sCx X mX6_setRelay) (ht : tCx X) {ls : Lo} {x : Hp} (hR : retT X "java/lang/IllegalArgumentException" x) : SW X mX6_setRelay 56 ls [] x :=
  sw_throwS h ht (text := "the number of time steps is out of range") rfl (by decide +kernel) cl_42 in_42 (by decide +kernel) (fun _ _ => at_all_42) go_42 (by decide +kernel) dX6_setRelay_56 dX6_setRelay_59 dX6_setRelay_60 dX6_setRelay_62 dX6_setRelay_65 hR
theorem thc_X6_setInstantaneous_2 {X : Ctx} (h : sCx X mX6_setInstantaneous) (ht : tCx X) {ls : Lo} {v : Int32} {x : Hp} {E : String} (hM : sT (xk X) mX6_requireLine [.ref 0, .int v] x E) (hR : retT X E x) : SW X mX6_setInstantaneous 2 ls [.int v, .ref 0] x :=
  sw_tV (n := 1) h ht hM gw_189 gw_190 gw_191 gw_27 gw_192 ⟨by decide +kernel, by decide +kernel, by decide +kernel⟩ ⟨by decide +kernel, by decide +kernel⟩ dX6_setInstantaneous_2 (rest := []) rfl rfl rfl rfl (Nat.le_of_ble_eq_true rfl) hR
theorem ths_X6_setInstantaneous_15 {X : Ctx} (h : sCx X mX6_setInstantaneous) (ht : tCx X) {ls : Lo} {x : Hp} (hR : retT X "java/lang/IllegalArgumentException" x) : SW X mX6_setInstantaneous 15 ls [] x :=
  sw_throwS h ht (text := "the instantaneous pickup is out of range") rfl (by decide +kernel) cl_42 in_42 (by decide +kernel) (fun _ _ => at_all_42) go_42 (by decide +kernel) dX6_setInstantaneous_15 dX6_setInstantaneous_18 dX6_setInstantaneous_19 dX6_setInstantaneous_21 dX6_setInstantaneous_24 hR
theorem thc_X6_setShots_2 {X : Ctx} (h : sCx X mX6_setShots) (ht : tCx X) {ls : Lo} {v : Int32} {x : Hp} {E : String} (hM : sT (xk X) mX6_requireLine [.ref 0, .int v] x E) (hR : retT X E x) : SW X mX6_setShots 2 ls [.int v, .ref 0] x :=
  sw_tV (n := 1) h ht hM gw_189 gw_190 gw_191 gw_27 gw_192 ⟨by decide +kernel, by decide +kernel, by decide +kernel⟩ ⟨by decide +kernel, by decide +kernel⟩ dX6_setShots_2 (rest := []) rfl rfl rfl rfl (Nat.le_of_ble_eq_true rfl) hR
theorem ths_X6_setShots_14 {X : Ctx} (h : sCx X mX6_setShots) (ht : tCx X) {ls : Lo} {x : Hp} (hR : retT X "java/lang/IllegalArgumentException" x) : SW X mX6_setShots 14 ls [] x :=
  sw_throwS h ht (text := "the number of shots is out of range") rfl (by decide +kernel) cl_42 in_42 (by decide +kernel) (fun _ _ => at_all_42) go_42 (by decide +kernel) dX6_setShots_14 dX6_setShots_17 dX6_setShots_18 dX6_setShots_20 dX6_setShots_23 hR
theorem thc_X6_setStuck_2 {X : Ctx} (h : sCx X mX6_setStuck) (ht : tCx X) {ls : Lo} {v : Int32} {x : Hp} {E : String} (hM : sT (xk X) mX6_requireLine [.ref 0, .int v] x E) (hR : retT X E x) : SW X mX6_setStuck 2 ls [.int v, .ref 0] x :=
  sw_tV (n := 1) h ht hM gw_189 gw_190 gw_191 gw_27 gw_192 ⟨by decide +kernel, by decide +kernel, by decide +kernel⟩ ⟨by decide +kernel, by decide +kernel⟩ dX6_setStuck_2 (rest := []) rfl rfl rfl rfl (Nat.le_of_ble_eq_true rfl) hR
theorem thc_X6_pickup_2 {X : Ctx} (h : sCx X mX6_pickup) (ht : tCx X) {ls : Lo} {v : Int32} {x : Hp} {E : String} (hM : sT (xk X) mX6_requireLine [.ref 0, .int v] x E) (hR : retT X E x) : SW X mX6_pickup 2 ls [.int v, .ref 0] x :=
  sw_tV (n := 1) h ht hM gw_189 gw_190 gw_191 gw_27 gw_192 ⟨by decide +kernel, by decide +kernel, by decide +kernel⟩ ⟨by decide +kernel, by decide +kernel⟩ dX6_pickup_2 (rest := []) rfl rfl rfl rfl (Nat.le_of_ble_eq_true rfl) hR
theorem thc_X6_steps_2 {X : Ctx} (h : sCx X mX6_steps) (ht : tCx X) {ls : Lo} {v : Int32} {x : Hp} {E : String} (hM : sT (xk X) mX6_requireLine [.ref 0, .int v] x E) (hR : retT X E x) : SW X mX6_steps 2 ls [.int v, .ref 0] x :=
  sw_tV (n := 1) h ht hM gw_189 gw_190 gw_191 gw_27 gw_192 ⟨by decide +kernel, by decide +kernel, by decide +kernel⟩ ⟨by decide +kernel, by decide +kernel⟩ dX6_steps_2 (rest := []) rfl rfl rfl rfl (Nat.le_of_ble_eq_true rfl) hR
theorem thc_X6_upstream_2 {X : Ctx} (h : sCx X mX6_upstream) (ht : tCx X) {ls : Lo} {v : Int32} {x : Hp} {E : String} (hM : sT (xk X) mX6_requireLine [.ref 0, .int v] x E) (hR : retT X E x) : SW X mX6_upstream 2 ls [.int v, .ref 0] x :=
  sw_tV (n := 1) h ht hM gw_189 gw_190 gw_191 gw_27 gw_192 ⟨by decide +kernel, by decide +kernel, by decide +kernel⟩ ⟨by decide +kernel, by decide +kernel⟩ dX6_upstream_2 (rest := []) rfl rfl rfl rfl (Nat.le_of_ble_eq_true rfl) hR
theorem thc_X6_operatingTime_2 {X : Ctx} (h : sCx X mX6_operatingTime) (ht : tCx X) {ls : Lo} {v : Int32} {x : Hp} {E : String} (hM : sT (xk X) mX6_requireLine [.ref 0, .int v] x E) (hR : retT X E x) : SW X mX6_operatingTime 2 ls [.int v, .ref 0] x :=
  sw_tV (n := 1) h ht hM gw_189 gw_190 gw_191 gw_27 gw_192 ⟨by decide +kernel, by decide +kernel, by decide +kernel⟩ ⟨by decide +kernel, by decide +kernel⟩ dX6_operatingTime_2 (rest := []) rfl rfl rfl rfl (Nat.le_of_ble_eq_true rfl) hR
theorem ths_X6_operatingTime_16 {X : Ctx} (h : sCx X mX6_operatingTime) (ht : tCx X) {ls : Lo} {x : Hp} (hR : retT X "java/lang/IllegalArgumentException" x) : SW X mX6_operatingTime 16 ls [] x :=
  sw_throwS h ht (text := "the current is out of range") rfl (by decide +kernel) cl_42 in_42 (by decide +kernel) (fun _ _ => at_all_42) go_42 (by decide +kernel) dX6_operatingTime_16 dX6_operatingTime_19 dX6_operatingTime_20 dX6_operatingTime_22 dX6_operatingTime_25 hR
theorem thc_X6_sensitivity_2 {X : Ctx} (h : sCx X mX6_sensitivity) (ht : tCx X) {ls : Lo} {v : Int32} {x : Hp} {E : String} (hM : sT (xk X) mX6_requireLine [.ref 0, .int v] x E) (hR : retT X E x) : SW X mX6_sensitivity 2 ls [.int v, .ref 0] x :=
  sw_tV (n := 1) h ht hM gw_189 gw_190 gw_191 gw_27 gw_192 ⟨by decide +kernel, by decide +kernel, by decide +kernel⟩ ⟨by decide +kernel, by decide +kernel⟩ dX6_sensitivity_2 (rest := []) rfl rfl rfl rfl (Nat.le_of_ble_eq_true rfl) hR
theorem ths_X6_setMargin_13 {X : Ctx} (h : sCx X mX6_setMargin) (ht : tCx X) {ls : Lo} {x : Hp} (hR : retT X "java/lang/IllegalArgumentException" x) : SW X mX6_setMargin 13 ls [] x :=
  sw_throwS h ht (text := "the required margin is out of range") rfl (by decide +kernel) cl_42 in_42 (by decide +kernel) (fun _ _ => at_all_42) go_42 (by decide +kernel) dX6_setMargin_13 dX6_setMargin_16 dX6_setMargin_17 dX6_setMargin_19 dX6_setMargin_22 hR
theorem thc_X6_margin_2 {X : Ctx} (h : sCx X mX6_margin) (ht : tCx X) {ls : Lo} {v : Int32} {x : Hp} {E : String} (hM : sT (xk X) mX6_requireLine [.ref 0, .int v] x E) (hR : retT X E x) : SW X mX6_margin 2 ls [.int v, .ref 0] x :=
  sw_tV (n := 1) h ht hM gw_189 gw_190 gw_191 gw_27 gw_192 ⟨by decide +kernel, by decide +kernel, by decide +kernel⟩ ⟨by decide +kernel, by decide +kernel⟩ dX6_margin_2 (rest := []) rfl rfl rfl rfl (Nat.le_of_ble_eq_true rfl) hR
theorem thc_X6_margin_6 {X : Ctx} (h : sCx X mX6_margin) (ht : tCx X) {ls : Lo} {v : Int32} {x : Hp} {E : String} (hM : sT (xk X) mX6_requirePlace [.int v] x E) (hR : retT X E x) : SW X mX6_margin 6 ls [.int v] x :=
  sw_tS (n := 1) h ht hM gw_197 gw_198 gw_27 gw_199 ⟨by decide +kernel, by decide +kernel, by decide +kernel⟩ ⟨by decide +kernel, by decide +kernel⟩ dX6_margin_6 (rest := []) rfl rfl (Nat.le_of_ble_eq_true rfl) hR rfl
theorem ths_X6_margin_24 {X : Ctx} (h : sCx X mX6_margin) (ht : tCx X) {ls : Lo} {x : Hp} (hR : retT X "java/lang/IllegalStateException" x) : SW X mX6_margin 24 ls [] x :=
  sw_throwS h ht (text := "the relay has no upstream relay") rfl (by decide +kernel) cl_79 in_79 (by decide +kernel) (fun _ _ => at_all_79) go_79 (by decide +kernel) dX6_margin_24 dX6_margin_27 dX6_margin_28 dX6_margin_30 dX6_margin_33 hR
theorem ths_X6_violation_22 {X : Ctx} (h : sCx X mX6_violation) (ht : tCx X) {ls : Lo} {x : Hp} (hR : retT X "java/lang/IndexOutOfBoundsException" x) : SW X mX6_violation 22 ls [] x :=
  sw_throwS h ht (text := "there is no such violation") rfl (by decide +kernel) cl_185 in_185 (by decide +kernel) (fun _ _ => at_all_185) go_185 (by decide +kernel) dX6_violation_22 dX6_violation_25 dX6_violation_26 dX6_violation_28 dX6_violation_31 hR
theorem ths_X6_autoPickup_12 {X : Ctx} (h : sCx X mX6_autoPickup) (ht : tCx X) {ls : Lo} {x : Hp} (hR : retT X "java/lang/IllegalArgumentException" x) : SW X mX6_autoPickup 12 ls [] x :=
  sw_throwS h ht (text := "the percentage is out of range") rfl (by decide +kernel) cl_42 in_42 (by decide +kernel) (fun _ _ => at_all_42) go_42 (by decide +kernel) dX6_autoPickup_12 dX6_autoPickup_15 dX6_autoPickup_16 dX6_autoPickup_18 dX6_autoPickup_21 hR
theorem thc_X6_simulate_2 {X : Ctx} (h : sCx X mX6_simulate) (ht : tCx X) {ls : Lo} {v : Int32} {x : Hp} {E : String} (hM : sT (xk X) mX6_requireLine [.ref 0, .int v] x E) (hR : retT X E x) : SW X mX6_simulate 2 ls [.int v, .ref 0] x :=
  sw_tV (n := 1) h ht hM gw_189 gw_190 gw_191 gw_27 gw_192 ⟨by decide +kernel, by decide +kernel, by decide +kernel⟩ ⟨by decide +kernel, by decide +kernel⟩ dX6_simulate_2 (rest := []) rfl rfl rfl rfl (Nat.le_of_ble_eq_true rfl) hR
theorem thc_X6_simulate_6 {X : Ctx} (h : sCx X mX6_simulate) (ht : tCx X) {ls : Lo} {v : Int32} {x : Hp} {E : String} (hM : sT (xk X) mX6_requirePlace [.int v] x E) (hR : retT X E x) : SW X mX6_simulate 6 ls [.int v] x :=
  sw_tS (n := 1) h ht hM gw_197 gw_198 gw_27 gw_199 ⟨by decide +kernel, by decide +kernel, by decide +kernel⟩ ⟨by decide +kernel, by decide +kernel⟩ dX6_simulate_6 (rest := []) rfl rfl (Nat.le_of_ble_eq_true rfl) hR rfl
theorem ths_X6_simulate_22 {X : Ctx} (h : sCx X mX6_simulate) (ht : tCx X) {ls : Lo} {x : Hp} (hR : retT X "java/lang/IllegalArgumentException" x) : SW X mX6_simulate 22 ls [] x :=
  sw_throwS h ht (text := "the duration is out of range") rfl (by decide +kernel) cl_42 in_42 (by decide +kernel) (fun _ _ => at_all_42) go_42 (by decide +kernel) dX6_simulate_22 dX6_simulate_25 dX6_simulate_26 dX6_simulate_28 dX6_simulate_31 hR
theorem thc_X6_event_2 {X : Ctx} (h : sCx X mX6_event) (ht : tCx X) {ls : Lo} {v : Int32} {x : Hp} {E : String} (hM : sT (xk X) mX6_requireEvent [.ref 0, .int v] x E) (hR : retT X E x) : SW X mX6_event 2 ls [.int v, .ref 0] x :=
  sw_tV (n := 1) h ht hM gw_244 gw_245 gw_246 gw_27 gw_247 ⟨by decide +kernel, by decide +kernel, by decide +kernel⟩ ⟨by decide +kernel, by decide +kernel⟩ dX6_event_2 (rest := []) rfl rfl rfl rfl (Nat.le_of_ble_eq_true rfl) hR
theorem thc_X6_eventTime_2 {X : Ctx} (h : sCx X mX6_eventTime) (ht : tCx X) {ls : Lo} {v : Int32} {x : Hp} {E : String} (hM : sT (xk X) mX6_requireEvent [.ref 0, .int v] x E) (hR : retT X E x) : SW X mX6_eventTime 2 ls [.int v, .ref 0] x :=
  sw_tV (n := 1) h ht hM gw_244 gw_245 gw_246 gw_27 gw_247 ⟨by decide +kernel, by decide +kernel, by decide +kernel⟩ ⟨by decide +kernel, by decide +kernel⟩ dX6_eventTime_2 (rest := []) rfl rfl rfl rfl (Nat.le_of_ble_eq_true rfl) hR
theorem ths_X6_undo_10 {X : Ctx} (h : sCx X mX6_undo) (ht : tCx X) {ls : Lo} {x : Hp} (hR : retT X "java/lang/IllegalStateException" x) : SW X mX6_undo 10 ls [] x :=
  sw_throwS h ht (text := "there is no saved state") rfl (by decide +kernel) cl_79 in_79 (by decide +kernel) (fun _ _ => at_all_79) go_79 (by decide +kernel) dX6_undo_10 dX6_undo_13 dX6_undo_14 dX6_undo_16 dX6_undo_19 hR
theorem ths_X6_requireImpedance_13 {X : Ctx} (h : sCx X mX6_requireImpedance) (ht : tCx X) {ls : Lo} {x : Hp} (hR : retT X "java/lang/IllegalArgumentException" x) : SW X mX6_requireImpedance 13 ls [] x :=
  sw_throwSW h ht (text := "the impedance is out of range") rfl (by decide +kernel) cl_42 in_42 (by decide +kernel) (fun _ _ => at_all_42) go_42 (by decide +kernel) dX6_requireImpedance_13 dX6_requireImpedance_16 dX6_requireImpedance_17 dX6_requireImpedance_20 dX6_requireImpedance_23 hR
theorem ths_X6_requirePlace_10 {X : Ctx} (h : sCx X mX6_requirePlace) (ht : tCx X) {ls : Lo} {x : Hp} (hR : retT X "java/lang/IllegalArgumentException" x) : SW X mX6_requirePlace 10 ls [] x :=
  sw_throwS h ht (text := "the percentage is out of range") rfl (by decide +kernel) cl_42 in_42 (by decide +kernel) (fun _ _ => at_all_42) go_42 (by decide +kernel) dX6_requirePlace_10 dX6_requirePlace_13 dX6_requirePlace_14 dX6_requirePlace_16 dX6_requirePlace_19 hR
theorem ths_X6_requireLine_20 {X : Ctx} (h : sCx X mX6_requireLine) (ht : tCx X) {ls : Lo} {x : Hp} (hR : retT X "java/lang/IllegalArgumentException" x) : SW X mX6_requireLine 20 ls [] x :=
  sw_throwSW h ht (text := "there is no such line or relay") rfl (by decide +kernel) cl_42 in_42 (by decide +kernel) (fun _ _ => at_all_42) go_42 (by decide +kernel) dX6_requireLine_20 dX6_requireLine_23 dX6_requireLine_24 dX6_requireLine_27 dX6_requireLine_30 hR
theorem ths_X6_requireEvent_20 {X : Ctx} (h : sCx X mX6_requireEvent) (ht : tCx X) {ls : Lo} {x : Hp} (hR : retT X "java/lang/IndexOutOfBoundsException" x) : SW X mX6_requireEvent 20 ls [] x :=
  sw_throwSW h ht (text := "there is no such event") rfl (by decide +kernel) cl_185 in_185 (by decide +kernel) (fun _ _ => at_all_185) go_185 (by decide +kernel) dX6_requireEvent_20 dX6_requireEvent_23 dX6_requireEvent_24 dX6_requireEvent_27 dX6_requireEvent_30 hR
theorem t_requireLine (Y : Kx) (hfl : Y.1.stackTraces = false) (x : Hp) (v : Int32) (hv : ¬ (0 ≤ v ∧ v ≤ x.1 2 2 - 1)) : sT Y mX6_requireLine [.ref 0, .int v] x "java/lang/IllegalArgumentException" := by
  refine sT_of hfl (by decide +kernel) (Nat.le_of_ble_eq_true rfl) (fun X h ht hY hR => ?_)
  have hT := kX6_requireLine h
  repeat (refine sw_s hT rfl rfl ?_)
  refine sw_cs hT rfl (c_within _ x v 0 _) rfl rfl (Nat.le_of_ble_eq_true rfl) ?_
  refine sw_b hT rfl rfl (fun _ => ?_) (fun c => absurd (bI_f hv) c)
  exact ths_X6_requireLine_20 h ht hR
theorem t_requirePlace (Y : Kx) (hfl : Y.1.stackTraces = false) (x : Hp) (v : Int32) (hv : ¬ (0 ≤ v ∧ v ≤ 100)) : sT Y mX6_requirePlace [.int v] x "java/lang/IllegalArgumentException" := by
  refine sT_of hfl (by decide +kernel) (Nat.le_of_ble_eq_true rfl) (fun X h ht hY hR => ?_)
  have hT := kX6_requirePlace h
  repeat (refine sw_s hT rfl rfl ?_)
  refine sw_cs hT rfl (c_within _ x v 0 _) rfl rfl (Nat.le_of_ble_eq_true rfl) ?_
  refine sw_b hT rfl rfl (fun _ => ?_) (fun c => absurd (bI_f hv) c)
  exact ths_X6_requirePlace_10 h ht hR
theorem t_requireImpedance (Y : Kx) (hfl : Y.1.stackTraces = false) (x : Hp) (v : UInt64) (hv : ¬ inD v 4576918229304087675 4652007308841189376) : sT Y mX6_requireImpedance [.double v] x "java/lang/IllegalArgumentException" := by
  refine sT_of hfl (by decide +kernel) (Nat.le_of_ble_eq_true rfl) (fun X h ht hY hR => ?_)
  have hT := kX6_requireImpedance h
  repeat (refine sw_s hT rfl rfl ?_)
  refine sw_cs hT rfl (c_withinD _ x v _ _) rfl rfl (Nat.le_of_ble_eq_true rfl) ?_
  refine sw_b hT rfl rfl (fun _ => ?_) (fun c => absurd (Decidable.byContradiction hv) c)
  exact ths_X6_requireImpedance_13 h ht hR
theorem t_requireEvent (Y : Kx) (hfl : Y.1.stackTraces = false) (x : Hp) (v : Int32) (hv : ¬ (0 ≤ v ∧ v ≤ x.1 13 0 - 1)) : sT Y mX6_requireEvent [.ref 0, .int v] x "java/lang/IndexOutOfBoundsException" := by
  refine sT_of hfl (by decide +kernel) (Nat.le_of_ble_eq_true rfl) (fun X h ht hY hR => ?_)
  have hT := kX6_requireEvent h
  repeat (refine sw_s hT rfl rfl ?_)
  refine sw_cs hT rfl (c_within _ x v 0 _) rfl rfl (Nat.le_of_ble_eq_true rfl) ?_
  refine sw_b hT rfl rfl (fun _ => ?_) (fun c => absurd (bI_f hv) c)
  exact ths_X6_requireEvent_20 h ht hR
theorem t_setSource1 (Y : Kx) (hfl : Y.1.stackTraces = false) (x : Hp) (v z : UInt64) (hv : ¬ inD v 4636737291354636288 4696837146684686336) : sT Y mX6_setSource [.ref 0, .double v, .double z] x "java/lang/IllegalArgumentException" := by
  refine sT_of hfl (by decide +kernel) (Nat.le_of_ble_eq_true rfl) (fun X h ht hY hR => ?_)
  have hT := kX6_setSource h
  repeat (refine sw_s hT rfl rfl ?_)
  refine sw_cs hT rfl (c_withinD _ x v _ _) rfl rfl (Nat.le_of_ble_eq_true rfl) ?_
  refine sw_b hT rfl rfl (fun _ => ?_) (fun c => absurd (Decidable.byContradiction hv) c)
  exact ths_X6_setSource_13 h ht hR
theorem t_setSource2 (Y : Kx) (hfl : Y.1.stackTraces = false) (x : Hp) (v z : UInt64) (h1 : inD v 4636737291354636288 4696837146684686336) (hv : ¬ inD z 4576918229304087675 4652007308841189376) : sT Y mX6_setSource [.ref 0, .double v, .double z] x "java/lang/IllegalArgumentException" := by
  refine sT_of hfl (by decide +kernel) (Nat.le_of_ble_eq_true rfl) (fun X h ht hY hR => ?_)
  have hT := kX6_setSource h
  repeat (refine sw_s hT rfl rfl ?_)
  refine sw_cs hT rfl (c_withinD _ x v _ _) rfl rfl (Nat.le_of_ble_eq_true rfl) ?_
  refine sw_b hT rfl rfl (fun c => absurd c ((h1))) (fun _ => ?_)
  repeat (refine sw_s hT rfl rfl ?_)
  exact thc_X6_setSource_24 h ht (t_requireImpedance _ (by rw [hY]; exact hfl) x z hv) hR
theorem t_addLine1 (Y : Kx) (hfl : Y.1.stackTraces = false) (x : Hp) (f : Int32) (z : UInt64) (hv : ¬ (0 ≤ f ∧ f ≤ x.1 2 2)) : sT Y mX6_addLine [.ref 0, .int f, .double z] x "java/lang/IllegalArgumentException" := by
  refine sT_of hfl (by decide +kernel) (Nat.le_of_ble_eq_true rfl) (fun X h ht hY hR => ?_)
  have hT := kX6_addLine h
  repeat (refine sw_s hT rfl rfl ?_)
  refine sw_cs hT rfl (c_within _ x f 0 (x.1 2 2)) rfl rfl (Nat.le_of_ble_eq_true rfl) ?_
  refine sw_b hT rfl rfl (fun _ => ?_) (fun c => absurd (bI_f hv) c)
  exact ths_X6_addLine_18 h ht hR
theorem t_addLine2 (Y : Kx) (hfl : Y.1.stackTraces = false) (x : Hp) (f : Int32) (z : UInt64) (h1 : 0 ≤ f ∧ f ≤ x.1 2 2) (hv : ¬ inD z 4576918229304087675 4652007308841189376) : sT Y mX6_addLine [.ref 0, .int f, .double z] x "java/lang/IllegalArgumentException" := by
  refine sT_of hfl (by decide +kernel) (Nat.le_of_ble_eq_true rfl) (fun X h ht hY hR => ?_)
  have hT := kX6_addLine h
  repeat (refine sw_s hT rfl rfl ?_)
  refine sw_cs hT rfl (c_within _ x f 0 (x.1 2 2)) rfl rfl (Nat.le_of_ble_eq_true rfl) ?_
  refine sw_b hT rfl rfl (fun c => absurd c ((bI_1 h1))) (fun _ => ?_)
  repeat (refine sw_s hT rfl rfl ?_)
  exact thc_X6_addLine_29 h ht (t_requireImpedance _ (by rw [hY]; exact hfl) x z hv) hR
theorem t_addLine3 (Y : Kx) (hfl : Y.1.stackTraces = false) (x : Hp) (f : Int32) (z : UInt64) (h1 : 0 ≤ f ∧ f ≤ x.1 2 2) (h2 : inD z 4576918229304087675 4652007308841189376) (hv : ¬ x.1 2 2 < 12) : sT Y mX6_addLine [.ref 0, .int f, .double z] x "java/lang/IllegalStateException" := by
  refine sT_of hfl (by decide +kernel) (Nat.le_of_ble_eq_true rfl) (fun X h ht hY hR => ?_)
  have hT := kX6_addLine h
  repeat (refine sw_s hT rfl rfl ?_)
  refine sw_cs hT rfl (c_within _ x f 0 (x.1 2 2)) rfl rfl (Nat.le_of_ble_eq_true rfl) ?_
  refine sw_b hT rfl rfl (fun c => absurd c ((bI_1 h1))) (fun _ => ?_)
  repeat (refine sw_s hT rfl rfl ?_)
  refine sw_cs0 hT rfl (c_reqImp _ x z h2) rfl rfl (Nat.le_of_ble_eq_true rfl) ?_
  repeat (refine sw_s hT rfl rfl ?_)
  refine sw_b hT rfl rfl (fun c => absurd c ((hv))) (fun _ => ?_)
  exact ths_X6_addLine_47 h ht hR
theorem t_setLoad1 (Y : Kx) (hfl : Y.1.stackTraces = false) (x : Hp) (b a : Int32) (hv : ¬ (1 ≤ b ∧ b ≤ x.1 2 2)) : sT Y mX6_setLoad [.ref 0, .int b, .int a] x "java/lang/IllegalArgumentException" := by
  refine sT_of hfl (by decide +kernel) (Nat.le_of_ble_eq_true rfl) (fun X h ht hY hR => ?_)
  have hT := kX6_setLoad h
  repeat (refine sw_s hT rfl rfl ?_)
  refine sw_cs hT rfl (c_within _ x b 1 (x.1 2 2)) rfl rfl (Nat.le_of_ble_eq_true rfl) ?_
  refine sw_b hT rfl rfl (fun _ => ?_) (fun c => absurd (bI_f hv) c)
  exact ths_X6_setLoad_18 h ht hR
theorem t_setLoad2 (Y : Kx) (hfl : Y.1.stackTraces = false) (x : Hp) (b a : Int32) (h1 : 1 ≤ b ∧ b ≤ x.1 2 2) (hv : ¬ (0 ≤ a ∧ a ≤ 5000)) : sT Y mX6_setLoad [.ref 0, .int b, .int a] x "java/lang/IllegalArgumentException" := by
  refine sT_of hfl (by decide +kernel) (Nat.le_of_ble_eq_true rfl) (fun X h ht hY hR => ?_)
  have hT := kX6_setLoad h
  repeat (refine sw_s hT rfl rfl ?_)
  refine sw_cs hT rfl (c_within _ x b 1 (x.1 2 2)) rfl rfl (Nat.le_of_ble_eq_true rfl) ?_
  refine sw_b hT rfl rfl (fun c => absurd c ((bI_1 h1))) (fun _ => ?_)
  repeat (refine sw_s hT rfl rfl ?_)
  refine sw_cs hT rfl (c_within _ x a 0 5000) rfl rfl (Nat.le_of_ble_eq_true rfl) ?_
  refine sw_b hT rfl rfl (fun _ => ?_) (fun c => absurd (bI_f hv) c)
  exact ths_X6_setLoad_39 h ht hR
theorem t_loadCurrent1 (Y : Kx) (hfl : Y.1.stackTraces = false) (x : Hp) (v : Int32) (hv : ¬ (0 ≤ v ∧ v ≤ x.1 2 2 - 1)) : sT Y mX6_loadCurrent [.ref 0, .int v] x "java/lang/IllegalArgumentException" := by
  refine sT_of hfl (by decide +kernel) (Nat.le_of_ble_eq_true rfl) (fun X h ht hY hR => ?_)
  have hT := kX6_loadCurrent h
  repeat (refine sw_s hT rfl rfl ?_)
  exact thc_X6_loadCurrent_2 h ht (t_requireLine _ (by rw [hY]; exact hfl) x v hv) hR
theorem t_faultCurrent1 (Y : Kx) (hfl : Y.1.stackTraces = false) (x : Hp) (v : Int32) (hv : ¬ (0 ≤ v ∧ v ≤ x.1 2 2 - 1)) (p : Int32) : sT Y mX6_faultCurrent [.ref 0, .int v, .int p] x "java/lang/IllegalArgumentException" := by
  refine sT_of hfl (by decide +kernel) (Nat.le_of_ble_eq_true rfl) (fun X h ht hY hR => ?_)
  have hT := kX6_faultCurrent h
  repeat (refine sw_s hT rfl rfl ?_)
  exact thc_X6_faultCurrent_2 h ht (t_requireLine _ (by rw [hY]; exact hfl) x v hv) hR
theorem t_setRelay1 (Y : Kx) (hfl : Y.1.stackTraces = false) (x : Hp) (v : Int32) (hv : ¬ (0 ≤ v ∧ v ≤ x.1 2 2 - 1)) (p c s : Int32) : sT Y mX6_setRelay [.ref 0, .int v, .int p, .int c, .int s] x "java/lang/IllegalArgumentException" := by
  refine sT_of hfl (by decide +kernel) (Nat.le_of_ble_eq_true rfl) (fun X h ht hY hR => ?_)
  have hT := kX6_setRelay h
  repeat (refine sw_s hT rfl rfl ?_)
  exact thc_X6_setRelay_2 h ht (t_requireLine _ (by rw [hY]; exact hfl) x v hv) hR
theorem t_setInstantaneous1 (Y : Kx) (hfl : Y.1.stackTraces = false) (x : Hp) (v : Int32) (hv : ¬ (0 ≤ v ∧ v ≤ x.1 2 2 - 1)) (a : Int32) : sT Y mX6_setInstantaneous [.ref 0, .int v, .int a] x "java/lang/IllegalArgumentException" := by
  refine sT_of hfl (by decide +kernel) (Nat.le_of_ble_eq_true rfl) (fun X h ht hY hR => ?_)
  have hT := kX6_setInstantaneous h
  repeat (refine sw_s hT rfl rfl ?_)
  exact thc_X6_setInstantaneous_2 h ht (t_requireLine _ (by rw [hY]; exact hfl) x v hv) hR
theorem t_setShots1 (Y : Kx) (hfl : Y.1.stackTraces = false) (x : Hp) (v : Int32) (hv : ¬ (0 ≤ v ∧ v ≤ x.1 2 2 - 1)) (a : Int32) : sT Y mX6_setShots [.ref 0, .int v, .int a] x "java/lang/IllegalArgumentException" := by
  refine sT_of hfl (by decide +kernel) (Nat.le_of_ble_eq_true rfl) (fun X h ht hY hR => ?_)
  have hT := kX6_setShots h
  repeat (refine sw_s hT rfl rfl ?_)
  exact thc_X6_setShots_2 h ht (t_requireLine _ (by rw [hY]; exact hfl) x v hv) hR
theorem t_setStuck1 (Y : Kx) (hfl : Y.1.stackTraces = false) (x : Hp) (v : Int32) (hv : ¬ (0 ≤ v ∧ v ≤ x.1 2 2 - 1)) (a : Int32) : sT Y mX6_setStuck [.ref 0, .int v, .int a] x "java/lang/IllegalArgumentException" := by
  refine sT_of hfl (by decide +kernel) (Nat.le_of_ble_eq_true rfl) (fun X h ht hY hR => ?_)
  have hT := kX6_setStuck h
  repeat (refine sw_s hT rfl rfl ?_)
  exact thc_X6_setStuck_2 h ht (t_requireLine _ (by rw [hY]; exact hfl) x v hv) hR
theorem t_pickup1 (Y : Kx) (hfl : Y.1.stackTraces = false) (x : Hp) (v : Int32) (hv : ¬ (0 ≤ v ∧ v ≤ x.1 2 2 - 1)) : sT Y mX6_pickup [.ref 0, .int v] x "java/lang/IllegalArgumentException" := by
  refine sT_of hfl (by decide +kernel) (Nat.le_of_ble_eq_true rfl) (fun X h ht hY hR => ?_)
  have hT := kX6_pickup h
  repeat (refine sw_s hT rfl rfl ?_)
  exact thc_X6_pickup_2 h ht (t_requireLine _ (by rw [hY]; exact hfl) x v hv) hR
theorem t_steps1 (Y : Kx) (hfl : Y.1.stackTraces = false) (x : Hp) (v : Int32) (hv : ¬ (0 ≤ v ∧ v ≤ x.1 2 2 - 1)) : sT Y mX6_steps [.ref 0, .int v] x "java/lang/IllegalArgumentException" := by
  refine sT_of hfl (by decide +kernel) (Nat.le_of_ble_eq_true rfl) (fun X h ht hY hR => ?_)
  have hT := kX6_steps h
  repeat (refine sw_s hT rfl rfl ?_)
  exact thc_X6_steps_2 h ht (t_requireLine _ (by rw [hY]; exact hfl) x v hv) hR
theorem t_upstream1 (Y : Kx) (hfl : Y.1.stackTraces = false) (x : Hp) (v : Int32) (hv : ¬ (0 ≤ v ∧ v ≤ x.1 2 2 - 1)) : sT Y mX6_upstream [.ref 0, .int v] x "java/lang/IllegalArgumentException" := by
  refine sT_of hfl (by decide +kernel) (Nat.le_of_ble_eq_true rfl) (fun X h ht hY hR => ?_)
  have hT := kX6_upstream h
  repeat (refine sw_s hT rfl rfl ?_)
  exact thc_X6_upstream_2 h ht (t_requireLine _ (by rw [hY]; exact hfl) x v hv) hR
theorem t_operatingTime1 (Y : Kx) (hfl : Y.1.stackTraces = false) (x : Hp) (v : Int32) (hv : ¬ (0 ≤ v ∧ v ≤ x.1 2 2 - 1)) (a : UInt64) : sT Y mX6_operatingTime [.ref 0, .int v, .double a] x "java/lang/IllegalArgumentException" := by
  refine sT_of hfl (by decide +kernel) (Nat.le_of_ble_eq_true rfl) (fun X h ht hY hR => ?_)
  have hT := kX6_operatingTime h
  repeat (refine sw_s hT rfl rfl ?_)
  exact thc_X6_operatingTime_2 h ht (t_requireLine _ (by rw [hY]; exact hfl) x v hv) hR
theorem t_sensitivity1 (Y : Kx) (hfl : Y.1.stackTraces = false) (x : Hp) (v : Int32) (hv : ¬ (0 ≤ v ∧ v ≤ x.1 2 2 - 1)) : sT Y mX6_sensitivity [.ref 0, .int v] x "java/lang/IllegalArgumentException" := by
  refine sT_of hfl (by decide +kernel) (Nat.le_of_ble_eq_true rfl) (fun X h ht hY hR => ?_)
  have hT := kX6_sensitivity h
  repeat (refine sw_s hT rfl rfl ?_)
  exact thc_X6_sensitivity_2 h ht (t_requireLine _ (by rw [hY]; exact hfl) x v hv) hR
theorem t_margin1 (Y : Kx) (hfl : Y.1.stackTraces = false) (x : Hp) (v : Int32) (hv : ¬ (0 ≤ v ∧ v ≤ x.1 2 2 - 1)) (p : Int32) : sT Y mX6_margin [.ref 0, .int v, .int p] x "java/lang/IllegalArgumentException" := by
  refine sT_of hfl (by decide +kernel) (Nat.le_of_ble_eq_true rfl) (fun X h ht hY hR => ?_)
  have hT := kX6_margin h
  repeat (refine sw_s hT rfl rfl ?_)
  exact thc_X6_margin_2 h ht (t_requireLine _ (by rw [hY]; exact hfl) x v hv) hR
theorem t_simulate1 (Y : Kx) (hfl : Y.1.stackTraces = false) (x : Hp) (v : Int32) (hv : ¬ (0 ≤ v ∧ v ≤ x.1 2 2 - 1)) (p : Int32) (a : UInt64) : sT Y mX6_simulate [.ref 0, .int v, .int p, .double a] x "java/lang/IllegalArgumentException" := by
  refine sT_of hfl (by decide +kernel) (Nat.le_of_ble_eq_true rfl) (fun X h ht hY hR => ?_)
  have hT := kX6_simulate h
  repeat (refine sw_s hT rfl rfl ?_)
  exact thc_X6_simulate_2 h ht (t_requireLine _ (by rw [hY]; exact hfl) x v hv) hR
theorem t_event1 (Y : Kx) (hfl : Y.1.stackTraces = false) (x : Hp) (v : Int32) (hv : ¬ (0 ≤ v ∧ v ≤ x.1 13 0 - 1)) : sT Y mX6_event [.ref 0, .int v] x "java/lang/IndexOutOfBoundsException" := by
  refine sT_of hfl (by decide +kernel) (Nat.le_of_ble_eq_true rfl) (fun X h ht hY hR => ?_)
  have hT := kX6_event h
  repeat (refine sw_s hT rfl rfl ?_)
  exact thc_X6_event_2 h ht (t_requireEvent _ (by rw [hY]; exact hfl) x v hv) hR
theorem t_eventTime1 (Y : Kx) (hfl : Y.1.stackTraces = false) (x : Hp) (v : Int32) (hv : ¬ (0 ≤ v ∧ v ≤ x.1 13 0 - 1)) : sT Y mX6_eventTime [.ref 0, .int v] x "java/lang/IndexOutOfBoundsException" := by
  refine sT_of hfl (by decide +kernel) (Nat.le_of_ble_eq_true rfl) (fun X h ht hY hR => ?_)
  have hT := kX6_eventTime h
  repeat (refine sw_s hT rfl rfl ?_)
  exact thc_X6_eventTime_2 h ht (t_requireEvent _ (by rw [hY]; exact hfl) x v hv) hR
theorem t_faultCurrent2 (Y : Kx) (hfl : Y.1.stackTraces = false) (x : Hp) (n k : Nat) (hN : LNk x n k) (p : Int32) (hv : ¬ (0 ≤ p ∧ p ≤ 100)) : sT Y mX6_faultCurrent [.ref 0, .int (nI k), .int p] x "java/lang/IllegalArgumentException" := by
  refine sT_of hfl (by decide +kernel) (Nat.le_of_ble_eq_true rfl) (fun X h ht hY hR => ?_)
  have hT := kX6_faultCurrent h
  repeat (refine sw_s hT rfl rfl ?_)
  refine sw_cv0 hT rfl (c_reqLine _ x n k hN) rfl rfl rfl rfl (Nat.le_of_ble_eq_true rfl) ?_
  repeat (refine sw_s hT rfl rfl ?_)
  exact thc_X6_faultCurrent_6 h ht (t_requirePlace _ (by rw [hY]; exact hfl) x p hv) hR
theorem t_margin2 (Y : Kx) (hfl : Y.1.stackTraces = false) (x : Hp) (n k : Nat) (hN : LNk x n k) (p : Int32) (hv : ¬ (0 ≤ p ∧ p ≤ 100)) : sT Y mX6_margin [.ref 0, .int (nI k), .int p] x "java/lang/IllegalArgumentException" := by
  refine sT_of hfl (by decide +kernel) (Nat.le_of_ble_eq_true rfl) (fun X h ht hY hR => ?_)
  have hT := kX6_margin h
  repeat (refine sw_s hT rfl rfl ?_)
  refine sw_cv0 hT rfl (c_reqLine _ x n k hN) rfl rfl rfl rfl (Nat.le_of_ble_eq_true rfl) ?_
  repeat (refine sw_s hT rfl rfl ?_)
  exact thc_X6_margin_6 h ht (t_requirePlace _ (by rw [hY]; exact hfl) x p hv) hR
theorem t_simulate2 (Y : Kx) (hfl : Y.1.stackTraces = false) (x : Hp) (n k : Nat) (hN : LNk x n k) (p : Int32) (a : UInt64) (hv : ¬ (0 ≤ p ∧ p ≤ 100)) : sT Y mX6_simulate [.ref 0, .int (nI k), .int p, .double a] x "java/lang/IllegalArgumentException" := by
  refine sT_of hfl (by decide +kernel) (Nat.le_of_ble_eq_true rfl) (fun X h ht hY hR => ?_)
  have hT := kX6_simulate h
  repeat (refine sw_s hT rfl rfl ?_)
  refine sw_cv0 hT rfl (c_reqLine _ x n k hN) rfl rfl rfl rfl (Nat.le_of_ble_eq_true rfl) ?_
  repeat (refine sw_s hT rfl rfl ?_)
  exact thc_X6_simulate_6 h ht (t_requirePlace _ (by rw [hY]; exact hfl) x p hv) hR
theorem t_setRelay2 (Y : Kx) (hfl : Y.1.stackTraces = false) (x : Hp) (n k : Nat) (hN : LNk x n k) (p c s : Int32) (hv : ¬ (1 ≤ p ∧ p ≤ 20000)) : sT Y mX6_setRelay [.ref 0, .int (nI k), .int p, .int c, .int s] x "java/lang/IllegalArgumentException" := by
  refine sT_of hfl (by decide +kernel) (Nat.le_of_ble_eq_true rfl) (fun X h ht hY hR => ?_)
  have hT := kX6_setRelay h
  repeat (refine sw_s hT rfl rfl ?_)
  refine sw_cv0 hT rfl (c_reqLine _ x n k hN) rfl rfl rfl rfl (Nat.le_of_ble_eq_true rfl) ?_
  repeat (refine sw_s hT rfl rfl ?_)
  refine sw_cs hT rfl (c_within _ x p 1 20000) rfl rfl (Nat.le_of_ble_eq_true rfl) ?_
  refine sw_b hT rfl rfl (fun _ => ?_) (fun c => absurd (bI_f hv) c)
  exact ths_X6_setRelay_16 h ht hR
theorem t_setRelay3 (Y : Kx) (hfl : Y.1.stackTraces = false) (x : Hp) (n k : Nat) (hN : LNk x n k) (p c s : Int32) (h1 : 1 ≤ p ∧ p ≤ 20000) (hv : ¬ (0 ≤ c ∧ c ≤ 3)) : sT Y mX6_setRelay [.ref 0, .int (nI k), .int p, .int c, .int s] x "java/lang/IllegalArgumentException" := by
  refine sT_of hfl (by decide +kernel) (Nat.le_of_ble_eq_true rfl) (fun X h ht hY hR => ?_)
  have hT := kX6_setRelay h
  repeat (refine sw_s hT rfl rfl ?_)
  refine sw_cv0 hT rfl (c_reqLine _ x n k hN) rfl rfl rfl rfl (Nat.le_of_ble_eq_true rfl) ?_
  repeat (refine sw_s hT rfl rfl ?_)
  refine sw_cs hT rfl (c_within _ x p 1 20000) rfl rfl (Nat.le_of_ble_eq_true rfl) ?_
  refine sw_b hT rfl rfl (fun c => absurd c ((bI_1 h1))) (fun _ => ?_)
  repeat (refine sw_s hT rfl rfl ?_)
  refine sw_cs hT rfl (c_within _ x c 0 3) rfl rfl (Nat.le_of_ble_eq_true rfl) ?_
  refine sw_b hT rfl rfl (fun _ => ?_) (fun c => absurd (bI_f hv) c)
  exact ths_X6_setRelay_35 h ht hR
theorem t_setRelay4 (Y : Kx) (hfl : Y.1.stackTraces = false) (x : Hp) (n k : Nat) (hN : LNk x n k) (p c s : Int32) (h1 : 1 ≤ p ∧ p ≤ 20000) (h2 : 0 ≤ c ∧ c ≤ 3) (hv : ¬ (1 ≤ s ∧ s ≤ 20)) : sT Y mX6_setRelay [.ref 0, .int (nI k), .int p, .int c, .int s] x "java/lang/IllegalArgumentException" := by
  refine sT_of hfl (by decide +kernel) (Nat.le_of_ble_eq_true rfl) (fun X h ht hY hR => ?_)
  have hT := kX6_setRelay h
  repeat (refine sw_s hT rfl rfl ?_)
  refine sw_cv0 hT rfl (c_reqLine _ x n k hN) rfl rfl rfl rfl (Nat.le_of_ble_eq_true rfl) ?_
  repeat (refine sw_s hT rfl rfl ?_)
  refine sw_cs hT rfl (c_within _ x p 1 20000) rfl rfl (Nat.le_of_ble_eq_true rfl) ?_
  refine sw_b hT rfl rfl (fun c => absurd c ((bI_1 h1))) (fun _ => ?_)
  repeat (refine sw_s hT rfl rfl ?_)
  refine sw_cs hT rfl (c_within _ x c 0 3) rfl rfl (Nat.le_of_ble_eq_true rfl) ?_
  refine sw_b hT rfl rfl (fun c => absurd c ((bI_1 h2))) (fun _ => ?_)
  repeat (refine sw_s hT rfl rfl ?_)
  refine sw_cs hT rfl (c_within _ x s 1 20) rfl rfl (Nat.le_of_ble_eq_true rfl) ?_
  refine sw_b hT rfl rfl (fun _ => ?_) (fun c => absurd (bI_f hv) c)
  exact ths_X6_setRelay_56 h ht hR
theorem t_setInstantaneous2 (Y : Kx) (hfl : Y.1.stackTraces = false) (x : Hp) (n k : Nat) (hN : LNk x n k) (a : Int32) (hv : ¬ (0 ≤ a ∧ a ≤ 100000)) : sT Y mX6_setInstantaneous [.ref 0, .int (nI k), .int a] x "java/lang/IllegalArgumentException" := by
  refine sT_of hfl (by decide +kernel) (Nat.le_of_ble_eq_true rfl) (fun X h ht hY hR => ?_)
  have hT := kX6_setInstantaneous h
  repeat (refine sw_s hT rfl rfl ?_)
  refine sw_cv0 hT rfl (c_reqLine _ x n k hN) rfl rfl rfl rfl (Nat.le_of_ble_eq_true rfl) ?_
  repeat (refine sw_s hT rfl rfl ?_)
  refine sw_cs hT rfl (c_within _ x a 0 100000) rfl rfl (Nat.le_of_ble_eq_true rfl) ?_
  refine sw_b hT rfl rfl (fun _ => ?_) (fun c => absurd (bI_f hv) c)
  exact ths_X6_setInstantaneous_15 h ht hR
theorem t_setShots2 (Y : Kx) (hfl : Y.1.stackTraces = false) (x : Hp) (n k : Nat) (hN : LNk x n k) (a : Int32) (hv : ¬ (0 ≤ a ∧ a ≤ 3)) : sT Y mX6_setShots [.ref 0, .int (nI k), .int a] x "java/lang/IllegalArgumentException" := by
  refine sT_of hfl (by decide +kernel) (Nat.le_of_ble_eq_true rfl) (fun X h ht hY hR => ?_)
  have hT := kX6_setShots h
  repeat (refine sw_s hT rfl rfl ?_)
  refine sw_cv0 hT rfl (c_reqLine _ x n k hN) rfl rfl rfl rfl (Nat.le_of_ble_eq_true rfl) ?_
  repeat (refine sw_s hT rfl rfl ?_)
  refine sw_cs hT rfl (c_within _ x a 0 3) rfl rfl (Nat.le_of_ble_eq_true rfl) ?_
  refine sw_b hT rfl rfl (fun _ => ?_) (fun c => absurd (bI_f hv) c)
  exact ths_X6_setShots_14 h ht hR
theorem t_operatingTime2 (Y : Kx) (hfl : Y.1.stackTraces = false) (x : Hp) (n k : Nat) (hN : LNk x n k) (a : UInt64) (hv : ¬ inD a 0 4741671816366391296) : sT Y mX6_operatingTime [.ref 0, .int (nI k), .double a] x "java/lang/IllegalArgumentException" := by
  refine sT_of hfl (by decide +kernel) (Nat.le_of_ble_eq_true rfl) (fun X h ht hY hR => ?_)
  have hT := kX6_operatingTime h
  repeat (refine sw_s hT rfl rfl ?_)
  refine sw_cv0 hT rfl (c_reqLine _ x n k hN) rfl rfl rfl rfl (Nat.le_of_ble_eq_true rfl) ?_
  repeat (refine sw_s hT rfl rfl ?_)
  refine sw_cs hT rfl (c_withinD _ x a _ _) rfl rfl (Nat.le_of_ble_eq_true rfl) ?_
  refine sw_b hT rfl rfl (fun _ => ?_) (fun c => absurd (Decidable.byContradiction hv) c)
  exact ths_X6_operatingTime_16 h ht hR
theorem t_setMargin1 (Y : Kx) (hfl : Y.1.stackTraces = false) (x : Hp) (v : UInt64) (hv : ¬ inD v 4587366580439587226 4617315517961601024) : sT Y mX6_setMargin [.ref 0, .double v] x "java/lang/IllegalArgumentException" := by
  refine sT_of hfl (by decide +kernel) (Nat.le_of_ble_eq_true rfl) (fun X h ht hY hR => ?_)
  have hT := kX6_setMargin h
  repeat (refine sw_s hT rfl rfl ?_)
  refine sw_cs hT rfl (c_withinD _ x v _ _) rfl rfl (Nat.le_of_ble_eq_true rfl) ?_
  refine sw_b hT rfl rfl (fun _ => ?_) (fun c => absurd (Decidable.byContradiction hv) c)
  exact ths_X6_setMargin_13 h ht hR
theorem t_margin3 (Y : Kx) (hfl : Y.1.stackTraces = false) (x : Hp) (n k : Nat) (hN : LNk x n k) (p : Nat) (hp : p ≤ 100) (h1 : x.1 3 k = nI (fbN x k)) (h0 : fbN x k = 0) : sT Y mX6_margin [.ref 0, .int (nI k), .int (nI p)] x "java/lang/IllegalStateException" := by
  refine sT_of hfl (by decide +kernel) (Nat.le_of_ble_eq_true rfl) (fun X h ht hY hR => ?_)
  have hT := kX6_margin h
  repeat (refine sw_s hT rfl rfl ?_)
  refine sw_cv0 hT rfl (c_reqLine _ x n k hN) rfl rfl rfl rfl (Nat.le_of_ble_eq_true rfl) ?_
  repeat (refine sw_s hT rfl rfl ?_)
  refine sw_cs0 hT rfl (c_reqPlace _ x p hp) rfl rfl (Nat.le_of_ble_eq_true rfl) ?_
  repeat (refine sw_s hT rfl rfl ?_)
  refine sw_cv hT rfl (c_lineB0 _ x k (by have := hN.2; omega) h1 h0) rfl rfl rfl rfl (Nat.le_of_ble_eq_true rfl) ?_
  repeat (refine sw_s hT rfl rfl ?_)
  refine sw_b hT rfl rfl (fun _ => ?_) (fun c => absurd (rfl) c)
  exact ths_X6_margin_24 h ht hR
theorem t_violation1 (Y : Kx) (hfl : Y.1.stackTraces = false) (x : Hp) (r : Int32) (hr : ¬ 0 ≤ r) : sT Y mX6_violation [.ref 0, .int r] x "java/lang/IndexOutOfBoundsException" := by
  refine sT_of hfl (by decide +kernel) (Nat.le_of_ble_eq_true rfl) (fun X h ht hY hR => ?_)
  have hT := kX6_violation h
  repeat (refine sw_s hT rfl rfl ?_)
  refine sw_b hT rfl rfl (fun c => absurd c ((hr))) (fun _ => ?_)
  repeat (refine sw_s hT rfl rfl ?_)
  refine sw_b hT rfl rfl (fun _ => ?_) (fun c => absurd (rfl) c)
  exact ths_X6_violation_22 h ht hR
theorem t_violation2 (Y : Kx) (hfl : Y.1.stackTraces = false) (x : Hp) (n : Nat) (r : Int32) (hI : INV x n) (h0 : 0 ≤ r) (h1 : voS x n r n 0 = -1) : sT Y mX6_violation [.ref 0, .int r] x "java/lang/IndexOutOfBoundsException" := by
  refine sT_of hfl (by decide +kernel) (Nat.le_of_ble_eq_true rfl) (fun X h ht hY hR => ?_)
  have hT := kX6_violation h
  repeat (refine sw_s hT rfl rfl ?_)
  refine sw_b hT rfl rfl (fun _ => ?_) (fun c => absurd ((h0)) c)
  repeat (refine sw_s hT rfl rfl ?_)
  refine sw_cv hT rfl (c_violationOfRank _ x n r hI) rfl rfl rfl rfl (Nat.le_of_ble_eq_true rfl) ?_
  repeat (refine sw_s hT rfl rfl ?_)
  refine sw_b hT rfl rfl (fun _ => ?_) (fun c => absurd ((h1)) c)
  exact ths_X6_violation_22 h ht hR
theorem t_autoPickup1 (Y : Kx) (hfl : Y.1.stackTraces = false) (x : Hp) (p : Int32) (hv : ¬ (100 ≤ p ∧ p ≤ 300)) : sT Y mX6_autoPickup [.ref 0, .int p] x "java/lang/IllegalArgumentException" := by
  refine sT_of hfl (by decide +kernel) (Nat.le_of_ble_eq_true rfl) (fun X h ht hY hR => ?_)
  have hT := kX6_autoPickup h
  repeat (refine sw_s hT rfl rfl ?_)
  refine sw_cs hT rfl (c_within _ x p 100 300) rfl rfl (Nat.le_of_ble_eq_true rfl) ?_
  refine sw_b hT rfl rfl (fun _ => ?_) (fun c => absurd (bI_f hv) c)
  exact ths_X6_autoPickup_12 h ht hR
theorem t_simulate3 (Y : Kx) (hfl : Y.1.stackTraces = false) (x : Hp) (n k : Nat) (hN : LNk x n k) (p : Nat) (hp : p ≤ 100) (a : UInt64) (hv : ¬ inD a 4562254508917369340 4696837146684686336) : sT Y mX6_simulate [.ref 0, .int (nI k), .int (nI p), .double a] x "java/lang/IllegalArgumentException" := by
  refine sT_of hfl (by decide +kernel) (Nat.le_of_ble_eq_true rfl) (fun X h ht hY hR => ?_)
  have hT := kX6_simulate h
  repeat (refine sw_s hT rfl rfl ?_)
  refine sw_cv0 hT rfl (c_reqLine _ x n k hN) rfl rfl rfl rfl (Nat.le_of_ble_eq_true rfl) ?_
  repeat (refine sw_s hT rfl rfl ?_)
  refine sw_cs0 hT rfl (c_reqPlace _ x p hp) rfl rfl (Nat.le_of_ble_eq_true rfl) ?_
  repeat (refine sw_s hT rfl rfl ?_)
  refine sw_cs hT rfl (c_withinD _ x a _ _) rfl rfl (Nat.le_of_ble_eq_true rfl) ?_
  refine sw_b hT rfl rfl (fun _ => ?_) (fun c => absurd (Decidable.byContradiction hv) c)
  exact ths_X6_simulate_22 h ht hR
theorem t_undo1 (Y : Kx) (hfl : Y.1.stackTraces = false) (x : Hp) (hv : x.1 76 0 = 0) : sT Y mX6_undo [.ref 0] x "java/lang/IllegalStateException" := by
  refine sT_of hfl (by decide +kernel) (Nat.le_of_ble_eq_true rfl) (fun X h ht hY hR => ?_)
  have hT := kX6_undo h
  repeat (refine sw_s hT rfl rfl ?_)
  refine sw_b hT rfl rfl (fun _ => ?_) (fun c => absurd ((hv)) c)
  exact ths_X6_undo_10 h ht hR
