/-! the constructors -/
theorem gz_119 : Cond.methodLink RX0 3 objectInit ∈ gw := gw_t (List.mem_of_getElem? (i := 119) (by decide +kernel)) (by decide +kernel)
theorem gz_27 : Cond.instanceMethod objectInit ∈ gw := gw_t (List.mem_of_getElem? (i := 27) (by decide +kernel)) (by decide +kernel)
theorem gz_28 : Cond.code objectInit ⟨#[0xb1]⟩ 1 none ∈ gw := gw_t (List.mem_of_getElem? (i := 28) (by decide +kernel)) (by decide +kernel)
theorem gz_72 : Cond.arrayClass .int ∈ gw := gw_t (List.mem_of_getElem? (i := 72) (by decide +kernel)) (by decide +kernel)
theorem gz_122 : Cond.fieldLink RX0 9 RX0 "codes" "[I" ∈ gw := gw_t (List.mem_of_getElem? (i := 122) (by decide +kernel)) (by decide +kernel)
theorem gz_73 : Cond.arrayClass .double ∈ gw := gw_t (List.mem_of_getElem? (i := 73) (by decide +kernel)) (by decide +kernel)
theorem gz_124 : Cond.fieldLink RX0 15 RX0 "times" "[D" ∈ gw := gw_t (List.mem_of_getElem? (i := 124) (by decide +kernel)) (by decide +kernel)
theorem gz_40 : Cond.methodLink RX1 3 objectInit ∈ gw := gw_t (List.mem_of_getElem? (i := 40) (by decide +kernel)) (by decide +kernel)
theorem gz_41 : Cond.constantDouble RX1 9 4666723172467343360 ∈ gw := gw_t (List.mem_of_getElem? (i := 41) (by decide +kernel)) (by decide +kernel)
theorem gz_42 : Cond.fieldLink RX1 11 RX1 "voltage" "D" ∈ gw := gw_t (List.mem_of_getElem? (i := 42) (by decide +kernel)) (by decide +kernel)
theorem gz_44 : Cond.fieldLink RX1 17 RX1 "sourceImpedance" "D" ∈ gw := gw_t (List.mem_of_getElem? (i := 44) (by decide +kernel)) (by decide +kernel)
theorem gz_49 : Cond.fieldLink RX1 20 RX1 "fromBus" "[I" ∈ gw := gw_t (List.mem_of_getElem? (i := 49) (by decide +kernel)) (by decide +kernel)
theorem gz_51 : Cond.fieldLink RX1 24 RX1 "path" "[I" ∈ gw := gw_t (List.mem_of_getElem? (i := 51) (by decide +kernel)) (by decide +kernel)
theorem gz_53 : Cond.fieldLink RX1 27 RX1 "impedance" "[D" ∈ gw := gw_t (List.mem_of_getElem? (i := 53) (by decide +kernel)) (by decide +kernel)
theorem gz_55 : Cond.fieldLink RX1 31 RX1 "load" "[I" ∈ gw := gw_t (List.mem_of_getElem? (i := 55) (by decide +kernel)) (by decide +kernel)
theorem gz_79 : Cond.methodLink RX2 3 objectInit ∈ gw := gw_t (List.mem_of_getElem? (i := 79) (by decide +kernel)) (by decide +kernel)
theorem gz_83 : Cond.fieldLink RX2 9 RX2 "pickup" "[I" ∈ gw := gw_t (List.mem_of_getElem? (i := 83) (by decide +kernel)) (by decide +kernel)
theorem gz_85 : Cond.fieldLink RX2 15 RX2 "curve" "[I" ∈ gw := gw_t (List.mem_of_getElem? (i := 85) (by decide +kernel)) (by decide +kernel)
theorem gz_87 : Cond.fieldLink RX2 18 RX2 "steps" "[I" ∈ gw := gw_t (List.mem_of_getElem? (i := 87) (by decide +kernel)) (by decide +kernel)
theorem gz_90 : Cond.fieldLink RX2 21 RX2 "instantaneous" "[I" ∈ gw := gw_t (List.mem_of_getElem? (i := 90) (by decide +kernel)) (by decide +kernel)
theorem gz_92 : Cond.fieldLink RX2 24 RX2 "shots" "[I" ∈ gw := gw_t (List.mem_of_getElem? (i := 92) (by decide +kernel)) (by decide +kernel)
theorem gz_80 : Cond.methodLink RX2 27 yJ7_fill_53178 ∈ gw := gw_t (List.mem_of_getElem? (i := 80) (by decide +kernel)) (by decide +kernel)
theorem gz_81 : Cond.static yJ7_fill_53178 ∈ gw := gw_t (List.mem_of_getElem? (i := 81) (by decide +kernel)) (by decide +kernel)
theorem gz_5 : Cond.initialized RJ7 ∈ gw := gw_t (List.mem_of_getElem? (i := 5) (by decide +kernel)) (by decide +kernel)
theorem gz_82 : Cond.code yJ7_fill_53178 cJ7_fill_53178 4 none ∈ gw := gw_t (List.mem_of_getElem? (i := 82) (by decide +kernel)) (by decide +kernel)
theorem gz_184 : Cond.methodLink RX3 3 objectInit ∈ gw := gw_t (List.mem_of_getElem? (i := 184) (by decide +kernel)) (by decide +kernel)
theorem gz_185 : Cond.fieldLink RX3 9 RX3 "tripping" "[I" ∈ gw := gw_t (List.mem_of_getElem? (i := 185) (by decide +kernel)) (by decide +kernel)
theorem gz_187 : Cond.fieldLink RX3 15 RX3 "tripTime" "[D" ∈ gw := gw_t (List.mem_of_getElem? (i := 187) (by decide +kernel)) (by decide +kernel)
theorem gz_188 : Cond.fieldLink RX3 19 RX3 "opening" "[I" ∈ gw := gw_t (List.mem_of_getElem? (i := 188) (by decide +kernel)) (by decide +kernel)
theorem gz_190 : Cond.fieldLink RX3 22 RX3 "timesOpened" "[I" ∈ gw := gw_t (List.mem_of_getElem? (i := 190) (by decide +kernel)) (by decide +kernel)
theorem gz_34 : Cond.methodLink RX4 3 objectInit ∈ gw := gw_t (List.mem_of_getElem? (i := 34) (by decide +kernel)) (by decide +kernel)
theorem gz_35 : Cond.classLink RX4 9 RX1 ∈ gw := gw_t (List.mem_of_getElem? (i := 35) (by decide +kernel)) (by decide +kernel)
theorem gz_36 : Cond.instantiable RX1 7 ∈ gw := gw_t (List.mem_of_getElem? (i := 36) (by decide +kernel)) (by decide +kernel)
theorem gz_3 : Cond.initialized RX1 ∈ gw := gw_t (List.mem_of_getElem? (i := 3) (by decide +kernel)) (by decide +kernel)
theorem gz_37 : Cond.methodLink RX4 11 yX1_init ∈ gw := gw_t (List.mem_of_getElem? (i := 37) (by decide +kernel)) (by decide +kernel)
theorem gz_38 : Cond.instanceMethod yX1_init ∈ gw := gw_t (List.mem_of_getElem? (i := 38) (by decide +kernel)) (by decide +kernel)
theorem gz_39 : Cond.code yX1_init cX1_init 1 none ∈ gw := gw_t (List.mem_of_getElem? (i := 39) (by decide +kernel)) (by decide +kernel)
theorem gz_139 : Cond.fieldLink RX4 12 RX4 "network" "LFeederProtection$Network;" ∈ gw := gw_t (List.mem_of_getElem? (i := 139) (by decide +kernel)) (by decide +kernel)
theorem gz_74 : Cond.classLink RX4 18 RX2 ∈ gw := gw_t (List.mem_of_getElem? (i := 74) (by decide +kernel)) (by decide +kernel)
theorem gz_75 : Cond.instantiable RX2 7 ∈ gw := gw_t (List.mem_of_getElem? (i := 75) (by decide +kernel)) (by decide +kernel)
theorem gz_4 : Cond.initialized RX2 ∈ gw := gw_t (List.mem_of_getElem? (i := 4) (by decide +kernel)) (by decide +kernel)
theorem gz_76 : Cond.methodLink RX4 20 yX2_init ∈ gw := gw_t (List.mem_of_getElem? (i := 76) (by decide +kernel)) (by decide +kernel)
theorem gz_77 : Cond.instanceMethod yX2_init ∈ gw := gw_t (List.mem_of_getElem? (i := 77) (by decide +kernel)) (by decide +kernel)
theorem gz_78 : Cond.code yX2_init cX2_init 1 none ∈ gw := gw_t (List.mem_of_getElem? (i := 78) (by decide +kernel)) (by decide +kernel)
theorem gz_142 : Cond.fieldLink RX4 21 RX4 "relays" "LFeederProtection$Relays;" ∈ gw := gw_t (List.mem_of_getElem? (i := 142) (by decide +kernel)) (by decide +kernel)
theorem gz_114 : Cond.classLink RX4 25 RX0 ∈ gw := gw_t (List.mem_of_getElem? (i := 114) (by decide +kernel)) (by decide +kernel)
theorem gz_115 : Cond.instantiable RX0 4 ∈ gw := gw_t (List.mem_of_getElem? (i := 115) (by decide +kernel)) (by decide +kernel)
theorem gz_6 : Cond.initialized RX0 ∈ gw := gw_t (List.mem_of_getElem? (i := 6) (by decide +kernel)) (by decide +kernel)
theorem gz_116 : Cond.methodLink RX4 27 yX0_init ∈ gw := gw_t (List.mem_of_getElem? (i := 116) (by decide +kernel)) (by decide +kernel)
theorem gz_117 : Cond.instanceMethod yX0_init ∈ gw := gw_t (List.mem_of_getElem? (i := 117) (by decide +kernel)) (by decide +kernel)
theorem gz_118 : Cond.code yX0_init cX0_init 1 none ∈ gw := gw_t (List.mem_of_getElem? (i := 118) (by decide +kernel)) (by decide +kernel)
theorem gz_145 : Cond.fieldLink RX4 28 RX4 "events" "LFeederProtection$EventLog;" ∈ gw := gw_t (List.mem_of_getElem? (i := 145) (by decide +kernel)) (by decide +kernel)
theorem gz_138 : Cond.constantDouble RX4 32 4599075939470750515 ∈ gw := gw_t (List.mem_of_getElem? (i := 138) (by decide +kernel)) (by decide +kernel)
theorem gz_148 : Cond.fieldLink RX4 34 RX4 "requiredMargin" "D" ∈ gw := gw_t (List.mem_of_getElem? (i := 148) (by decide +kernel)) (by decide +kernel)
theorem gz_164 : Cond.methodLink RX5 3 objectInit ∈ gw := gw_t (List.mem_of_getElem? (i := 164) (by decide +kernel)) (by decide +kernel)
theorem gz_165 : Cond.classLink RX5 9 RX4 ∈ gw := gw_t (List.mem_of_getElem? (i := 165) (by decide +kernel)) (by decide +kernel)
theorem gz_171 : Cond.fieldLink RX5 11 RX5 "saved" "[LFeederProtection$State;" ∈ gw := gw_t (List.mem_of_getElem? (i := 171) (by decide +kernel)) (by decide +kernel)
theorem gz_30 : Cond.instantiable RX4 4 ∈ gw := gw_t (List.mem_of_getElem? (i := 30) (by decide +kernel)) (by decide +kernel)
theorem gz_2 : Cond.initialized RX4 ∈ gw := gw_t (List.mem_of_getElem? (i := 2) (by decide +kernel)) (by decide +kernel)
theorem gz_167 : Cond.methodLink RX5 17 yX4_init ∈ gw := gw_t (List.mem_of_getElem? (i := 167) (by decide +kernel)) (by decide +kernel)
theorem gz_32 : Cond.instanceMethod yX4_init ∈ gw := gw_t (List.mem_of_getElem? (i := 32) (by decide +kernel)) (by decide +kernel)
theorem gz_33 : Cond.code yX4_init cX4_init 1 none ∈ gw := gw_t (List.mem_of_getElem? (i := 33) (by decide +kernel)) (by decide +kernel)
theorem gz_26 : Cond.methodLink RX6 3 objectInit ∈ gw := gw_t (List.mem_of_getElem? (i := 26) (by decide +kernel)) (by decide +kernel)
theorem gz_29 : Cond.classLink RX6 9 RX4 ∈ gw := gw_t (List.mem_of_getElem? (i := 29) (by decide +kernel)) (by decide +kernel)
theorem gz_31 : Cond.methodLink RX6 11 yX4_init ∈ gw := gw_t (List.mem_of_getElem? (i := 31) (by decide +kernel)) (by decide +kernel)
theorem gz_204 : Cond.fieldLink RX6 12 RX6 "state" "LFeederProtection$State;" ∈ gw := gw_t (List.mem_of_getElem? (i := 204) (by decide +kernel)) (by decide +kernel)
theorem gz_159 : Cond.classLink RX6 16 RX5 ∈ gw := gw_t (List.mem_of_getElem? (i := 159) (by decide +kernel)) (by decide +kernel)
theorem gz_160 : Cond.instantiable RX5 3 ∈ gw := gw_t (List.mem_of_getElem? (i := 160) (by decide +kernel)) (by decide +kernel)
theorem gz_7 : Cond.initialized RX5 ∈ gw := gw_t (List.mem_of_getElem? (i := 7) (by decide +kernel)) (by decide +kernel)
theorem gz_161 : Cond.methodLink RX6 18 yX5_init ∈ gw := gw_t (List.mem_of_getElem? (i := 161) (by decide +kernel)) (by decide +kernel)
theorem gz_162 : Cond.instanceMethod yX5_init ∈ gw := gw_t (List.mem_of_getElem? (i := 162) (by decide +kernel)) (by decide +kernel)
theorem gz_163 : Cond.code yX5_init cX5_init 2 none ∈ gw := gw_t (List.mem_of_getElem? (i := 163) (by decide +kernel)) (by decide +kernel)
theorem gz_205 : Cond.fieldLink RX6 19 RX6 "undoStack" "LFeederProtection$UndoStack;" ∈ gw := gw_t (List.mem_of_getElem? (i := 205) (by decide +kernel)) (by decide +kernel)
theorem gz_179 : Cond.classLink RX6 23 RX3 ∈ gw := gw_t (List.mem_of_getElem? (i := 179) (by decide +kernel)) (by decide +kernel)
theorem gz_180 : Cond.instantiable RX3 6 ∈ gw := gw_t (List.mem_of_getElem? (i := 180) (by decide +kernel)) (by decide +kernel)
theorem gz_8 : Cond.initialized RX3 ∈ gw := gw_t (List.mem_of_getElem? (i := 8) (by decide +kernel)) (by decide +kernel)
theorem gz_181 : Cond.methodLink RX6 25 yX3_init ∈ gw := gw_t (List.mem_of_getElem? (i := 181) (by decide +kernel)) (by decide +kernel)
theorem gz_182 : Cond.instanceMethod yX3_init ∈ gw := gw_t (List.mem_of_getElem? (i := 182) (by decide +kernel)) (by decide +kernel)
theorem gz_183 : Cond.code yX3_init cX3_init 1 none ∈ gw := gw_t (List.mem_of_getElem? (i := 183) (by decide +kernel)) (by decide +kernel)
theorem gz_206 : Cond.fieldLink RX6 26 RX6 "simulation" "LFeederProtection$Simulation;" ∈ gw := gw_t (List.mem_of_getElem? (i := 206) (by decide +kernel)) (by decide +kernel)
theorem gz_745 : Cond.methodLink RX7 1 objectInit ∈ gw := gw_t (List.mem_of_getElem? (i := 745) (by decide +kernel)) (by decide +kernel)
theorem gz_749 : Cond.fieldLink RX7 7 RX7 "w" "[I" ∈ gw := gw_t (List.mem_of_getElem? (i := 749) (by decide +kernel)) (by decide +kernel)
theorem gz_750 : Cond.fieldLink RX7 13 RX7 "x" "[D" ∈ gw := gw_t (List.mem_of_getElem? (i := 750) (by decide +kernel)) (by decide +kernel)
theorem gz_751 : Cond.fieldLink RX7 17 RX7 "savedWhole" "[I" ∈ gw := gw_t (List.mem_of_getElem? (i := 751) (by decide +kernel)) (by decide +kernel)
theorem gz_752 : Cond.fieldLink RX7 20 RX7 "savedReal" "[D" ∈ gw := gw_t (List.mem_of_getElem? (i := 752) (by decide +kernel)) (by decide +kernel)
theorem gz_754 : Cond.fieldLink RX7 23 RX7 "path" "[I" ∈ gw := gw_t (List.mem_of_getElem? (i := 754) (by decide +kernel)) (by decide +kernel)
theorem gz_756 : Cond.fieldLink RX7 26 RX7 "order" "[I" ∈ gw := gw_t (List.mem_of_getElem? (i := 756) (by decide +kernel)) (by decide +kernel)
theorem gz_757 : Cond.fieldLink RX7 29 RX7 "trips" "[D" ∈ gw := gw_t (List.mem_of_getElem? (i := 757) (by decide +kernel)) (by decide +kernel)
theorem gz_759 : Cond.fieldLink RX7 32 RX7 "opening" "[I" ∈ gw := gw_t (List.mem_of_getElem? (i := 759) (by decide +kernel)) (by decide +kernel)
theorem gz_760 : Cond.fieldLink RX7 35 RX7 "openingTime" "[D" ∈ gw := gw_t (List.mem_of_getElem? (i := 760) (by decide +kernel)) (by decide +kernel)
theorem gz_762 : Cond.fieldLink RX7 38 RX7 "openCounts" "[I" ∈ gw := gw_t (List.mem_of_getElem? (i := 762) (by decide +kernel)) (by decide +kernel)
theorem gz_746 : Cond.constantDouble RX7 41 4666723172467343360 ∈ gw := gw_t (List.mem_of_getElem? (i := 746) (by decide +kernel)) (by decide +kernel)
theorem gz_747 : Cond.constantDouble RX7 43 4599075939470750515 ∈ gw := gw_t (List.mem_of_getElem? (i := 747) (by decide +kernel)) (by decide +kernel)
def dfX0 : List Value := [.int 0, .null, .null, .double 0]
theorem dfX0_ok : ∀ j, j < 4 → defaultValue (tyX0 j) = vp_V dfX0 j := fun j hj => by
  match j, hj with
  | 0, _ => rfl
  | 1, _ => rfl
  | 2, _ => rfl
  | 3, _ => rfl
  | j + 4, z => exact absurd z (by omega)
def dfX1 : List Value := [.double 0, .double 0, .int 0, .null, .null, .null, .null]
theorem dfX1_ok : ∀ j, j < 7 → defaultValue (tyX1 j) = vp_V dfX1 j := fun j hj => by
  match j, hj with
  | 0, _ => rfl
  | 1, _ => rfl
  | 2, _ => rfl
  | 3, _ => rfl
  | 4, _ => rfl
  | 5, _ => rfl
  | 6, _ => rfl
  | j + 7, z => exact absurd z (by omega)
def dfX2 : List Value := [.null, .null, .null, .null, .null, .int 0, .int 0]
theorem dfX2_ok : ∀ j, j < 7 → defaultValue (tyX2 j) = vp_V dfX2 j := fun j hj => by
  match j, hj with
  | 0, _ => rfl
  | 1, _ => rfl
  | 2, _ => rfl
  | 3, _ => rfl
  | 4, _ => rfl
  | 5, _ => rfl
  | 6, _ => rfl
  | j + 7, z => exact absurd z (by omega)
def dfX3 : List Value := [.null, .int 0, .null, .null, .int 0, .null]
theorem dfX3_ok : ∀ j, j < 6 → defaultValue (tyX3 j) = vp_V dfX3 j := fun j hj => by
  match j, hj with
  | 0, _ => rfl
  | 1, _ => rfl
  | 2, _ => rfl
  | 3, _ => rfl
  | 4, _ => rfl
  | 5, _ => rfl
  | j + 6, z => exact absurd z (by omega)
def dfX4 : List Value := [.null, .null, .null, .double 0]
theorem dfX4_ok : ∀ j, j < 4 → defaultValue (tyX4 j) = vp_V dfX4 j := fun j hj => by
  match j, hj with
  | 0, _ => rfl
  | 1, _ => rfl
  | 2, _ => rfl
  | 3, _ => rfl
  | j + 4, z => exact absurd z (by omega)
def dfX5 : List Value := [.int 0, .int 0, .null]
theorem dfX5_ok : ∀ j, j < 3 → defaultValue (tyX5 j) = vp_V dfX5 j := fun j hj => by
  match j, hj with
  | 0, _ => rfl
  | 1, _ => rfl
  | 2, _ => rfl
  | j + 3, z => exact absurd z (by omega)
def dfX6 : List Value := [.null, .null, .null]
theorem dfX6_ok : ∀ j, j < 3 → defaultValue (tyX6 j) = vp_V dfX6 j := fun j hj => by
  match j, hj with
  | 0, _ => rfl
  | 1, _ => rfl
  | 2, _ => rfl
  | j + 3, z => exact absurd z (by omega)
def dfX7 : List Value := [.int 0, .null, .null, .null, .null, .int 0, .null, .int 0, .null, .null, .int 0, .null, .null, .int 0, .null]
theorem dfX7_ok : ∀ j, j < 15 → defaultValue (tyX7 j) = vp_V dfX7 j := fun j hj => by
  match j, hj with
  | 0, _ => rfl
  | 1, _ => rfl
  | 2, _ => rfl
  | 3, _ => rfl
  | 4, _ => rfl
  | 5, _ => rfl
  | 6, _ => rfl
  | 7, _ => rfl
  | 8, _ => rfl
  | 9, _ => rfl
  | 10, _ => rfl
  | 11, _ => rfl
  | 12, _ => rfl
  | 13, _ => rfl
  | 14, _ => rfl
  | j + 15, z => exact absurd z (by omega)
abbrev Tc : Type := Nat → ClassId
def fill12 (f : Nat → Int32) (v : Int32) : Nat → Int32 := vf_upd (vf_upd (vf_upd (vf_upd (vf_upd (vf_upd (vf_upd (vf_upd (vf_upd (vf_upd (vf_upd (vf_upd (f) 0 v) 1 v) 2 v) 3 v) 4 v) 5 v) 6 v) 7 v) 8 v) 9 v) 10 v) 11 v
def tEv (tc : Tc) (a : Nat → Nat) : va_W := [(a 0, .inr (0, [.int 0, .ref (a 1), .ref (a 2), .double 0])), (a 1, .inl (tc 0, 60, .inl (fun _ => 0))), (a 2, .inl (tc 1, 60, .inr (.inr (.inr (.inl (fun _ => 0))))))]
def tNe (tc : Tc) (a : Nat → Nat) : va_W := [(a 0, .inr (1, [.double 4666723172467343360, .double 4607182418800017408, .int 0, .ref (a 1), .ref (a 2), .ref (a 3), .ref (a 4)])), (a 1, .inl (tc 0, 12, .inl (fun _ => 0))), (a 2, .inl (tc 0, 12, .inl (fun _ => 0))), (a 3, .inl (tc 1, 12, .inr (.inr (.inr (.inl (fun _ => 0)))))), (a 4, .inl (tc 0, 12, .inl (fun _ => 0)))]
def tRe (tc : Tc) (a : Nat → Nat) : va_W := [(a 0, .inr (2, [.ref (a 1), .ref (a 2), .ref (a 3), .ref (a 4), .ref (a 5), .int 0, .int 0])), (a 1, .inl (tc 0, 12, .inl (fill12 (fun _ => 0) 100))), (a 2, .inl (tc 0, 12, .inl (fun _ => 0))), (a 3, .inl (tc 0, 12, .inl (fill12 (fun _ => 0) 1))), (a 4, .inl (tc 0, 12, .inl (fun _ => 0))), (a 5, .inl (tc 0, 12, .inl (fun _ => 0)))]
def tSi (tc : Tc) (a : Nat → Nat) : va_W := [(a 0, .inr (3, [.ref (a 1), .int 0, .ref (a 2), .ref (a 3), .int 0, .ref (a 4)])), (a 1, .inl (tc 0, 12, .inl (fun _ => 0))), (a 2, .inl (tc 1, 12, .inr (.inr (.inr (.inl (fun _ => 0)))))), (a 3, .inl (tc 0, 12, .inl (fun _ => 0))), (a 4, .inl (tc 0, 12, .inl (fun _ => 0)))]
def tSt (tc : Tc) (a : Nat → Nat) : va_W := (a 0, .inr (4, [.ref (a 1), .ref (a 6), .ref (a 12), .double 4599075939470750515])) :: (tNe tc (fun i => a (i + 1)) ++ (tRe tc (fun i => a (i + 6)) ++ tEv tc (fun i => a (i + 12))))
def q4 (a b c d : Nat) : Nat → Option Nat := va_up (va_up (va_up (va_up (fun _ => none) 0 (some a)) 1 (some b)) 2 (some c)) 3 (some d)
def tUn (tc : Tc) (u q : Nat) (a0 a1 a2 a3 : Nat → Nat) : va_W := (u, .inr (5, [.int 0, .int 0, .ref q])) :: (q, .inl (tc 3, 4, .inr (.inr (.inr (.inr (q4 (a0 0) (a1 0) (a2 0) (a3 0))))))) :: (tSt tc a0 ++ (tSt tc a1 ++ (tSt tc a2 ++ tSt tc a3)))
def tFp (tc : Tc) (h u q : Nat) (b a0 a1 a2 a3 s : Nat → Nat) : va_W := (h, .inr (6, [.ref (b 0), .ref u, .ref (s 0)])) :: (tSt tc b ++ (tUn tc u q a0 a1 a2 a3 ++ tSi tc s))
def tMo (tc : Tc) (a : Nat → Nat) : va_W := [(a 0, .inr (7, [.int 0, .ref (a 1), .ref (a 2), .ref (a 3), .ref (a 4), .int 0, .ref (a 5), .int 0, .ref (a 6), .ref (a 7), .int 0, .ref (a 8), .ref (a 9), .int 0, .ref (a 10)])), (a 1, .inl (tc 0, 170, .inl (fun _ => 0))), (a 2, .inl (tc 1, 76, .inr (.inr (.inr (.inl (vf_upd (vf_upd (vf_upd (fun _ => 0) 0 4666723172467343360) 1 4607182418800017408) 2 4599075939470750515)))))), (a 3, .inl (tc 0, 680, .inl (fun _ => 0))), (a 4, .inl (tc 1, 304, .inr (.inr (.inr (.inl (fun _ => 0)))))), (a 5, .inl (tc 0, 12, .inl (fun _ => 0))), (a 6, .inl (tc 0, 12, .inl (fun _ => 0))), (a 7, .inl (tc 1, 12, .inr (.inr (.inr (.inl (fun _ => 0)))))), (a 8, .inl (tc 0, 12, .inl (fun _ => 0))), (a 9, .inl (tc 1, 12, .inr (.inr (.inr (.inl (fun _ => 0)))))), (a 10, .inl (tc 0, 12, .inl (fun _ => 0)))]
set_option maxHeartbeats 2000000 in
theorem k_fill {Y : Launch × va_G × (Nat → ClassId)} {q0 a : Nat} {v : Int32} {f : Nat → Int32} {ws : va_W} (he : ws[q0]? = some (a, .inl (Y.2.2 0, 12, .inl f))) : CT Y mJ7_fill_53178 ws [.ref a, .int v] 0 0 (fun w => w = ws.set q0 (a, .inl (Y.2.2 0, 12, .inl (fill12 f v)))) := by
  have hq0 : q0 < ws.length := (List.getElem?_eq_some_iff.mp he).1
  refine CT_of (by decide +kernel) (Nat.le_of_ble_eq_true rfl) (fun X h hY hQ hI => ?_)
  subst hY
  refine g_ic h (v := 0) (by decide +kernel) dJ7_fill_53178_0 ?_
  refine g_is h rfl dJ7_fill_53178_1 (by decide) ?_
  refine g_al h rfl dJ7_fill_53178_2 rfl ?_
  refine g_alen h (v := 12) he rfl dJ7_fill_53178_3 ?_
  refine g_is h rfl dJ7_fill_53178_4 (by decide) ?_
  refine g_il h rfl dJ7_fill_53178_5 rfl ?_
  refine g_il h rfl dJ7_fill_53178_6 rfl ?_
  refine g_geF h (tgt := 20) (by decide +kernel) dJ7_fill_53178_7 (by decide) ?_
  refine g_al h rfl dJ7_fill_53178_10 rfl ?_
  refine g_il h rfl dJ7_fill_53178_11 rfl ?_
  refine g_il h rfl dJ7_fill_53178_12 rfl ?_
  refine g_ist h (q0 := q0) (f := f) (j := 0) he (by unfold vp_in; decide +kernel) (by decide +kernel) dJ7_fill_53178_13 ?_
  refine g_iinc h (v' := 1) rfl (by decide +kernel) (by decide) dJ7_fill_53178_14 ?_
  refine g_go h (tgt := 5) dJ7_fill_53178_17 (by decide) ?_
  refine g_il h rfl dJ7_fill_53178_5 rfl ?_
  refine g_il h rfl dJ7_fill_53178_6 rfl ?_
  refine g_geF h (tgt := 20) (by decide +kernel) dJ7_fill_53178_7 (by decide) ?_
  refine g_al h rfl dJ7_fill_53178_10 rfl ?_
  refine g_il h rfl dJ7_fill_53178_11 rfl ?_
  refine g_il h rfl dJ7_fill_53178_12 rfl ?_
  refine g_ist h (q0 := q0) (f := (vf_upd f 0 v)) (j := 1) (List.getElem?_set_self hq0) (by unfold vp_in; decide +kernel) (by decide +kernel) dJ7_fill_53178_13 ?_
  rw [List.set_set]
  refine g_iinc h (v' := 2) rfl (by decide +kernel) (by decide) dJ7_fill_53178_14 ?_
  refine g_go h (tgt := 5) dJ7_fill_53178_17 (by decide) ?_
  refine g_il h rfl dJ7_fill_53178_5 rfl ?_
  refine g_il h rfl dJ7_fill_53178_6 rfl ?_
  refine g_geF h (tgt := 20) (by decide +kernel) dJ7_fill_53178_7 (by decide) ?_
  refine g_al h rfl dJ7_fill_53178_10 rfl ?_
  refine g_il h rfl dJ7_fill_53178_11 rfl ?_
  refine g_il h rfl dJ7_fill_53178_12 rfl ?_
  refine g_ist h (q0 := q0) (f := (vf_upd (vf_upd f 0 v) 1 v)) (j := 2) (List.getElem?_set_self hq0) (by unfold vp_in; decide +kernel) (by decide +kernel) dJ7_fill_53178_13 ?_
  rw [List.set_set]
  refine g_iinc h (v' := 3) rfl (by decide +kernel) (by decide) dJ7_fill_53178_14 ?_
  refine g_go h (tgt := 5) dJ7_fill_53178_17 (by decide) ?_
  refine g_il h rfl dJ7_fill_53178_5 rfl ?_
  refine g_il h rfl dJ7_fill_53178_6 rfl ?_
  refine g_geF h (tgt := 20) (by decide +kernel) dJ7_fill_53178_7 (by decide) ?_
  refine g_al h rfl dJ7_fill_53178_10 rfl ?_
  refine g_il h rfl dJ7_fill_53178_11 rfl ?_
  refine g_il h rfl dJ7_fill_53178_12 rfl ?_
  refine g_ist h (q0 := q0) (f := (vf_upd (vf_upd (vf_upd f 0 v) 1 v) 2 v)) (j := 3) (List.getElem?_set_self hq0) (by unfold vp_in; decide +kernel) (by decide +kernel) dJ7_fill_53178_13 ?_
  rw [List.set_set]
  refine g_iinc h (v' := 4) rfl (by decide +kernel) (by decide) dJ7_fill_53178_14 ?_
  refine g_go h (tgt := 5) dJ7_fill_53178_17 (by decide) ?_
  refine g_il h rfl dJ7_fill_53178_5 rfl ?_
  refine g_il h rfl dJ7_fill_53178_6 rfl ?_
  refine g_geF h (tgt := 20) (by decide +kernel) dJ7_fill_53178_7 (by decide) ?_
  refine g_al h rfl dJ7_fill_53178_10 rfl ?_
  refine g_il h rfl dJ7_fill_53178_11 rfl ?_
  refine g_il h rfl dJ7_fill_53178_12 rfl ?_
  refine g_ist h (q0 := q0) (f := (vf_upd (vf_upd (vf_upd (vf_upd f 0 v) 1 v) 2 v) 3 v)) (j := 4) (List.getElem?_set_self hq0) (by unfold vp_in; decide +kernel) (by decide +kernel) dJ7_fill_53178_13 ?_
  rw [List.set_set]
  refine g_iinc h (v' := 5) rfl (by decide +kernel) (by decide) dJ7_fill_53178_14 ?_
  refine g_go h (tgt := 5) dJ7_fill_53178_17 (by decide) ?_
  refine g_il h rfl dJ7_fill_53178_5 rfl ?_
  refine g_il h rfl dJ7_fill_53178_6 rfl ?_
  refine g_geF h (tgt := 20) (by decide +kernel) dJ7_fill_53178_7 (by decide) ?_
  refine g_al h rfl dJ7_fill_53178_10 rfl ?_
  refine g_il h rfl dJ7_fill_53178_11 rfl ?_
  refine g_il h rfl dJ7_fill_53178_12 rfl ?_
  refine g_ist h (q0 := q0) (f := (vf_upd (vf_upd (vf_upd (vf_upd (vf_upd f 0 v) 1 v) 2 v) 3 v) 4 v)) (j := 5) (List.getElem?_set_self hq0) (by unfold vp_in; decide +kernel) (by decide +kernel) dJ7_fill_53178_13 ?_
  rw [List.set_set]
  refine g_iinc h (v' := 6) rfl (by decide +kernel) (by decide) dJ7_fill_53178_14 ?_
  refine g_go h (tgt := 5) dJ7_fill_53178_17 (by decide) ?_
  refine g_il h rfl dJ7_fill_53178_5 rfl ?_
  refine g_il h rfl dJ7_fill_53178_6 rfl ?_
  refine g_geF h (tgt := 20) (by decide +kernel) dJ7_fill_53178_7 (by decide) ?_
  refine g_al h rfl dJ7_fill_53178_10 rfl ?_
  refine g_il h rfl dJ7_fill_53178_11 rfl ?_
  refine g_il h rfl dJ7_fill_53178_12 rfl ?_
  refine g_ist h (q0 := q0) (f := (vf_upd (vf_upd (vf_upd (vf_upd (vf_upd (vf_upd f 0 v) 1 v) 2 v) 3 v) 4 v) 5 v)) (j := 6) (List.getElem?_set_self hq0) (by unfold vp_in; decide +kernel) (by decide +kernel) dJ7_fill_53178_13 ?_
  rw [List.set_set]
  refine g_iinc h (v' := 7) rfl (by decide +kernel) (by decide) dJ7_fill_53178_14 ?_
  refine g_go h (tgt := 5) dJ7_fill_53178_17 (by decide) ?_
  refine g_il h rfl dJ7_fill_53178_5 rfl ?_
  refine g_il h rfl dJ7_fill_53178_6 rfl ?_
  refine g_geF h (tgt := 20) (by decide +kernel) dJ7_fill_53178_7 (by decide) ?_
  refine g_al h rfl dJ7_fill_53178_10 rfl ?_
  refine g_il h rfl dJ7_fill_53178_11 rfl ?_
  refine g_il h rfl dJ7_fill_53178_12 rfl ?_
  refine g_ist h (q0 := q0) (f := (vf_upd (vf_upd (vf_upd (vf_upd (vf_upd (vf_upd (vf_upd f 0 v) 1 v) 2 v) 3 v) 4 v) 5 v) 6 v)) (j := 7) (List.getElem?_set_self hq0) (by unfold vp_in; decide +kernel) (by decide +kernel) dJ7_fill_53178_13 ?_
  rw [List.set_set]
  refine g_iinc h (v' := 8) rfl (by decide +kernel) (by decide) dJ7_fill_53178_14 ?_
  refine g_go h (tgt := 5) dJ7_fill_53178_17 (by decide) ?_
  refine g_il h rfl dJ7_fill_53178_5 rfl ?_
  refine g_il h rfl dJ7_fill_53178_6 rfl ?_
  refine g_geF h (tgt := 20) (by decide +kernel) dJ7_fill_53178_7 (by decide) ?_
  refine g_al h rfl dJ7_fill_53178_10 rfl ?_
  refine g_il h rfl dJ7_fill_53178_11 rfl ?_
  refine g_il h rfl dJ7_fill_53178_12 rfl ?_
  refine g_ist h (q0 := q0) (f := (vf_upd (vf_upd (vf_upd (vf_upd (vf_upd (vf_upd (vf_upd (vf_upd f 0 v) 1 v) 2 v) 3 v) 4 v) 5 v) 6 v) 7 v)) (j := 8) (List.getElem?_set_self hq0) (by unfold vp_in; decide +kernel) (by decide +kernel) dJ7_fill_53178_13 ?_
  rw [List.set_set]
  refine g_iinc h (v' := 9) rfl (by decide +kernel) (by decide) dJ7_fill_53178_14 ?_
  refine g_go h (tgt := 5) dJ7_fill_53178_17 (by decide) ?_
  refine g_il h rfl dJ7_fill_53178_5 rfl ?_
  refine g_il h rfl dJ7_fill_53178_6 rfl ?_
  refine g_geF h (tgt := 20) (by decide +kernel) dJ7_fill_53178_7 (by decide) ?_
  refine g_al h rfl dJ7_fill_53178_10 rfl ?_
  refine g_il h rfl dJ7_fill_53178_11 rfl ?_
  refine g_il h rfl dJ7_fill_53178_12 rfl ?_
  refine g_ist h (q0 := q0) (f := (vf_upd (vf_upd (vf_upd (vf_upd (vf_upd (vf_upd (vf_upd (vf_upd (vf_upd f 0 v) 1 v) 2 v) 3 v) 4 v) 5 v) 6 v) 7 v) 8 v)) (j := 9) (List.getElem?_set_self hq0) (by unfold vp_in; decide +kernel) (by decide +kernel) dJ7_fill_53178_13 ?_
  rw [List.set_set]
  refine g_iinc h (v' := 10) rfl (by decide +kernel) (by decide) dJ7_fill_53178_14 ?_
  refine g_go h (tgt := 5) dJ7_fill_53178_17 (by decide) ?_
  refine g_il h rfl dJ7_fill_53178_5 rfl ?_
  refine g_il h rfl dJ7_fill_53178_6 rfl ?_
  refine g_geF h (tgt := 20) (by decide +kernel) dJ7_fill_53178_7 (by decide) ?_
  refine g_al h rfl dJ7_fill_53178_10 rfl ?_
  refine g_il h rfl dJ7_fill_53178_11 rfl ?_
  refine g_il h rfl dJ7_fill_53178_12 rfl ?_
  refine g_ist h (q0 := q0) (f := (vf_upd (vf_upd (vf_upd (vf_upd (vf_upd (vf_upd (vf_upd (vf_upd (vf_upd (vf_upd f 0 v) 1 v) 2 v) 3 v) 4 v) 5 v) 6 v) 7 v) 8 v) 9 v)) (j := 10) (List.getElem?_set_self hq0) (by unfold vp_in; decide +kernel) (by decide +kernel) dJ7_fill_53178_13 ?_
  rw [List.set_set]
  refine g_iinc h (v' := 11) rfl (by decide +kernel) (by decide) dJ7_fill_53178_14 ?_
  refine g_go h (tgt := 5) dJ7_fill_53178_17 (by decide) ?_
  refine g_il h rfl dJ7_fill_53178_5 rfl ?_
  refine g_il h rfl dJ7_fill_53178_6 rfl ?_
  refine g_geF h (tgt := 20) (by decide +kernel) dJ7_fill_53178_7 (by decide) ?_
  refine g_al h rfl dJ7_fill_53178_10 rfl ?_
  refine g_il h rfl dJ7_fill_53178_11 rfl ?_
  refine g_il h rfl dJ7_fill_53178_12 rfl ?_
  refine g_ist h (q0 := q0) (f := (vf_upd (vf_upd (vf_upd (vf_upd (vf_upd (vf_upd (vf_upd (vf_upd (vf_upd (vf_upd (vf_upd f 0 v) 1 v) 2 v) 3 v) 4 v) 5 v) 6 v) 7 v) 8 v) 9 v) 10 v)) (j := 11) (List.getElem?_set_self hq0) (by unfold vp_in; decide +kernel) (by decide +kernel) dJ7_fill_53178_13 ?_
  rw [List.set_set]
  refine g_iinc h (v' := 12) rfl (by decide +kernel) (by decide) dJ7_fill_53178_14 ?_
  refine g_go h (tgt := 5) dJ7_fill_53178_17 (by decide) ?_
  refine g_il h rfl dJ7_fill_53178_5 rfl ?_
  refine g_il h rfl dJ7_fill_53178_6 rfl ?_
  refine g_geT h (tgt := 20) (by decide +kernel) dJ7_fill_53178_7 (by decide) ?_
  exact g_ret h hQ rfl rfl ⟨Nat.le_refl _, Nat.le_refl _⟩ dJ7_fill_53178_20
theorem gd0_0 : decode cX0_init 0 = .ok (.aload_n 0, 1) := by decide +kernel
theorem gd0_1 : decode cX0_init 1 = .ok (.invokespecial 3, 3) := by decide +kernel
theorem gd0_4 : decode cX0_init 4 = .ok (.aload_n 0, 1) := by decide +kernel
theorem gd0_5 : decode cX0_init 5 = .ok (.bipush 60, 2) := by decide +kernel
theorem gd0_7 : decode cX0_init 7 = .ok (.newarray .int, 2) := by decide +kernel
theorem gd0_9 : decode cX0_init 9 = .ok (.putfield 9, 3) := by decide +kernel
theorem gd0_12 : decode cX0_init 12 = .ok (.aload_n 0, 1) := by decide +kernel
theorem gd0_13 : decode cX0_init 13 = .ok (.bipush 60, 2) := by decide +kernel
theorem gd0_15 : decode cX0_init 15 = .ok (.newarray .double, 2) := by decide +kernel
theorem gd0_17 : decode cX0_init 17 = .ok (.putfield 15, 3) := by decide +kernel
theorem gd0_20 : decode cX0_init 20 = .ok (.return_, 1) := by decide +kernel
set_option maxHeartbeats 2000000 in
theorem kX0_init (Y : Launch × va_G × (Nat → ClassId)) (q : Nat) : CT Y mX0_init [(q, .inr (0, dfX0))] [.ref q] 2 120 (fun ws => ∃ a : Nat → Nat, a 0 = q ∧ ws = tEv Y.2.2 a) := by
  refine CT_of (by decide +kernel) (Nat.le_of_ble_eq_true rfl) (fun X h hY hQ hI => ?_)
  subst hY
  refine g_al h rfl gd0_0 rfl ?_
  refine g_obj h gz_119 gz_27 gz_28 (by decide) gd0_1 ?_
  refine g_al h rfl gd0_4 rfl ?_
  refine g_bi h (v := 60) (by decide +kernel) gd0_5 ?_
  refine g_newI h gz_72 (N' := 60) (by decide +kernel) (by decide +kernel) (by decide) (g_rm hQ (Nat.le_of_ble_eq_true rfl) (Nat.le_of_ble_eq_true rfl)) gd0_7 (fun q1 => ?_)
  refine g_putF h (hI rfl) (q0 := 0) (ci := 0) (kf := 1) (ty := .array .int) rfl rfl giX0 tyX0 tyX0_ok nmX0 (by decide) gz_122 rfl rfl (by decide +kernel) rfl rfl (Nat.le_of_ble_eq_true rfl) gd0_9 ?_
  refine g_al h rfl gd0_12 rfl ?_
  refine g_bi h (v := 60) (by decide +kernel) gd0_13 ?_
  refine g_newD h gz_73 (N' := 60) (by decide +kernel) (by decide +kernel) (by decide) (g_rm hQ (Nat.le_of_ble_eq_true rfl) (Nat.le_of_ble_eq_true rfl)) gd0_15 (fun q2 => ?_)
  refine g_putF h (hI rfl) (q0 := 0) (ci := 0) (kf := 2) (ty := .array .double) rfl rfl giX0 tyX0 tyX0_ok nmX0 (by decide) gz_124 rfl rfl (by decide +kernel) rfl rfl (Nat.le_of_ble_eq_true rfl) gd0_17 ?_
  exact g_ret h hQ rfl ⟨fun i => [q, q1, q2].getD i 0, rfl, rfl⟩ ⟨(Nat.le_of_ble_eq_true rfl), (Nat.le_of_ble_eq_true rfl)⟩ gd0_20
theorem gd1_0 : decode cX1_init 0 = .ok (.aload_n 0, 1) := by decide +kernel
theorem gd1_1 : decode cX1_init 1 = .ok (.invokespecial 3, 3) := by decide +kernel
theorem gd1_4 : decode cX1_init 4 = .ok (.aload_n 0, 1) := by decide +kernel
theorem gd1_5 : decode cX1_init 5 = .ok (.ldc2_w 9, 3) := by decide +kernel
theorem gd1_8 : decode cX1_init 8 = .ok (.putfield 11, 3) := by decide +kernel
theorem gd1_11 : decode cX1_init 11 = .ok (.aload_n 0, 1) := by decide +kernel
theorem gd1_12 : decode cX1_init 12 = .ok (.dconst 1, 1) := by decide +kernel
theorem gd1_13 : decode cX1_init 13 = .ok (.putfield 17, 3) := by decide +kernel
theorem gd1_16 : decode cX1_init 16 = .ok (.aload_n 0, 1) := by decide +kernel
theorem gd1_17 : decode cX1_init 17 = .ok (.bipush 12, 2) := by decide +kernel
theorem gd1_19 : decode cX1_init 19 = .ok (.newarray .int, 2) := by decide +kernel
theorem gd1_21 : decode cX1_init 21 = .ok (.putfield 20, 3) := by decide +kernel
theorem gd1_24 : decode cX1_init 24 = .ok (.aload_n 0, 1) := by decide +kernel
theorem gd1_25 : decode cX1_init 25 = .ok (.bipush 12, 2) := by decide +kernel
theorem gd1_27 : decode cX1_init 27 = .ok (.newarray .int, 2) := by decide +kernel
theorem gd1_29 : decode cX1_init 29 = .ok (.putfield 24, 3) := by decide +kernel
theorem gd1_32 : decode cX1_init 32 = .ok (.aload_n 0, 1) := by decide +kernel
theorem gd1_33 : decode cX1_init 33 = .ok (.bipush 12, 2) := by decide +kernel
theorem gd1_35 : decode cX1_init 35 = .ok (.newarray .double, 2) := by decide +kernel
theorem gd1_37 : decode cX1_init 37 = .ok (.putfield 27, 3) := by decide +kernel
theorem gd1_40 : decode cX1_init 40 = .ok (.aload_n 0, 1) := by decide +kernel
theorem gd1_41 : decode cX1_init 41 = .ok (.bipush 12, 2) := by decide +kernel
theorem gd1_43 : decode cX1_init 43 = .ok (.newarray .int, 2) := by decide +kernel
theorem gd1_45 : decode cX1_init 45 = .ok (.putfield 31, 3) := by decide +kernel
theorem gd1_48 : decode cX1_init 48 = .ok (.return_, 1) := by decide +kernel
set_option maxHeartbeats 2000000 in
theorem kX1_init (Y : Launch × va_G × (Nat → ClassId)) (q : Nat) : CT Y mX1_init [(q, .inr (1, dfX1))] [.ref q] 4 48 (fun ws => ∃ a : Nat → Nat, a 0 = q ∧ ws = tNe Y.2.2 a) := by
  refine CT_of (by decide +kernel) (Nat.le_of_ble_eq_true rfl) (fun X h hY hQ hI => ?_)
  subst hY
  refine g_al h rfl gd1_0 rfl ?_
  refine g_obj h gz_40 gz_27 gz_28 (by decide) gd1_1 ?_
  refine g_al h rfl gd1_4 rfl ?_
  refine g_ld h (v := 4666723172467343360) gz_41 gd1_5 ?_
  refine g_put h (q0 := 0) (ci := 1) (kf := 0) (ty := .double) rfl rfl giX1 tyX1 tyX1_ok nmX1 (by decide) gz_42 rfl (by decide +kernel) rfl rfl (Nat.le_of_ble_eq_true rfl) gd1_8 ?_
  refine g_al h rfl gd1_11 rfl ?_
  refine g_d1 h gd1_12 ?_
  refine g_put h (q0 := 0) (ci := 1) (kf := 1) (ty := .double) rfl rfl giX1 tyX1 tyX1_ok nmX1 (by decide) gz_44 rfl (by decide +kernel) rfl rfl (Nat.le_of_ble_eq_true rfl) gd1_13 ?_
  refine g_al h rfl gd1_16 rfl ?_
  refine g_bi h (v := 12) (by decide +kernel) gd1_17 ?_
  refine g_newI h gz_72 (N' := 12) (by decide +kernel) (by decide +kernel) (by decide) (g_rm hQ (Nat.le_of_ble_eq_true rfl) (Nat.le_of_ble_eq_true rfl)) gd1_19 (fun q1 => ?_)
  refine g_putF h (hI rfl) (q0 := 0) (ci := 1) (kf := 3) (ty := .array .int) rfl rfl giX1 tyX1 tyX1_ok nmX1 (by decide) gz_49 rfl rfl (by decide +kernel) rfl rfl (Nat.le_of_ble_eq_true rfl) gd1_21 ?_
  refine g_al h rfl gd1_24 rfl ?_
  refine g_bi h (v := 12) (by decide +kernel) gd1_25 ?_
  refine g_newI h gz_72 (N' := 12) (by decide +kernel) (by decide +kernel) (by decide) (g_rm hQ (Nat.le_of_ble_eq_true rfl) (Nat.le_of_ble_eq_true rfl)) gd1_27 (fun q2 => ?_)
  refine g_putF h (hI rfl) (q0 := 0) (ci := 1) (kf := 4) (ty := .array .int) rfl rfl giX1 tyX1 tyX1_ok nmX1 (by decide) gz_51 rfl rfl (by decide +kernel) rfl rfl (Nat.le_of_ble_eq_true rfl) gd1_29 ?_
  refine g_al h rfl gd1_32 rfl ?_
  refine g_bi h (v := 12) (by decide +kernel) gd1_33 ?_
  refine g_newD h gz_73 (N' := 12) (by decide +kernel) (by decide +kernel) (by decide) (g_rm hQ (Nat.le_of_ble_eq_true rfl) (Nat.le_of_ble_eq_true rfl)) gd1_35 (fun q3 => ?_)
  refine g_putF h (hI rfl) (q0 := 0) (ci := 1) (kf := 5) (ty := .array .double) rfl rfl giX1 tyX1 tyX1_ok nmX1 (by decide) gz_53 rfl rfl (by decide +kernel) rfl rfl (Nat.le_of_ble_eq_true rfl) gd1_37 ?_
  refine g_al h rfl gd1_40 rfl ?_
  refine g_bi h (v := 12) (by decide +kernel) gd1_41 ?_
  refine g_newI h gz_72 (N' := 12) (by decide +kernel) (by decide +kernel) (by decide) (g_rm hQ (Nat.le_of_ble_eq_true rfl) (Nat.le_of_ble_eq_true rfl)) gd1_43 (fun q4 => ?_)
  refine g_putF h (hI rfl) (q0 := 0) (ci := 1) (kf := 6) (ty := .array .int) rfl rfl giX1 tyX1 tyX1_ok nmX1 (by decide) gz_55 rfl rfl (by decide +kernel) rfl rfl (Nat.le_of_ble_eq_true rfl) gd1_45 ?_
  exact g_ret h hQ rfl ⟨fun i => [q, q1, q2, q3, q4].getD i 0, rfl, rfl⟩ ⟨(Nat.le_of_ble_eq_true rfl), (Nat.le_of_ble_eq_true rfl)⟩ gd1_48
theorem gd2_0 : decode cX2_init 0 = .ok (.aload_n 0, 1) := by decide +kernel
theorem gd2_1 : decode cX2_init 1 = .ok (.invokespecial 3, 3) := by decide +kernel
theorem gd2_4 : decode cX2_init 4 = .ok (.aload_n 0, 1) := by decide +kernel
theorem gd2_5 : decode cX2_init 5 = .ok (.bipush 12, 2) := by decide +kernel
theorem gd2_7 : decode cX2_init 7 = .ok (.newarray .int, 2) := by decide +kernel
theorem gd2_9 : decode cX2_init 9 = .ok (.putfield 9, 3) := by decide +kernel
theorem gd2_12 : decode cX2_init 12 = .ok (.aload_n 0, 1) := by decide +kernel
theorem gd2_13 : decode cX2_init 13 = .ok (.bipush 12, 2) := by decide +kernel
theorem gd2_15 : decode cX2_init 15 = .ok (.newarray .int, 2) := by decide +kernel
theorem gd2_17 : decode cX2_init 17 = .ok (.putfield 15, 3) := by decide +kernel
theorem gd2_20 : decode cX2_init 20 = .ok (.aload_n 0, 1) := by decide +kernel
theorem gd2_21 : decode cX2_init 21 = .ok (.bipush 12, 2) := by decide +kernel
theorem gd2_23 : decode cX2_init 23 = .ok (.newarray .int, 2) := by decide +kernel
theorem gd2_25 : decode cX2_init 25 = .ok (.putfield 18, 3) := by decide +kernel
theorem gd2_28 : decode cX2_init 28 = .ok (.aload_n 0, 1) := by decide +kernel
theorem gd2_29 : decode cX2_init 29 = .ok (.bipush 12, 2) := by decide +kernel
theorem gd2_31 : decode cX2_init 31 = .ok (.newarray .int, 2) := by decide +kernel
theorem gd2_33 : decode cX2_init 33 = .ok (.putfield 21, 3) := by decide +kernel
theorem gd2_36 : decode cX2_init 36 = .ok (.aload_n 0, 1) := by decide +kernel
theorem gd2_37 : decode cX2_init 37 = .ok (.bipush 12, 2) := by decide +kernel
theorem gd2_39 : decode cX2_init 39 = .ok (.newarray .int, 2) := by decide +kernel
theorem gd2_41 : decode cX2_init 41 = .ok (.putfield 24, 3) := by decide +kernel
theorem gd2_44 : decode cX2_init 44 = .ok (.aload_n 0, 1) := by decide +kernel
theorem gd2_45 : decode cX2_init 45 = .ok (.getfield 9, 3) := by decide +kernel
theorem gd2_48 : decode cX2_init 48 = .ok (.bipush 100, 2) := by decide +kernel
theorem gd2_50 : decode cX2_init 50 = .ok (.invokestatic 27, 3) := by decide +kernel
theorem gd2_53 : decode cX2_init 53 = .ok (.aload_n 0, 1) := by decide +kernel
theorem gd2_54 : decode cX2_init 54 = .ok (.getfield 18, 3) := by decide +kernel
theorem gd2_57 : decode cX2_init 57 = .ok (.iconst 1, 1) := by decide +kernel
theorem gd2_58 : decode cX2_init 58 = .ok (.invokestatic 27, 3) := by decide +kernel
theorem gd2_61 : decode cX2_init 61 = .ok (.return_, 1) := by decide +kernel
set_option maxHeartbeats 2000000 in
theorem kX2_init (Y : Launch × va_G × (Nat → ClassId)) (q : Nat) : CT Y mX2_init [(q, .inr (2, dfX2))] [.ref q] 5 60 (fun ws => ∃ a : Nat → Nat, a 0 = q ∧ ws = tRe Y.2.2 a) := by
  refine CT_of (by decide +kernel) (Nat.le_of_ble_eq_true rfl) (fun X h hY hQ hI => ?_)
  subst hY
  refine g_al h rfl gd2_0 rfl ?_
  refine g_obj h gz_79 gz_27 gz_28 (by decide) gd2_1 ?_
  refine g_al h rfl gd2_4 rfl ?_
  refine g_bi h (v := 12) (by decide +kernel) gd2_5 ?_
  refine g_newI h gz_72 (N' := 12) (by decide +kernel) (by decide +kernel) (by decide) (g_rm hQ (Nat.le_of_ble_eq_true rfl) (Nat.le_of_ble_eq_true rfl)) gd2_7 (fun q1 => ?_)
  refine g_putF h (hI rfl) (q0 := 0) (ci := 2) (kf := 0) (ty := .array .int) rfl rfl giX2 tyX2 tyX2_ok nmX2 (by decide) gz_83 rfl rfl (by decide +kernel) rfl rfl (Nat.le_of_ble_eq_true rfl) gd2_9 ?_
  refine g_al h rfl gd2_12 rfl ?_
  refine g_bi h (v := 12) (by decide +kernel) gd2_13 ?_
  refine g_newI h gz_72 (N' := 12) (by decide +kernel) (by decide +kernel) (by decide) (g_rm hQ (Nat.le_of_ble_eq_true rfl) (Nat.le_of_ble_eq_true rfl)) gd2_15 (fun q2 => ?_)
  refine g_putF h (hI rfl) (q0 := 0) (ci := 2) (kf := 1) (ty := .array .int) rfl rfl giX2 tyX2 tyX2_ok nmX2 (by decide) gz_85 rfl rfl (by decide +kernel) rfl rfl (Nat.le_of_ble_eq_true rfl) gd2_17 ?_
  refine g_al h rfl gd2_20 rfl ?_
  refine g_bi h (v := 12) (by decide +kernel) gd2_21 ?_
  refine g_newI h gz_72 (N' := 12) (by decide +kernel) (by decide +kernel) (by decide) (g_rm hQ (Nat.le_of_ble_eq_true rfl) (Nat.le_of_ble_eq_true rfl)) gd2_23 (fun q3 => ?_)
  refine g_putF h (hI rfl) (q0 := 0) (ci := 2) (kf := 2) (ty := .array .int) rfl rfl giX2 tyX2 tyX2_ok nmX2 (by decide) gz_87 rfl rfl (by decide +kernel) rfl rfl (Nat.le_of_ble_eq_true rfl) gd2_25 ?_
  refine g_al h rfl gd2_28 rfl ?_
  refine g_bi h (v := 12) (by decide +kernel) gd2_29 ?_
  refine g_newI h gz_72 (N' := 12) (by decide +kernel) (by decide +kernel) (by decide) (g_rm hQ (Nat.le_of_ble_eq_true rfl) (Nat.le_of_ble_eq_true rfl)) gd2_31 (fun q4 => ?_)
  refine g_putF h (hI rfl) (q0 := 0) (ci := 2) (kf := 3) (ty := .array .int) rfl rfl giX2 tyX2 tyX2_ok nmX2 (by decide) gz_90 rfl rfl (by decide +kernel) rfl rfl (Nat.le_of_ble_eq_true rfl) gd2_33 ?_
  refine g_al h rfl gd2_36 rfl ?_
  refine g_bi h (v := 12) (by decide +kernel) gd2_37 ?_
  refine g_newI h gz_72 (N' := 12) (by decide +kernel) (by decide +kernel) (by decide) (g_rm hQ (Nat.le_of_ble_eq_true rfl) (Nat.le_of_ble_eq_true rfl)) gd2_39 (fun q5 => ?_)
  refine g_putF h (hI rfl) (q0 := 0) (ci := 2) (kf := 4) (ty := .array .int) rfl rfl giX2 tyX2 tyX2_ok nmX2 (by decide) gz_92 rfl rfl (by decide +kernel) rfl rfl (Nat.le_of_ble_eq_true rfl) gd2_41 ?_
  refine g_al h rfl gd2_44 rfl ?_
  refine g_get h (q0 := 0) (ci := 2) (kf := 0) rfl rfl giX2 (by decide) gz_83 rfl gd2_45 ?_
  refine g_bi h (v := 100) (by decide +kernel) gd2_48 ?_
  refine g_stat (as := [.ref q1, .int 100]) (st := []) (nA := 2) h (k_fill (q0 := 1) rfl) gz_80 gz_81 gz_5 gz_82 ⟨by decide, by decide, by decide +kernel⟩ ⟨by decide, by decide⟩ rfl (g_rm hQ (Nat.le_of_ble_eq_true rfl) (Nat.le_of_ble_eq_true rfl)) (Nat.le_of_ble_eq_true rfl) gd2_50 (fun w9 hp9 => ?_)
  cases hp9
  refine g_al h rfl gd2_53 rfl ?_
  refine g_get h (q0 := 0) (ci := 2) (kf := 2) rfl rfl giX2 (by decide) gz_87 rfl gd2_54 ?_
  refine g_ic h (v := 1) (by decide +kernel) gd2_57 ?_
  refine g_stat (as := [.ref q3, .int 1]) (st := []) (nA := 2) h (k_fill (q0 := 3) rfl) gz_80 gz_81 gz_5 gz_82 ⟨by decide, by decide, by decide +kernel⟩ ⟨by decide, by decide⟩ rfl (g_rm hQ (Nat.le_of_ble_eq_true rfl) (Nat.le_of_ble_eq_true rfl)) (Nat.le_of_ble_eq_true rfl) gd2_58 (fun w9 hp9 => ?_)
  cases hp9
  exact g_ret h hQ rfl ⟨fun i => [q, q1, q2, q3, q4, q5].getD i 0, rfl, rfl⟩ ⟨(Nat.le_of_ble_eq_true rfl), (Nat.le_of_ble_eq_true rfl)⟩ gd2_61
theorem gd3_0 : decode cX3_init 0 = .ok (.aload_n 0, 1) := by decide +kernel
theorem gd3_1 : decode cX3_init 1 = .ok (.invokespecial 3, 3) := by decide +kernel
theorem gd3_4 : decode cX3_init 4 = .ok (.aload_n 0, 1) := by decide +kernel
theorem gd3_5 : decode cX3_init 5 = .ok (.bipush 12, 2) := by decide +kernel
theorem gd3_7 : decode cX3_init 7 = .ok (.newarray .int, 2) := by decide +kernel
theorem gd3_9 : decode cX3_init 9 = .ok (.putfield 9, 3) := by decide +kernel
theorem gd3_12 : decode cX3_init 12 = .ok (.aload_n 0, 1) := by decide +kernel
theorem gd3_13 : decode cX3_init 13 = .ok (.bipush 12, 2) := by decide +kernel
theorem gd3_15 : decode cX3_init 15 = .ok (.newarray .double, 2) := by decide +kernel
theorem gd3_17 : decode cX3_init 17 = .ok (.putfield 15, 3) := by decide +kernel
theorem gd3_20 : decode cX3_init 20 = .ok (.aload_n 0, 1) := by decide +kernel
theorem gd3_21 : decode cX3_init 21 = .ok (.bipush 12, 2) := by decide +kernel
theorem gd3_23 : decode cX3_init 23 = .ok (.newarray .int, 2) := by decide +kernel
theorem gd3_25 : decode cX3_init 25 = .ok (.putfield 19, 3) := by decide +kernel
theorem gd3_28 : decode cX3_init 28 = .ok (.aload_n 0, 1) := by decide +kernel
theorem gd3_29 : decode cX3_init 29 = .ok (.bipush 12, 2) := by decide +kernel
theorem gd3_31 : decode cX3_init 31 = .ok (.newarray .int, 2) := by decide +kernel
theorem gd3_33 : decode cX3_init 33 = .ok (.putfield 22, 3) := by decide +kernel
theorem gd3_36 : decode cX3_init 36 = .ok (.return_, 1) := by decide +kernel
set_option maxHeartbeats 2000000 in
theorem kX3_init (Y : Launch × va_G × (Nat → ClassId)) (q : Nat) : CT Y mX3_init [(q, .inr (3, dfX3))] [.ref q] 4 48 (fun ws => ∃ a : Nat → Nat, a 0 = q ∧ ws = tSi Y.2.2 a) := by
  refine CT_of (by decide +kernel) (Nat.le_of_ble_eq_true rfl) (fun X h hY hQ hI => ?_)
  subst hY
  refine g_al h rfl gd3_0 rfl ?_
  refine g_obj h gz_184 gz_27 gz_28 (by decide) gd3_1 ?_
  refine g_al h rfl gd3_4 rfl ?_
  refine g_bi h (v := 12) (by decide +kernel) gd3_5 ?_
  refine g_newI h gz_72 (N' := 12) (by decide +kernel) (by decide +kernel) (by decide) (g_rm hQ (Nat.le_of_ble_eq_true rfl) (Nat.le_of_ble_eq_true rfl)) gd3_7 (fun q1 => ?_)
  refine g_putF h (hI rfl) (q0 := 0) (ci := 3) (kf := 0) (ty := .array .int) rfl rfl giX3 tyX3 tyX3_ok nmX3 (by decide) gz_185 rfl rfl (by decide +kernel) rfl rfl (Nat.le_of_ble_eq_true rfl) gd3_9 ?_
  refine g_al h rfl gd3_12 rfl ?_
  refine g_bi h (v := 12) (by decide +kernel) gd3_13 ?_
  refine g_newD h gz_73 (N' := 12) (by decide +kernel) (by decide +kernel) (by decide) (g_rm hQ (Nat.le_of_ble_eq_true rfl) (Nat.le_of_ble_eq_true rfl)) gd3_15 (fun q2 => ?_)
  refine g_putF h (hI rfl) (q0 := 0) (ci := 3) (kf := 2) (ty := .array .double) rfl rfl giX3 tyX3 tyX3_ok nmX3 (by decide) gz_187 rfl rfl (by decide +kernel) rfl rfl (Nat.le_of_ble_eq_true rfl) gd3_17 ?_
  refine g_al h rfl gd3_20 rfl ?_
  refine g_bi h (v := 12) (by decide +kernel) gd3_21 ?_
  refine g_newI h gz_72 (N' := 12) (by decide +kernel) (by decide +kernel) (by decide) (g_rm hQ (Nat.le_of_ble_eq_true rfl) (Nat.le_of_ble_eq_true rfl)) gd3_23 (fun q3 => ?_)
  refine g_putF h (hI rfl) (q0 := 0) (ci := 3) (kf := 3) (ty := .array .int) rfl rfl giX3 tyX3 tyX3_ok nmX3 (by decide) gz_188 rfl rfl (by decide +kernel) rfl rfl (Nat.le_of_ble_eq_true rfl) gd3_25 ?_
  refine g_al h rfl gd3_28 rfl ?_
  refine g_bi h (v := 12) (by decide +kernel) gd3_29 ?_
  refine g_newI h gz_72 (N' := 12) (by decide +kernel) (by decide +kernel) (by decide) (g_rm hQ (Nat.le_of_ble_eq_true rfl) (Nat.le_of_ble_eq_true rfl)) gd3_31 (fun q4 => ?_)
  refine g_putF h (hI rfl) (q0 := 0) (ci := 3) (kf := 5) (ty := .array .int) rfl rfl giX3 tyX3 tyX3_ok nmX3 (by decide) gz_190 rfl rfl (by decide +kernel) rfl rfl (Nat.le_of_ble_eq_true rfl) gd3_33 ?_
  exact g_ret h hQ rfl ⟨fun i => [q, q1, q2, q3, q4].getD i 0, rfl, rfl⟩ ⟨(Nat.le_of_ble_eq_true rfl), (Nat.le_of_ble_eq_true rfl)⟩ gd3_36
