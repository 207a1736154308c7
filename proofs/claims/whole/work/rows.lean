section
-- ===== PART A: goes FIRST, ahead of the names: the tables' words, and 'selects' of the private methods out of them =====
/-- a private method of a class that the tables say can be made, by its rows of tables_1 -/
def lw_okq (q : MethodName × Nat) : Prop := (q.1.cls ≠ "java/lang/invoke/MethodHandle" ∧ q.1.cls ≠ "java/lang/invoke/VarHandle") ∧ Cond.instantiable q.1.cls q.2 ∈ tables_1 ∧ Cond.privateMethod q.1 ∈ tables_1 ∧ Cond.instanceMethod q.1 ∈ tables_1
theorem lw_p0 : lw_okq (⟨"FeederProtection$State", "keepsMargins", "(I)Z"⟩, 4) := ⟨⟨by decide +kernel, by decide +kernel⟩, List.mem_of_getElem? (i := 30) (by decide +kernel), List.mem_of_getElem? (i := 293) (by decide +kernel), List.mem_of_getElem? (i := 294) (by decide +kernel)⟩
theorem lw_p1 : lw_okq (⟨"FeederProtection", "mixedLine", "(JI)J"⟩, 3) := ⟨⟨by decide +kernel, by decide +kernel⟩, List.mem_of_getElem? (i := 22) (by decide +kernel), List.mem_of_getElem? (i := 346) (by decide +kernel), List.mem_of_getElem? (i := 347) (by decide +kernel)⟩
theorem lw_p2 : lw_okq (⟨"FeederProtection", "mixedEvents", "(J)J"⟩, 3) := ⟨⟨by decide +kernel, by decide +kernel⟩, List.mem_of_getElem? (i := 22) (by decide +kernel), List.mem_of_getElem? (i := 355) (by decide +kernel), List.mem_of_getElem? (i := 356) (by decide +kernel)⟩
theorem lw_p3 : lw_okq (⟨"java/lang/Throwable", "fillInStackTrace", "(I)Ljava/lang/Throwable;"⟩, 6) := ⟨⟨by decide +kernel, by decide +kernel⟩, List.mem_of_getElem? (i := 410) (by decide +kernel), List.mem_of_getElem? (i := 408) (by decide +kernel), List.mem_of_getElem? (i := 409) (by decide +kernel)⟩
theorem lw_p4 : lw_okq (⟨"FeederProtection", "requireLine", "(I)V"⟩, 3) := ⟨⟨by decide +kernel, by decide +kernel⟩, List.mem_of_getElem? (i := 22) (by decide +kernel), List.mem_of_getElem? (i := 494) (by decide +kernel), List.mem_of_getElem? (i := 495) (by decide +kernel)⟩
theorem lw_p5 : lw_okq (⟨"FeederProtection$State", "relaysWorseThan", "(I)I"⟩, 4) := ⟨⟨by decide +kernel, by decide +kernel⟩, List.mem_of_getElem? (i := 30) (by decide +kernel), List.mem_of_getElem? (i := 619) (by decide +kernel), List.mem_of_getElem? (i := 620) (by decide +kernel)⟩
theorem lw_p6 : lw_okq (⟨"FeederProtection$Simulation", "playRound", "(LFeederProtection$State;IDD)D"⟩, 6) := ⟨⟨by decide +kernel, by decide +kernel⟩, List.mem_of_getElem? (i := 180) (by decide +kernel), List.mem_of_getElem? (i := 672) (by decide +kernel), List.mem_of_getElem? (i := 673) (by decide +kernel)⟩
theorem lw_p7 : lw_okq (⟨"FeederProtection$Simulation", "lineUpTrips", "(LFeederProtection$Relays;IDD)V"⟩, 6) := ⟨⟨by decide +kernel, by decide +kernel⟩, List.mem_of_getElem? (i := 180) (by decide +kernel), List.mem_of_getElem? (i := 676) (by decide +kernel), List.mem_of_getElem? (i := 677) (by decide +kernel)⟩
theorem lw_p8 : lw_okq (⟨"FeederProtection$Simulation", "lineUp", "(I)V"⟩, 6) := ⟨⟨by decide +kernel, by decide +kernel⟩, List.mem_of_getElem? (i := 180) (by decide +kernel), List.mem_of_getElem? (i := 682) (by decide +kernel), List.mem_of_getElem? (i := 683) (by decide +kernel)⟩
theorem lw_p9 : lw_okq (⟨"FeederProtection$Simulation", "takeTrips", "(LFeederProtection$Relays;LFeederProtection$EventLog;)V"⟩, 6) := ⟨⟨by decide +kernel, by decide +kernel⟩, List.mem_of_getElem? (i := 180) (by decide +kernel), List.mem_of_getElem? (i := 686) (by decide +kernel), List.mem_of_getElem? (i := 687) (by decide +kernel)⟩
theorem lw_p10 : lw_okq (⟨"FeederProtection$Simulation", "openingTime", "(I)D"⟩, 6) := ⟨⟨by decide +kernel, by decide +kernel⟩, List.mem_of_getElem? (i := 180) (by decide +kernel), List.mem_of_getElem? (i := 695) (by decide +kernel), List.mem_of_getElem? (i := 696) (by decide +kernel)⟩
theorem lw_p11 : lw_okq (⟨"FeederProtection$Simulation", "openThem", "(LFeederProtection$Relays;LFeederProtection$EventLog;)V"⟩, 6) := ⟨⟨by decide +kernel, by decide +kernel⟩, List.mem_of_getElem? (i := 180) (by decide +kernel), List.mem_of_getElem? (i := 700) (by decide +kernel), List.mem_of_getElem? (i := 701) (by decide +kernel)⟩
theorem lw_p12 : lw_okq (⟨"FeederProtection$Simulation", "reclose", "(LFeederProtection$Relays;LFeederProtection$EventLog;)D"⟩, 6) := ⟨⟨by decide +kernel, by decide +kernel⟩, List.mem_of_getElem? (i := 180) (by decide +kernel), List.mem_of_getElem? (i := 704) (by decide +kernel), List.mem_of_getElem? (i := 705) (by decide +kernel)⟩
theorem lw_p13 : lw_okq (⟨"FeederProtection", "requireEvent", "(I)V"⟩, 3) := ⟨⟨by decide +kernel, by decide +kernel⟩, List.mem_of_getElem? (i := 22) (by decide +kernel), List.mem_of_getElem? (i := 717) (by decide +kernel), List.mem_of_getElem? (i := 718) (by decide +kernel)⟩
theorem lw_p14 : lw_okq (⟨"FeederProtectionModel", "save", "()V"⟩, 15) := ⟨⟨by decide +kernel, by decide +kernel⟩, List.mem_of_getElem? (i := 741) (by decide +kernel), List.mem_of_getElem? (i := 810) (by decide +kernel), List.mem_of_getElem? (i := 811) (by decide +kernel)⟩
theorem lw_p15 : lw_okq (⟨"FeederProtectionModel", "change", "(II)I"⟩, 15) := ⟨⟨by decide +kernel, by decide +kernel⟩, List.mem_of_getElem? (i := 741) (by decide +kernel), List.mem_of_getElem? (i := 828) (by decide +kernel), List.mem_of_getElem? (i := 829) (by decide +kernel)⟩
def lw_privs_1 : List (MethodName × Nat) := [(⟨"FeederProtection$State", "keepsMargins", "(I)Z"⟩, 4), (⟨"FeederProtection", "mixedLine", "(JI)J"⟩, 3), (⟨"FeederProtection", "mixedEvents", "(J)J"⟩, 3), (⟨"java/lang/Throwable", "fillInStackTrace", "(I)Ljava/lang/Throwable;"⟩, 6), (⟨"FeederProtection", "requireLine", "(I)V"⟩, 3), (⟨"FeederProtection$State", "relaysWorseThan", "(I)I"⟩, 4), (⟨"FeederProtection$Simulation", "playRound", "(LFeederProtection$State;IDD)D"⟩, 6), (⟨"FeederProtection$Simulation", "lineUpTrips", "(LFeederProtection$Relays;IDD)V"⟩, 6), (⟨"FeederProtection$Simulation", "lineUp", "(I)V"⟩, 6), (⟨"FeederProtection$Simulation", "takeTrips", "(LFeederProtection$Relays;LFeederProtection$EventLog;)V"⟩, 6), (⟨"FeederProtection$Simulation", "openingTime", "(I)D"⟩, 6), (⟨"FeederProtection$Simulation", "openThem", "(LFeederProtection$Relays;LFeederProtection$EventLog;)V"⟩, 6), (⟨"FeederProtection$Simulation", "reclose", "(LFeederProtection$Relays;LFeederProtection$EventLog;)D"⟩, 6), (⟨"FeederProtection", "requireEvent", "(I)V"⟩, 3), (⟨"FeederProtectionModel", "save", "()V"⟩, 15), (⟨"FeederProtectionModel", "change", "(II)I"⟩, 15)]
theorem lw_r1 : ∀ q ∈ lw_privs_1, lw_okq q := List.forall_mem_cons.mpr ⟨lw_p0, List.forall_mem_cons.mpr ⟨lw_p1, List.forall_mem_cons.mpr ⟨lw_p2, List.forall_mem_cons.mpr ⟨lw_p3, List.forall_mem_cons.mpr ⟨lw_p4, List.forall_mem_cons.mpr ⟨lw_p5, List.forall_mem_cons.mpr ⟨lw_p6, List.forall_mem_cons.mpr ⟨lw_p7, List.forall_mem_cons.mpr ⟨lw_p8, List.forall_mem_cons.mpr ⟨lw_p9, List.forall_mem_cons.mpr ⟨lw_p10, List.forall_mem_cons.mpr ⟨lw_p11, List.forall_mem_cons.mpr ⟨lw_p12, List.forall_mem_cons.mpr ⟨lw_p13, List.forall_mem_cons.mpr ⟨lw_p14, List.forall_mem_cons.mpr ⟨lw_p15, fun _ h => absurd h List.not_mem_nil⟩⟩⟩⟩⟩⟩⟩⟩⟩⟩⟩⟩⟩⟩⟩⟩
theorem lw_p16 : lw_okq (⟨"FeederProtectionModel", "isLine", "(I)Z"⟩, 15) := ⟨⟨by decide +kernel, by decide +kernel⟩, List.mem_of_getElem? (i := 741) (by decide +kernel), List.mem_of_getElem? (i := 836) (by decide +kernel), List.mem_of_getElem? (i := 837) (by decide +kernel)⟩
theorem lw_p17 : lw_okq (⟨"FeederProtectionModel", "loadOver", "(I)I"⟩, 15) := ⟨⟨by decide +kernel, by decide +kernel⟩, List.mem_of_getElem? (i := 741) (by decide +kernel), List.mem_of_getElem? (i := 840) (by decide +kernel), List.mem_of_getElem? (i := 841) (by decide +kernel)⟩
theorem lw_p18 : lw_okq (⟨"FeederProtectionModel", "isOver", "(II)Z"⟩, 15) := ⟨⟨by decide +kernel, by decide +kernel⟩, List.mem_of_getElem? (i := 741) (by decide +kernel), List.mem_of_getElem? (i := 844) (by decide +kernel), List.mem_of_getElem? (i := 845) (by decide +kernel)⟩
theorem lw_p19 : lw_okq (⟨"FeederProtectionModel", "above", "(I)I"⟩, 15) := ⟨⟨by decide +kernel, by decide +kernel⟩, List.mem_of_getElem? (i := 741) (by decide +kernel), List.mem_of_getElem? (i := 848) (by decide +kernel), List.mem_of_getElem? (i := 849) (by decide +kernel)⟩
theorem lw_p20 : lw_okq (⟨"FeederProtectionModel", "isLocation", "(II)Z"⟩, 15) := ⟨⟨by decide +kernel, by decide +kernel⟩, List.mem_of_getElem? (i := 741) (by decide +kernel), List.mem_of_getElem? (i := 856) (by decide +kernel), List.mem_of_getElem? (i := 857) (by decide +kernel)⟩
theorem lw_p21 : lw_okq (⟨"FeederProtectionModel", "currentAt", "(II)D"⟩, 15) := ⟨⟨by decide +kernel, by decide +kernel⟩, List.mem_of_getElem? (i := 741) (by decide +kernel), List.mem_of_getElem? (i := 860) (by decide +kernel), List.mem_of_getElem? (i := 861) (by decide +kernel)⟩
theorem lw_p22 : lw_okq (⟨"FeederProtectionModel", "findPath", "(I)V"⟩, 15) := ⟨⟨by decide +kernel, by decide +kernel⟩, List.mem_of_getElem? (i := 741) (by decide +kernel), List.mem_of_getElem? (i := 864) (by decide +kernel), List.mem_of_getElem? (i := 865) (by decide +kernel)⟩
theorem lw_p23 : lw_okq (⟨"FeederProtectionModel", "told", "(II)I"⟩, 15) := ⟨⟨by decide +kernel, by decide +kernel⟩, List.mem_of_getElem? (i := 741) (by decide +kernel), List.mem_of_getElem? (i := 889) (by decide +kernel), List.mem_of_getElem? (i := 890) (by decide +kernel)⟩
theorem lw_p24 : lw_okq (⟨"FeederProtectionModel", "timeOf", "(ID)D"⟩, 15) := ⟨⟨by decide +kernel, by decide +kernel⟩, List.mem_of_getElem? (i := 741) (by decide +kernel), List.mem_of_getElem? (i := 906) (by decide +kernel), List.mem_of_getElem? (i := 907) (by decide +kernel)⟩
theorem lw_p25 : lw_okq (⟨"FeederProtectionModel", "marginOf", "(II)D"⟩, 15) := ⟨⟨by decide +kernel, by decide +kernel⟩, List.mem_of_getElem? (i := 741) (by decide +kernel), List.mem_of_getElem? (i := 930) (by decide +kernel), List.mem_of_getElem? (i := 931) (by decide +kernel)⟩
theorem lw_p26 : lw_okq (⟨"FeederProtectionModel", "violations", "()I"⟩, 15) := ⟨⟨by decide +kernel, by decide +kernel⟩, List.mem_of_getElem? (i := 741) (by decide +kernel), List.mem_of_getElem? (i := 939) (by decide +kernel), List.mem_of_getElem? (i := 940) (by decide +kernel)⟩
theorem lw_p27 : lw_okq (⟨"FeederProtectionModel", "isViolation", "(I)Z"⟩, 15) := ⟨⟨by decide +kernel, by decide +kernel⟩, List.mem_of_getElem? (i := 741) (by decide +kernel), List.mem_of_getElem? (i := 943) (by decide +kernel), List.mem_of_getElem? (i := 944) (by decide +kernel)⟩
theorem lw_p28 : lw_okq (⟨"FeederProtectionModel", "worst", "(I)D"⟩, 15) := ⟨⟨by decide +kernel, by decide +kernel⟩, List.mem_of_getElem? (i := 741) (by decide +kernel), List.mem_of_getElem? (i := 947) (by decide +kernel), List.mem_of_getElem? (i := 948) (by decide +kernel)⟩
theorem lw_p29 : lw_okq (⟨"FeederProtectionModel", "keeps", "(I)Z"⟩, 15) := ⟨⟨by decide +kernel, by decide +kernel⟩, List.mem_of_getElem? (i := 741) (by decide +kernel), List.mem_of_getElem? (i := 963) (by decide +kernel), List.mem_of_getElem? (i := 964) (by decide +kernel)⟩
theorem lw_p30 : lw_okq (⟨"FeederProtectionModel", "round", "(DDD)D"⟩, 15) := ⟨⟨by decide +kernel, by decide +kernel⟩, List.mem_of_getElem? (i := 741) (by decide +kernel), List.mem_of_getElem? (i := 972) (by decide +kernel), List.mem_of_getElem? (i := 973) (by decide +kernel)⟩
theorem lw_p31 : lw_okq (⟨"FeederProtectionModel", "isPathOpen", "()Z"⟩, 15) := ⟨⟨by decide +kernel, by decide +kernel⟩, List.mem_of_getElem? (i := 741) (by decide +kernel), List.mem_of_getElem? (i := 976) (by decide +kernel), List.mem_of_getElem? (i := 977) (by decide +kernel)⟩
def lw_privs_2 : List (MethodName × Nat) := [(⟨"FeederProtectionModel", "isLine", "(I)Z"⟩, 15), (⟨"FeederProtectionModel", "loadOver", "(I)I"⟩, 15), (⟨"FeederProtectionModel", "isOver", "(II)Z"⟩, 15), (⟨"FeederProtectionModel", "above", "(I)I"⟩, 15), (⟨"FeederProtectionModel", "isLocation", "(II)Z"⟩, 15), (⟨"FeederProtectionModel", "currentAt", "(II)D"⟩, 15), (⟨"FeederProtectionModel", "findPath", "(I)V"⟩, 15), (⟨"FeederProtectionModel", "told", "(II)I"⟩, 15), (⟨"FeederProtectionModel", "timeOf", "(ID)D"⟩, 15), (⟨"FeederProtectionModel", "marginOf", "(II)D"⟩, 15), (⟨"FeederProtectionModel", "violations", "()I"⟩, 15), (⟨"FeederProtectionModel", "isViolation", "(I)Z"⟩, 15), (⟨"FeederProtectionModel", "worst", "(I)D"⟩, 15), (⟨"FeederProtectionModel", "keeps", "(I)Z"⟩, 15), (⟨"FeederProtectionModel", "round", "(DDD)D"⟩, 15), (⟨"FeederProtectionModel", "isPathOpen", "()Z"⟩, 15)]
theorem lw_r2 : ∀ q ∈ lw_privs_2, lw_okq q := List.forall_mem_cons.mpr ⟨lw_p16, List.forall_mem_cons.mpr ⟨lw_p17, List.forall_mem_cons.mpr ⟨lw_p18, List.forall_mem_cons.mpr ⟨lw_p19, List.forall_mem_cons.mpr ⟨lw_p20, List.forall_mem_cons.mpr ⟨lw_p21, List.forall_mem_cons.mpr ⟨lw_p22, List.forall_mem_cons.mpr ⟨lw_p23, List.forall_mem_cons.mpr ⟨lw_p24, List.forall_mem_cons.mpr ⟨lw_p25, List.forall_mem_cons.mpr ⟨lw_p26, List.forall_mem_cons.mpr ⟨lw_p27, List.forall_mem_cons.mpr ⟨lw_p28, List.forall_mem_cons.mpr ⟨lw_p29, List.forall_mem_cons.mpr ⟨lw_p30, List.forall_mem_cons.mpr ⟨lw_p31, fun _ h => absurd h List.not_mem_nil⟩⟩⟩⟩⟩⟩⟩⟩⟩⟩⟩⟩⟩⟩⟩⟩
theorem lw_p32 : lw_okq (⟨"FeederProtectionModel", "lineUp", "(DD)V"⟩, 15) := ⟨⟨by decide +kernel, by decide +kernel⟩, List.mem_of_getElem? (i := 741) (by decide +kernel), List.mem_of_getElem? (i := 981) (by decide +kernel), List.mem_of_getElem? (i := 982) (by decide +kernel)⟩
theorem lw_p33 : lw_okq (⟨"FeederProtectionModel", "trips", "(I)Z"⟩, 15) := ⟨⟨by decide +kernel, by decide +kernel⟩, List.mem_of_getElem? (i := 741) (by decide +kernel), List.mem_of_getElem? (i := 985) (by decide +kernel), List.mem_of_getElem? (i := 986) (by decide +kernel)⟩
theorem lw_p34 : lw_okq (⟨"FeederProtectionModel", "record", "(IID)V"⟩, 15) := ⟨⟨by decide +kernel, by decide +kernel⟩, List.mem_of_getElem? (i := 741) (by decide +kernel), List.mem_of_getElem? (i := 989) (by decide +kernel), List.mem_of_getElem? (i := 990) (by decide +kernel)⟩
theorem lw_p35 : lw_okq (⟨"FeederProtectionModel", "openOnes", "()I"⟩, 15) := ⟨⟨by decide +kernel, by decide +kernel⟩, List.mem_of_getElem? (i := 741) (by decide +kernel), List.mem_of_getElem? (i := 1015) (by decide +kernel), List.mem_of_getElem? (i := 1016) (by decide +kernel)⟩
def lw_privs_3 : List (MethodName × Nat) := [(⟨"FeederProtectionModel", "lineUp", "(DD)V"⟩, 15), (⟨"FeederProtectionModel", "trips", "(I)Z"⟩, 15), (⟨"FeederProtectionModel", "record", "(IID)V"⟩, 15), (⟨"FeederProtectionModel", "openOnes", "()I"⟩, 15)]
theorem lw_r3 : ∀ q ∈ lw_privs_3, lw_okq q := List.forall_mem_cons.mpr ⟨lw_p32, List.forall_mem_cons.mpr ⟨lw_p33, List.forall_mem_cons.mpr ⟨lw_p34, List.forall_mem_cons.mpr ⟨lw_p35, fun _ h => absurd h List.not_mem_nil⟩⟩⟩⟩
def lw_privs : List (MethodName × Nat) := lw_privs_1 ++ (lw_privs_2 ++ (lw_privs_3))
def lw_tbl : List Cond := k2_sels lw_privs ++ tables_1
theorem lw_privs_ok : ∀ q ∈ lw_privs, lw_okq q := by
  show ∀ q ∈ lw_privs_1 ++ (lw_privs_2 ++ (lw_privs_3)), lw_okq q
  exact List.forall_mem_append.mpr ⟨lw_r1, List.forall_mem_append.mpr ⟨lw_r2, lw_r3⟩⟩
/-- the streams that the claim lets the run draw from -/
abbrev lw_cs : List Choice := [Jvm.Choice.named "NaN.bits"]
theorem lw_bits : nanBits ∈ lw_cs := by first | decide | exact List.mem_cons_self | simp [lw_cs, nanBits]
end
section
/-! ===== BEGIN words of one list among another's, by their places ===== -/
theorem goodIn_r {big : List Cond} (ws : List Cond) (ps : List Nat) (hp : ws = ps.filterMap (fun i => big[i]?)) (h : ws.all goodWord = true) : GoodIn big ws := by
  intro w hw
  have h1 := List.all_eq_true.mp h w hw
  rw [hp] at hw
  obtain ⟨i, -, hi⟩ := List.mem_filterMap.mp hw
  have hm : w ∈ big := by first | exact List.mem_of_getElem? hi | exact List.getElem?_mem hi
  exact ⟨hm, good_of_word h1⟩
theorem goodIn_app {big a b : List Cond} (ha : GoodIn big a) (hb : GoodIn big b) : GoodIn big (a ++ b) := fun w h => (List.mem_append.mp h).elim (ha w) (hb w)
theorem goodIn_ca {big a b : List Cond} {c : Cond} (ha : GoodIn big (c :: a)) (hb : GoodIn big b) : GoodIn big (c :: (a ++ b)) := fun w h => (List.mem_cons.mp h).elim (fun e => ha w (List.mem_cons.mpr (Or.inl e))) (fun h => (List.mem_append.mp h).elim (fun h => ha w (List.mem_cons.mpr (Or.inr h))) (hb w))
theorem goodIn_sub {big ws : List Cond} (hm : ∀ w ∈ ws, w ∈ big) (h : ws.all goodWord = true) : GoodIn big ws := fun w hw => ⟨hm w hw, good_of_word (List.all_eq_true.mp h w hw)⟩
/-! ===== END ===== -/

/-! ===== BEGIN exceptions that leave a method, and their catching by the caller (launches without stack traces) ===== -/
section VXA
/-! The laws vx_back, vx_callV, vx_callS, vx_callSW, vx_throw0, vx_throwS follow proofs of the library, with one case more: JvmDerived/Free/Laws.lean (Back.of_free), Shelf42/LK1.lean (callV, callS), Shelf/KitTraced.lean (throwNew0V, throwNewS). -/
/-- where a method has thrown q: the class by its name, the cell, what was written, the world -/
def vx_T (XC : String → State → State → Prop) (st : State) (q : Addr) (t : State) (mc ms : Nat) (free : Addr → Prop) : Prop :=
  ∃ (E : String) (ce : Cell) (L : List Loc), XC E st t ∧ t.heap[q]? = some ce ∧ ce.vm = .none ∧ st.vm.findClass E = some ce.cls ∧ st.WarmedH t.vm ∧ st.sameButNew ({ t with vm := st.vm } : State) L mc ms ∧ ∀ z ∈ L, free z.base
def vx_Q (Qc : Array Value → State → Outcome → State → Prop) (XC : String → State → State → Prop) (mc ms : Nat) (free : Addr → Prop) : Array Value → State → Outcome → State → Prop := fun a st o t =>
  (Qc a st o t ∧ ∃ L, FrameEnd st o t L mc ms ∧ ∀ q ∈ L, free q.base) ∨ ∃ q, o = .threw q ∧ vx_T XC st q t mc ms free
/-- a callee that returns or throws -/
def vx_Met (l : Launch) (y : MethodName) (ws : List Cond) (rm : Room) (Pc : Array Value → State → Prop) (Qc : Array Value → State → Outcome → State → Prop) (XC : String → State → State → Prop) (mc ms : Nat) (free : Addr → Prop) : Prop :=
  MetFree l y (headSpec ws rm) Pc (fun _ _ _ _ _ => True) (vx_Q Qc XC mc ms free)
def vx_Post (XC : String → State → State → Prop) (mc ms : Nat) (free : Addr → Prop) : Pt → Array Value → Addr → Pt → Prop := fun A a q B =>
  ∃ (g : JFrame) (mk : MethodId) (t : State) (L : List Loc) (E : String) (ce : Cell), B.U.heap = t.heap ∧ B.U.vm = t.vm ∧ XC E (A.U.calling g mk a) t ∧ t.heap[q]? = some ce ∧ ce.vm = .none ∧ A.U.vm.findClass E = some ce.cls ∧ B.locs = A.locs ++ L ∧ (∀ z ∈ L, free z.base) ∧ B.cells = A.cells + mc ∧ B.slots = A.slots + ms
def vx_Back (l : Launch) (R : Room) (p : Program) (e : Env) (below : List Frame) (s : State) (sargs : Array Value) (y : MethodName) (len W9 : Nat)
    (Pre : Pt → Array Value → Prop) (Post : Pt → Array Value → Option Value → Pt → Prop) (PostX : Pt → Array Value → Addr → Pt → Prop) : Prop :=
  ∀ (m : MethodId) (meth : Method) (c : Code) (A : Pt) (g : JFrame) (ig : Instr) (mk : MethodId) (a : Array Value),
    Stand p l e R s m sargs below meth c A.U A.locs A.cells A.slots → g.method = m → g.locals.size = c.maxLocals → decode c.code g.pc = .ok (ig, len) →
    2 * g.monitorRoom + (g.stack.map fun v => v.category).sum ≤ W9 → A.U.methodNamed? y = some mk → Pre A a →
    (∃ (v : Option Value) (B : Pt), Stand p l e R s m sargs below meth c B.U B.locs B.cells B.slots ∧ Post A a v B ∧
      Steps p.tables e below (doInvoke e (A.U.setTop g) [] mk a).1 (B.U.setTop { g with pc := g.pc + len, stack := v.toList ++ g.stack })) ∨
    (∃ (q : Addr) (B : Pt), Stand p l e R s m sargs below meth c B.U B.locs B.cells B.slots ∧ PostX A a q B ∧
      Steps p.tables e below (doInvoke e (A.U.setTop g) [] mk a).1 ((B.U.setTop g).pushFrame (.throwing q)))
section Payer
variable {l : Launch} {R : Room} {p : Program} {e : Env} {below : List Frame} {s : State} {sargs : Array Value} {y : MethodName} {len W9 : Nat}
theorem vx_back {ws : List Cond} {rm : Room} {Pc : Array Value → State → Prop} {Qc : Array Value → State → Outcome → State → Prop} {XC : String → State → State → Prop} {mc ms : Nat} {free : Addr → Prop} {bytes : ByteArray} {maxL : Nat} {ret : Option FieldType}
    (hM : vx_Met l y ws rm Pc Qc XC mc ms free) (hblind : FrameBlind Pc) (hrc : rm.cells = mc) (hrs : rm.slots = ms)
    (hframes : rm.frames + 1 ≤ R.frames) (hlocals : W9 + (maxL + 11) + rm.locals ≤ R.locals)
    (hws : ∀ w ∈ ws, ∀ a' U, s.WarmedH U.vm → w.before a' U = true) (hcode : Cond.code y bytes maxL ret ∈ ws) (hinit : ∀ a' U, s.WarmedH U.vm → (Cond.initialized y.cls).before a' U = true) :
    vx_Back l R p e below s sargs y len W9 (PreOf R mc ms Pc) (PostOf Qc mc ms free) (vx_Post XC mc ms free) := by
  intro m meth c A g ig mk a X hg hsize hdg hW hn hp
  have h1 : (headSpec ws rm).pre.before a A.U = true := atoms_intro fun w hw => hws w hw _ _ X.warmed
  have h2 : (Cond.code y bytes maxL ret).before a A.U = true := hws _ hcode _ _ X.warmed
  have h3 : (Cond.initialized y.cls).before a A.U = true := hinit _ _ X.warmed
  have h4 : A.cells + (headSpec ws rm).room.cells ≤ R.cells := by rw [show (headSpec ws rm).room.cells = mc from hrc]; exact hp.1
  have h5 : A.slots + (headSpec ws rm).room.slots ≤ R.slots := by rw [show (headSpec ws rm).room.slots = ms from hrs]; exact hp.2.1
  have hPc : Pc a (A.U.calling g mk a) := hblind _ _ _ _ hp.2.2
  obtain ⟨U, Ls, c0, s0⟩ := A
  dsimp only [Pt.U, Pt.locs, Pt.cells, Pt.slots] at h1 h2 h3 h4 h5 X hn hPc ⊢
  obtain ⟨methY, cY, hmY, hcY, -, hlY, -, -, -, -⟩ := Cond.code_spec hn h2
  obtain ⟨kY, hkY, -⟩ := className_of_methodNamed hn
  have hinitY : kY.init = .initialized := Cond.initialized_spec (findClass_of_methodNamed hn) hkY h3
  have h : At U g.method c below := by rw [hg]; exact X.here
  have hlocals9 : W9 + (maxL + 11) + (headSpec ws rm).room.locals ≤ R.locals := hlocals
  have happ : (headSpec ws rm).appliesLoose y e.platform (U.calling g mk a) = true :=
    Spec.appliesLoose_calling (g := g) h hdg hn hkY hinitY
      (X.room_calling (g := g) (R' := (headSpec ws rm).room) hsize hmY hcY hframes (by rw [hlY]; omega) h4 h5) h1
  obtain ⟨mid, hmid⟩ := h.above
  have hfr : (U.setTop g).frames = (.java g :: mid) ++ below := by rw [State.frames_setTop' g h.top, hmid]; rfl
  obtain ⟨o, s₂, hsteps, -, hend, hq⟩ := Steps.callFree hM p X.admits X.cas X.clock (acts := []) hfr happ hPc trivial
  have hq' : vx_Q Qc XC mc ms free a (U.calling g mk a) o s₂ := hq
  rw [State.frames_setTop' g h.top] at hend
  obtain ⟨g₀, hg0⟩ := Option.isSome_iff_exists.mp h.top
  obtain ⟨r, hr⟩ := State.topJava?_eq_some.mp hg0
  have hr' : (({ U with heap := s₂.heap, slotsUsed := s₂.slotsUsed } : State).setVm s₂.vm).frames = .java g₀ :: r := hr
  rcases hq' with ⟨hqc, L, hfe, hL⟩ | ⟨q, rfl, E, ce, L, hx, hce, hcv, hcl, hW₂, hsm, hL⟩
  · obtain ⟨⟨v, rfl⟩, hW₂, e2, q2, q3, q4, q5, q6⟩ := id hfe
    have e3 : s₂ = ({ (U.calling g mk a).setFrames s₂.frames with heap := s₂.heap, slotsUsed := s₂.slotsUsed } : State).setVm s₂.vm := by
      have : s₂ = ({ s₂ with vm := (U.calling g mk a).vm } : State).setVm s₂.vm := rfl
      rw [e2] at this
      exact this
    obtain ⟨c₂, i₂, len₂, hc₂, hd₂, hf₂⟩ := hend
    have hW' : U.WarmedH s₂.vm := hW₂
    have hcc : c₂ = c := by
      have h1 : s₂.code? g.method = U.code? g.method := by
        rw [State.code?_eq, State.code?_eq, hW'.alike.method?]
      exact Option.some.inj (hc₂.symm.trans (h1.trans h.code))
    subst hcc
    have hlen : len₂ = len := by rw [hdg] at hd₂; cases hd₂; rfl
    subst hlen
    have hs₂ : s₂ = (({ U with heap := s₂.heap, slotsUsed := s₂.slotsUsed } : State).setVm s₂.vm).setTop { g with pc := g.pc + len₂, stack := v.toList ++ g.stack } := by
      refine e3.trans ?_
      rw [hf₂, State.calling_eq h.top, State.setFrames_setFrames, State.setTop_of_frames _ hr', hr]
      rfl
    have hsame : U.sameButNew ({ U with heap := s₂.heap, slotsUsed := s₂.slotsUsed } : State) L mc ms := by
      refine ⟨?_, q2, q3, q4, q5, q6⟩
      obtain ⟨t, ht, -⟩ := State.frames_cons hr
      show ({ U with heap := s₂.heap, slotsUsed := s₂.slotsUsed } : State) = { U.setFrames U.frames with heap := s₂.heap, slotsUsed := s₂.slotsUsed }
      rw [State.setFrames_self ht]
    subst hg
    refine Or.inl ⟨v, ⟨(({ U with heap := s₂.heap, slotsUsed := s₂.slotsUsed } : State).setVm s₂.vm), Ls ++ L, c0 + mc, s0 + ms⟩,
      ⟨X.admits, X.cas, X.clock, X.frames, X.room, X.hears, X.method, X.code, (X.here.setHeapUsed s₂.heap s₂.slotsUsed).setVm hW'.alike, X.tail, State.WarmedH.trans X.warmed hW', X.limits, X.bytes, X.same.trans (hsame.setVm s.vm)⟩,
      ⟨g, mk, s₂, L, rfl, rfl, hqc, rfl, hL, rfl, rfl⟩, ?_⟩
    show Steps p.tables e below _ ((({ U with heap := s₂.heap, slotsUsed := s₂.slotsUsed } : State).setVm s₂.vm).setTop { g with pc := g.pc + len₂, stack := v.toList ++ g.stack })
    rw [← hs₂]
    exact hsteps
  · obtain ⟨e2, q2, q3, q4, q5, q6⟩ := id hsm
    have e3 : s₂ = ({ (U.calling g mk a).setFrames s₂.frames with heap := s₂.heap, slotsUsed := s₂.slotsUsed } : State).setVm s₂.vm := by
      have : s₂ = ({ s₂ with vm := (U.calling g mk a).vm } : State).setVm s₂.vm := rfl
      rw [e2] at this
      exact this
    have hf₂ : s₂.frames = .throwing q :: .java g :: U.frames.tail := hend
    have hW' : U.WarmedH s₂.vm := hW₂
    have hs₂ : s₂ = ((({ U with heap := s₂.heap, slotsUsed := s₂.slotsUsed } : State).setVm s₂.vm).setTop g).pushFrame (.throwing q) := by
      refine e3.trans ?_
      rw [hf₂, State.calling_eq h.top, State.setFrames_setFrames, State.pushFrame, State.frames_setTop _ hr', State.setTop_of_frames _ hr', State.setFrames_setFrames, hr]
      rfl
    have hsame : U.sameButNew ({ U with heap := s₂.heap, slotsUsed := s₂.slotsUsed } : State) L mc ms := by
      refine ⟨?_, q2, q3, q4, q5, q6⟩
      obtain ⟨t, ht, -⟩ := State.frames_cons hr
      show ({ U with heap := s₂.heap, slotsUsed := s₂.slotsUsed } : State) = { U.setFrames U.frames with heap := s₂.heap, slotsUsed := s₂.slotsUsed }
      rw [State.setFrames_self ht]
    subst hg
    refine Or.inr ⟨q, ⟨(({ U with heap := s₂.heap, slotsUsed := s₂.slotsUsed } : State).setVm s₂.vm), Ls ++ L, c0 + mc, s0 + ms⟩,
      ⟨X.admits, X.cas, X.clock, X.frames, X.room, X.hears, X.method, X.code, (X.here.setHeapUsed s₂.heap s₂.slotsUsed).setVm hW'.alike, X.tail, State.WarmedH.trans X.warmed hW', X.limits, X.bytes, X.same.trans (hsame.setVm s.vm)⟩,
      ⟨g, mk, s₂, L, E, ce, rfl, rfl, hx, hce, hcv, hcl, rfl, hL, rfl, rfl⟩, ?_⟩
    show Steps p.tables e below _ (((({ U with heap := s₂.heap, slotsUsed := s₂.slotsUsed } : State).setVm s₂.vm).setTop g).pushFrame (.throwing q))
    rw [← hs₂]
    exact hsteps
end Payer
section Calls
variable {p : Program} {l : Launch} {e : Env} {R : Room} {s : State} {m : MethodId} {args : Array Value} {below : List Frame} {meth : Method} {c : Code} {T : State} {locs : List Loc} {cells slots : Nat}
theorem vx_callV (X : Stand p l e R s m args below meth c T locs cells slots) (hexec : p.tables.exec = Jvm.exec) {own C : String} {index : Nat} {y : MethodName} {bytes : ByteArray} {maxL : Nat} {ret : Option FieldType}
    (hown : s.vm.findClass own = some m.cls) (hlink : (Cond.methodLink own index y).before args s = true) (hinst : (Cond.instanceMethod y).before args s = true) (hsel : (Cond.selects C y y).before args s = true)
    (hcode : (Cond.code y bytes maxL ret).before args s = true) (hy : y.cls ≠ "java/lang/invoke/MethodHandle" ∧ y.cls ≠ "java/lang/invoke/VarHandle")
    {W9 : Nat} {Pre : Pt → Array Value → Prop} {Post : Pt → Array Value → Option Value → Pt → Prop} {PostX : Pt → Array Value → Addr → Pt → Prop} (hK : vx_Back l R p e below s args y 3 W9 Pre Post PostX)
    {b : Addr} {cellB : Cell} (hcell : T.heap[b]? = some cellB) (hobj : cellB.vm.isStatics = false) (hcls : s.vm.findClass C = some cellB.cls)
    {g : JFrame} (hg : g.method = m) (hsize : g.locals.size = c.maxLocals) {argsL rest : List Value} (hlen : ∀ sig, parseMethodDescriptor y.desc = some sig → argsL.length = sig.parameters.length)
    (hstack : g.stack = argsL.reverse ++ .ref b :: rest) (hW : 2 * g.monitorRoom + (rest.map fun v => v.category).sum ≤ W9) (hdg : decode c.code g.pc = .ok (.invokevirtual index, 3))
    (hpre : ∀ vm₁, s.WarmedH vm₁ → Pre ⟨T.setVm vm₁, locs, cells, slots⟩ (Value.ref b :: argsL).toArray) :
    (∃ (v : Option Value) (vm₁ : Vm) (B : Pt), s.WarmedH vm₁ ∧ Stand p l e R s m args below meth c B.U B.locs B.cells B.slots ∧ Post ⟨T.setVm vm₁, locs, cells, slots⟩ (Value.ref b :: argsL).toArray v B ∧
      ∀ target, Steps p.tables e below (B.U.setTop { g with pc := g.pc + 3, stack := v.toList ++ rest }) target → Steps p.tables e below (T.setTop g) target) ∨
    (∃ (q : Addr) (vm₁ : Vm) (B : Pt), s.WarmedH vm₁ ∧ Stand p l e R s m args below meth c B.U B.locs B.cells B.slots ∧ PostX ⟨T.setVm vm₁, locs, cells, slots⟩ (Value.ref b :: argsL).toArray q B ∧
      Steps p.tables e below (T.setTop g) ((B.U.setTop { g with stack := rest }).pushFrame (.throwing q))) := by
  obtain ⟨mk, methM, hnamed, hmethM, hstM, habM⟩ := Cond.instanceMethod_spec hinst
  obtain ⟨methM', cM, hmethM', -, -, -, -, -, -, hsigM⟩ := Cond.code_spec hnamed hcode
  cases hmethM.symm.trans hmethM'
  obtain ⟨c2, r2, m2, q1, q2, q3, q4, kP, hkP, hkPi⟩ := Cond.selects_spec hsel
  cases hcls.symm.trans q1
  cases (State.methodFound?_of_named hnamed hy).symm.trans q2
  cases hnamed.symm.trans q3
  have hselP : selectMethod e.platform s.vm cellB.cls mk = .method mk := by rw [Launch.admits_selectMethod X.admits]; exact q4
  obtain ⟨vm₁, X₁, hstep₁⟩ := X.invokevirtual hexec hown hlink hnamed hmethM hstM hkP hkPi hy (a := b) (cell := cellB) hcell
    (fun z h => by rw [h] at hobj; cases hobj) hselP hmethM habM hkP hkPi (g := g) hg (argsL := argsL) (rest := rest) (hlen _ hsigM) hstack hdg
  rcases hK m meth c ⟨T.setVm vm₁, locs, cells, slots⟩ { g with stack := rest } (.invokevirtual index) mk (Value.ref b :: argsL).toArray X₁ hg hsize hdg hW (X₁.named hnamed) (hpre vm₁ X₁.warmed) with ⟨v, B, X', hpost, hsteps⟩ | ⟨q, B, X', hpost, hsteps⟩
  · exact Or.inl ⟨v, vm₁, B, X₁.warmed, X', hpost, fun target h => hstep₁ _ fun acts => by rw [doInvoke_state]; exact hsteps.trans h⟩
  · exact Or.inr ⟨q, vm₁, B, X₁.warmed, X', hpost, hstep₁ _ fun acts => by rw [doInvoke_state]; exact hsteps⟩
theorem vx_callS (X : Stand p l e R s m args below meth c T locs cells slots) (hexec : p.tables.exec = Jvm.exec) {own : String} {index : Nat} {y : MethodName} {bytes : ByteArray} {maxL : Nat} {ret : Option FieldType}
    (hown : s.vm.findClass own = some m.cls) (hlink : (Cond.methodLink own index y).before args s = true) (hstat : (Cond.static y).before args s = true) (hinit : (Cond.initialized y.cls).before args s = true)
    (hcode : (Cond.code y bytes maxL ret).before args s = true) (hy : y.cls ≠ "java/lang/invoke/MethodHandle" ∧ y.cls ≠ "java/lang/invoke/VarHandle")
    {W9 : Nat} {Pre : Pt → Array Value → Prop} {Post : Pt → Array Value → Option Value → Pt → Prop} {PostX : Pt → Array Value → Addr → Pt → Prop} (hK : vx_Back l R p e below s args y 3 W9 Pre Post PostX)
    {g : JFrame} (hg : g.method = m) (hsize : g.locals.size = c.maxLocals) {argsL rest : List Value} (hlen : ∀ sig, parseMethodDescriptor y.desc = some sig → argsL.length = sig.parameters.length)
    (hstack : g.stack = argsL.reverse ++ rest) (hW : 2 * g.monitorRoom + (rest.map fun v => v.category).sum ≤ W9) (hdg : decode c.code g.pc = .ok (.invokestatic index, 3))
    (hpre : ∀ vm₁, s.WarmedH vm₁ → Pre ⟨T.setVm vm₁, locs, cells, slots⟩ argsL.toArray) :
    (∃ (v : Option Value) (vm₁ : Vm) (B : Pt), s.WarmedH vm₁ ∧ Stand p l e R s m args below meth c B.U B.locs B.cells B.slots ∧ Post ⟨T.setVm vm₁, locs, cells, slots⟩ argsL.toArray v B ∧
      ∀ target, Steps p.tables e below (B.U.setTop { g with pc := g.pc + 3, stack := v.toList ++ rest }) target → Steps p.tables e below (T.setTop g) target) ∨
    (∃ (q : Addr) (vm₁ : Vm) (B : Pt), s.WarmedH vm₁ ∧ Stand p l e R s m args below meth c B.U B.locs B.cells B.slots ∧ PostX ⟨T.setVm vm₁, locs, cells, slots⟩ argsL.toArray q B ∧
      Steps p.tables e below (T.setTop g) ((B.U.setTop { g with stack := rest }).pushFrame (.throwing q))) := by
  obtain ⟨mk, hnamed⟩ := Cond.code_named hcode
  obtain ⟨methM, cM, hmethM, -, -, -, -, -, -, hsigM⟩ := Cond.code_spec hnamed hcode
  have hstatic : methM.isStatic = true := Cond.static_spec hnamed hmethM hstat
  obtain ⟨kP, hkP, -⟩ := className_of_methodNamed hnamed
  have hinitP : kP.init = .initialized := Cond.initialized_spec (findClass_of_methodNamed hnamed) hkP hinit
  obtain ⟨vm₁, X₁, hstep₁⟩ := X.invokestatic hexec hown hlink hnamed hmethM hstatic hkP hinitP hy (g := g) hg (argsL := argsL) (rest := rest) (hlen _ hsigM) hstack hdg
  rcases hK m meth c ⟨T.setVm vm₁, locs, cells, slots⟩ { g with stack := rest } (.invokestatic index) mk argsL.toArray X₁ hg hsize hdg hW (X₁.named hnamed) (hpre vm₁ X₁.warmed) with ⟨v, B, X', hpost, hsteps⟩ | ⟨q, B, X', hpost, hsteps⟩
  · exact Or.inl ⟨v, vm₁, B, X₁.warmed, X', hpost, fun target h => hstep₁ _ fun acts => by rw [doInvoke_state]; exact hsteps.trans h⟩
  · exact Or.inr ⟨q, vm₁, B, X₁.warmed, X', hpost, hstep₁ _ fun acts => by rw [doInvoke_state]; exact hsteps⟩
end Calls
theorem vx_cls {s : State} {T : State} {vm₁ : Vm} {E : String} {k : ClassId} (hW : s.WarmedH vm₁) (h : (T.setVm vm₁).vm.findClass E = some k) : s.vm.findClass E = some k := by
  have h1 : vm₁.findClass E = some k := h
  rw [hW.alike.findClass] at h1
  exact h1
/-- the method's frame g, with q thrown over it -/
def vx_W (p : Program) (l : Launch) (e : Env) (R : Room) (s : State) (m : MethodId) (args : Array Value) (below : List Frame) (meth : Method) (c : Code) (H : Heap) (locs : List Loc) (cells slots : Nat) (Q : State → Prop) (g : JFrame) (q : Addr) : Prop :=
  ∀ T : State, T.heap = H → Stand p l e R s m args below meth c T locs cells slots → ∃ t, Steps p.tables e below ((T.setTop g).pushFrame (.throwing q)) t ∧ Q t
def vx_Run (p : Program) (l : Launch) (e : Env) (R : Room) (s : State) (m : MethodId) (args : Array Value) (below : List Frame) (meth : Method) (c : Code) (H : Heap) (locs : List Loc) (cells slots mc ms : Nat) (g : JFrame) (rest : List Value) (Qa : State → Outcome → State → Prop) (XC : String → State → State → Prop) (free : Addr → Prop) : Prop :=
  ∀ T : State, T.heap = H → Stand p l e R s m args below meth c T locs cells slots →
    (∃ (v : Option Value) (st₀ t T' : State) (L : List Loc), st₀.heap = H ∧ Stand p l e R s m args below meth c T' (locs ++ L) (cells + mc) (slots + ms) ∧ (∀ q ∈ L, free q.base) ∧ T'.heap = t.heap ∧ T'.vm = t.vm ∧ Qa st₀ (.returned v) t ∧
      Goes p e below T g T' { g with pc := g.pc + 3, stack := v.toList ++ rest }) ∨
    (∃ (q : Addr) (st₀ t T' : State) (L : List Loc) (E : String) (ce : Cell), st₀.heap = H ∧ Stand p l e R s m args below meth c T' (locs ++ L) (cells + mc) (slots + ms) ∧ (∀ z ∈ L, free z.base) ∧ T'.heap = t.heap ∧ T'.vm = t.vm ∧ XC E st₀ t ∧ t.heap[q]? = some ce ∧ ce.vm = .none ∧ s.vm.findClass E = some ce.cls ∧
      Steps p.tables e below (T.setTop g) ((T'.setTop { g with stack := rest }).pushFrame (.throwing q)))
def vx_X {S : Type} (px : S → Prop) (B : String → S → State → Prop) (A : Nat → Prop) : String → State → State → Prop := fun E st t => ∃ u : S, px u ∧ B E u t ∧ va_F A st t
section Runs
variable {p : Program} {l : Launch} {e : Env} {R : Room} {s : State} {m : MethodId} {args : Array Value} {below : List Frame} {meth : Method} {c : Code} {H : Heap} {locs : List Loc} {cells slots : Nat}
variable {y : MethodName} {bytes cc : ByteArray} {maxL nL mc ms n index : Nat} {ret : Option FieldType} {ws : List Cond} {rm : Room} {Pc : Array Value → State → Prop} {Qc : Array Value → State → Outcome → State → Prop} {XC : String → State → State → Prop} {free : Addr → Prop} {Ts : List Cond} {own C : String} {b : Addr} {As rest : List Value} {g : JFrame}
theorem vx_callBack (cb : CallB R s args own index y bytes maxL ret ws rm mc ms n) (hM : vx_Met l y ws rm Pc Qc XC mc ms free) (hbl : FrameBlind Pc) : vx_Back l R p e below s args y 3 8 (PreOf R mc ms Pc) (PostOf Qc mc ms free) (vx_Post XC mc ms free) := by
  obtain ⟨hrc, hrs, hfr, hlo, hws, hcw, -, hini, -⟩ := cb
  exact vx_back (bytes := bytes) (maxL := maxL) (ret := ret) hM hbl hrc hrs hfr hlo hws hcw (fun a' U hW => word_at hW (Or.inl (by first | rfl | simp [Cond.onTables, Cond.keeps, Cond.steady])) hini)
theorem vx_runV (S : CallFix p m c cc nL s args Ts own) (hM : vx_Met l y ws rm Pc Qc XC mc ms free) (cw : CallW R s args own C index y bytes maxL ret ws rm mc ms n) (hp : PreV s H C b Pc As)
    (hg : g.method = m) (hn : As.length = n) (hsize : g.locals.size = nL) (hstack : g.stack = As.reverse ++ .ref b :: rest) (hW : 2 * g.monitorRoom + (rest.map fun v => v.category).sum ≤ 8) (hdg : decode cc g.pc = .ok (.invokevirtual index, 3)) (hf : cells + mc ≤ R.cells ∧ slots + ms ≤ R.slots) :
    vx_Run p l e R s m args below meth c H locs cells slots mc ms g rest (Qc (Value.ref b :: As).toArray) XC free := by
  have hK : vx_Back l R p e below s args y 3 8 (PreOf R mc ms Pc) (PostOf Qc mc ms free) (vx_Post XC mc ms free) := vx_callBack cw.1 hM hp.1
  obtain ⟨⟨-, -, -, -, -, -, hcode, -, hy, hlen, hl⟩, hin, hse⟩ := cw
  obtain ⟨hx, hb, hml, ho, -⟩ := S
  obtain ⟨-, ⟨cellB, hcB, hoB, hclB⟩, hPc⟩ := hp
  intro T hT X
  rcases vx_callV X hx (C := C) (bytes := bytes) (maxL := maxL) (ret := ret) ho hl hin hse hcode hy hK (by rw [hT]; exact hcB) hoB hclB hg (hsize.trans hml.symm) (argsL := As) (rest := rest) (fun sig h => hn.trans (hlen sig h)) hstack hW (by rw [hb]; exact hdg)
    (fun vm₁ hW₁ => ⟨hf.1, hf.2, hPc (T.setVm vm₁) hT hW₁⟩) with ⟨v, vm₁, ⟨U', l2, c2, s2⟩, hW₁, X', ⟨g', mk, t, L, e1, e2, hq, h1, hL, h2, h3⟩, st⟩ | ⟨q, vm₁, ⟨U', l2, c2, s2⟩, hW₁, X', ⟨g', mk, t, L, E, ce, e1, e2, hq, hce, hcv, hcl, h1, hL, h2, h3⟩, st⟩
  · dsimp only [Pt.U, Pt.locs, Pt.cells, Pt.slots] at X' e1 e2 h1 h2 h3 st
    subst h1; subst h2; subst h3
    exact Or.inl ⟨v, (T.setVm vm₁).calling g' mk (Value.ref b :: As).toArray, t, U', L, hT, X', hL, e1, e2, hq, st⟩
  · dsimp only [Pt.U, Pt.locs, Pt.cells, Pt.slots] at X' e1 e2 h1 h2 h3 st hcl
    subst h1; subst h2; subst h3
    exact Or.inr ⟨q, (T.setVm vm₁).calling g' mk (Value.ref b :: As).toArray, t, U', L, E, ce, hT, X', hL, e1, e2, hq, hce, hcv, vx_cls hW₁ hcl, st⟩
theorem vx_runS (S : CallFix p m c cc nL s args Ts own) (hM : vx_Met l y ws rm Pc Qc XC mc ms free) (cw : CallB R s args own index y bytes maxL ret ws rm mc ms n ∧ (Cond.static y).before args s = true) (hp : PreS s H Pc As)
    (hg : g.method = m) (hn : As.length = n) (hsize : g.locals.size = nL) (hstack : g.stack = As.reverse ++ rest) (hW : 2 * g.monitorRoom + (rest.map fun v => v.category).sum ≤ 8) (hdg : decode cc g.pc = .ok (.invokestatic index, 3)) (hf : cells + mc ≤ R.cells ∧ slots + ms ≤ R.slots) :
    vx_Run p l e R s m args below meth c H locs cells slots mc ms g rest (Qc As.toArray) XC free := by
  have hK : vx_Back l R p e below s args y 3 8 (PreOf R mc ms Pc) (PostOf Qc mc ms free) (vx_Post XC mc ms free) := vx_callBack cw.1 hM hp.1
  obtain ⟨⟨-, -, -, -, -, -, hcode, hini, hy, hlen, hl⟩, hstt⟩ := cw
  obtain ⟨hx, hb, hml, ho, -⟩ := S
  intro T hT X
  rcases vx_callS X hx (bytes := bytes) (maxL := maxL) (ret := ret) ho hl hstt hini hcode hy hK hg (hsize.trans hml.symm) (argsL := As) (rest := rest) (fun sig h => hn.trans (hlen sig h)) hstack hW (by rw [hb]; exact hdg)
    (fun vm₁ hW₁ => ⟨hf.1, hf.2, hp.2 (T.setVm vm₁) hT hW₁⟩) with ⟨v, vm₁, ⟨U', l2, c2, s2⟩, hW₁, X', ⟨g', mk, t, L, e1, e2, hq, h1, hL, h2, h3⟩, st⟩ | ⟨q, vm₁, ⟨U', l2, c2, s2⟩, hW₁, X', ⟨g', mk, t, L, E, ce, e1, e2, hq, hce, hcv, hcl, h1, hL, h2, h3⟩, st⟩
  · dsimp only [Pt.U, Pt.locs, Pt.cells, Pt.slots] at X' e1 e2 h1 h2 h3 st
    subst h1; subst h2; subst h3
    exact Or.inl ⟨v, (T.setVm vm₁).calling g' mk As.toArray, t, U', L, hT, X', hL, e1, e2, hq, st⟩
  · dsimp only [Pt.U, Pt.locs, Pt.cells, Pt.slots] at X' e1 e2 h1 h2 h3 st hcl
    subst h1; subst h2; subst h3
    exact Or.inr ⟨q, (T.setVm vm₁).calling g' mk As.toArray, t, U', L, E, ce, hT, X', hL, e1, e2, hq, hce, hcv, vx_cls hW₁ hcl, st⟩
end Runs
section Rows
variable {p : Program} {l : Launch} {e : Env} {R : Room} {s : State} {m : MethodId} {args : Array Value} {below : List Frame} {meth : Method} {c : Code} {H : Heap} {locs : List Loc} {cells slots : Nat} {Q : State → Prop}
variable {mc ms : Nat} {free : Addr → Prop} {A0 A1 : Nat → Prop} {H0 : Heap} {a : Array Value} {pc : Nat} {ls : Array Slot} {st0 rest : List Value}
theorem vx_keep {st₀ t T' : State} {L : List Loc} (h0 : st₀.heap = H) (e1 : T'.heap = t.heap) (hS : va_S A0 H0 H locs) (hA : ∀ q, q < H.size → A1 q → A0 q) (hf : ∀ q, free q → A0 q) (hL : ∀ q ∈ L, free q.base) (hF : va_F A1 st₀ t) :
    H.size ≤ T'.heap.size ∧ (∀ q : Nat, q < H.size → ¬ A1 q → T'.heap[q]? = H[q]?) ∧ va_S A0 H0 T'.heap (locs ++ L) := by
  obtain ⟨hz, hk⟩ := hF
  rw [h0] at hz hk
  exact ⟨by rw [e1]; exact hz, fun q h1 h2 => by rw [e1]; exact hk q h1 h2,
    ⟨Nat.le_trans hS.1 (by rw [e1]; exact hz), fun q h1 h2 => by rw [e1, hk q (Nat.lt_of_lt_of_le h1 hS.1) (fun z => h2 (hA q (Nat.lt_of_lt_of_le h1 hS.1) z))]; exact hS.2.1 q h1 h2, fun q hq => by
      rcases List.mem_append.mp hq with h | h
      · exact hS.2.2 q h
      · exact hf _ (hL q h)⟩⟩
theorem vx_calli {S SX : Type} {post : Int32 → S → Prop} {px : SX → Prop} {B : S → State → Prop} {BX : String → SX → State → Prop} {AX : Nat → Prop} (hr : vx_Run p l e R s m args below meth c H locs cells slots mc ms (F0 m pc ls st0) rest (va_Qi post B A1 a) (vx_X px BX AX) free) (hS : va_S A0 H0 H locs) (hA : ∀ q, q < H.size → A1 q → A0 q) (hf : ∀ q, free q → A0 q) (hAX : ∀ q, q < H.size → AX q → A0 q)
    (kx : ∀ (E : String) (ce : Cell) (q9 : Addr) (u : SX) (t : State) (H1 : Heap) (locs1 : List Loc), t.heap = H1 → s.vm.Alike t.vm → px u → BX E u t → H.size ≤ H1.size → (∀ q : Nat, q < H.size → ¬ AX q → H1[q]? = H[q]?) → va_S A0 H0 H1 locs1 → H1[q9]? = some ce → ce.vm = .none → s.vm.findClass E = some ce.cls → vx_W p l e R s m args below meth c H1 locs1 (cells + mc) (slots + ms) Q (F0 m pc ls rest) q9)
    (kk : ∀ (r : Int32) (u : S) (t : State) (H1 : Heap) (locs1 : List Loc), t.heap = H1 → s.vm.Alike t.vm → post r u → B u t → H.size ≤ H1.size → (∀ q : Nat, q < H.size → ¬ A1 q → H1[q]? = H[q]?) → va_S A0 H0 H1 locs1 → W p l e R s m args below meth c H1 locs1 (cells + mc) (slots + ms) Q (F0 m (pc + 3) ls (.int r :: rest))) : W p l e R s m args below meth c H locs cells slots Q (F0 m pc ls st0) := by
  intro T hT X
  rcases hr T hT X with ⟨v, st₀, t, T', L, h0, X', hL, e1, e2, ⟨⟨r, u, hv, hp, hb⟩, hF⟩, st⟩ | ⟨q, st₀, t, T', L, E, ce, h0, X', hL, e1, e2, ⟨u, hp, hb, hF⟩, hce, hcv, hcl, st⟩
  · cases hv
    obtain ⟨k1, k2, k3⟩ := vx_keep h0 e1 hS hA hf hL hF
    obtain ⟨t2, a1, b1⟩ := kk r u t T'.heap (locs ++ L) e1.symm (by rw [← e2]; exact X'.warmed.alike) hp hb k1 k2 k3 T' rfl X'
    exact ⟨t2, st t2 a1, b1⟩
  · obtain ⟨k1, k2, k3⟩ := vx_keep h0 e1 hS hAX hf hL hF
    obtain ⟨t2, a1, b1⟩ := kx E ce q u t T'.heap (locs ++ L) e1.symm (by rw [← e2]; exact X'.warmed.alike) hp hb k1 k2 k3 (by rw [e1]; exact hce) hcv hcl T' rfl X'
    exact ⟨t2, st.trans a1, b1⟩
theorem vx_calll {S SX : Type} {post : Int64 → S → Prop} {px : SX → Prop} {B : S → State → Prop} {BX : String → SX → State → Prop} {AX : Nat → Prop} (hr : vx_Run p l e R s m args below meth c H locs cells slots mc ms (F0 m pc ls st0) rest (va_Ql post B A1 a) (vx_X px BX AX) free) (hS : va_S A0 H0 H locs) (hA : ∀ q, q < H.size → A1 q → A0 q) (hf : ∀ q, free q → A0 q) (hAX : ∀ q, q < H.size → AX q → A0 q)
    (kx : ∀ (E : String) (ce : Cell) (q9 : Addr) (u : SX) (t : State) (H1 : Heap) (locs1 : List Loc), t.heap = H1 → s.vm.Alike t.vm → px u → BX E u t → H.size ≤ H1.size → (∀ q : Nat, q < H.size → ¬ AX q → H1[q]? = H[q]?) → va_S A0 H0 H1 locs1 → H1[q9]? = some ce → ce.vm = .none → s.vm.findClass E = some ce.cls → vx_W p l e R s m args below meth c H1 locs1 (cells + mc) (slots + ms) Q (F0 m pc ls rest) q9)
    (kk : ∀ (r : Int64) (u : S) (t : State) (H1 : Heap) (locs1 : List Loc), t.heap = H1 → s.vm.Alike t.vm → post r u → B u t → H.size ≤ H1.size → (∀ q : Nat, q < H.size → ¬ A1 q → H1[q]? = H[q]?) → va_S A0 H0 H1 locs1 → W p l e R s m args below meth c H1 locs1 (cells + mc) (slots + ms) Q (F0 m (pc + 3) ls (.long r :: rest))) : W p l e R s m args below meth c H locs cells slots Q (F0 m pc ls st0) := by
  intro T hT X
  rcases hr T hT X with ⟨v, st₀, t, T', L, h0, X', hL, e1, e2, ⟨⟨r, u, hv, hp, hb⟩, hF⟩, st⟩ | ⟨q, st₀, t, T', L, E, ce, h0, X', hL, e1, e2, ⟨u, hp, hb, hF⟩, hce, hcv, hcl, st⟩
  · cases hv
    obtain ⟨k1, k2, k3⟩ := vx_keep h0 e1 hS hA hf hL hF
    obtain ⟨t2, a1, b1⟩ := kk r u t T'.heap (locs ++ L) e1.symm (by rw [← e2]; exact X'.warmed.alike) hp hb k1 k2 k3 T' rfl X'
    exact ⟨t2, st t2 a1, b1⟩
  · obtain ⟨k1, k2, k3⟩ := vx_keep h0 e1 hS hAX hf hL hF
    obtain ⟨t2, a1, b1⟩ := kx E ce q u t T'.heap (locs ++ L) e1.symm (by rw [← e2]; exact X'.warmed.alike) hp hb k1 k2 k3 (by rw [e1]; exact hce) hcv hcl T' rfl X'
    exact ⟨t2, st.trans a1, b1⟩
theorem vx_callf {S SX : Type} {post : UInt32 → S → Prop} {px : SX → Prop} {B : S → State → Prop} {BX : String → SX → State → Prop} {AX : Nat → Prop} (hr : vx_Run p l e R s m args below meth c H locs cells slots mc ms (F0 m pc ls st0) rest (va_Qf post B A1 a) (vx_X px BX AX) free) (hS : va_S A0 H0 H locs) (hA : ∀ q, q < H.size → A1 q → A0 q) (hf : ∀ q, free q → A0 q) (hAX : ∀ q, q < H.size → AX q → A0 q)
    (kx : ∀ (E : String) (ce : Cell) (q9 : Addr) (u : SX) (t : State) (H1 : Heap) (locs1 : List Loc), t.heap = H1 → s.vm.Alike t.vm → px u → BX E u t → H.size ≤ H1.size → (∀ q : Nat, q < H.size → ¬ AX q → H1[q]? = H[q]?) → va_S A0 H0 H1 locs1 → H1[q9]? = some ce → ce.vm = .none → s.vm.findClass E = some ce.cls → vx_W p l e R s m args below meth c H1 locs1 (cells + mc) (slots + ms) Q (F0 m pc ls rest) q9)
    (kk : ∀ (r : UInt32) (u : S) (t : State) (H1 : Heap) (locs1 : List Loc), t.heap = H1 → s.vm.Alike t.vm → post r u → B u t → H.size ≤ H1.size → (∀ q : Nat, q < H.size → ¬ A1 q → H1[q]? = H[q]?) → va_S A0 H0 H1 locs1 → W p l e R s m args below meth c H1 locs1 (cells + mc) (slots + ms) Q (F0 m (pc + 3) ls (.float r :: rest))) : W p l e R s m args below meth c H locs cells slots Q (F0 m pc ls st0) := by
  intro T hT X
  rcases hr T hT X with ⟨v, st₀, t, T', L, h0, X', hL, e1, e2, ⟨⟨r, u, hv, hp, hb⟩, hF⟩, st⟩ | ⟨q, st₀, t, T', L, E, ce, h0, X', hL, e1, e2, ⟨u, hp, hb, hF⟩, hce, hcv, hcl, st⟩
  · cases hv
    obtain ⟨k1, k2, k3⟩ := vx_keep h0 e1 hS hA hf hL hF
    obtain ⟨t2, a1, b1⟩ := kk r u t T'.heap (locs ++ L) e1.symm (by rw [← e2]; exact X'.warmed.alike) hp hb k1 k2 k3 T' rfl X'
    exact ⟨t2, st t2 a1, b1⟩
  · obtain ⟨k1, k2, k3⟩ := vx_keep h0 e1 hS hAX hf hL hF
    obtain ⟨t2, a1, b1⟩ := kx E ce q u t T'.heap (locs ++ L) e1.symm (by rw [← e2]; exact X'.warmed.alike) hp hb k1 k2 k3 (by rw [e1]; exact hce) hcv hcl T' rfl X'
    exact ⟨t2, st.trans a1, b1⟩
theorem vx_calld {S SX : Type} {post : UInt64 → S → Prop} {px : SX → Prop} {B : S → State → Prop} {BX : String → SX → State → Prop} {AX : Nat → Prop} (hr : vx_Run p l e R s m args below meth c H locs cells slots mc ms (F0 m pc ls st0) rest (va_Qd post B A1 a) (vx_X px BX AX) free) (hS : va_S A0 H0 H locs) (hA : ∀ q, q < H.size → A1 q → A0 q) (hf : ∀ q, free q → A0 q) (hAX : ∀ q, q < H.size → AX q → A0 q)
    (kx : ∀ (E : String) (ce : Cell) (q9 : Addr) (u : SX) (t : State) (H1 : Heap) (locs1 : List Loc), t.heap = H1 → s.vm.Alike t.vm → px u → BX E u t → H.size ≤ H1.size → (∀ q : Nat, q < H.size → ¬ AX q → H1[q]? = H[q]?) → va_S A0 H0 H1 locs1 → H1[q9]? = some ce → ce.vm = .none → s.vm.findClass E = some ce.cls → vx_W p l e R s m args below meth c H1 locs1 (cells + mc) (slots + ms) Q (F0 m pc ls rest) q9)
    (kk : ∀ (r : UInt64) (u : S) (t : State) (H1 : Heap) (locs1 : List Loc), t.heap = H1 → s.vm.Alike t.vm → post r u → B u t → H.size ≤ H1.size → (∀ q : Nat, q < H.size → ¬ A1 q → H1[q]? = H[q]?) → va_S A0 H0 H1 locs1 → W p l e R s m args below meth c H1 locs1 (cells + mc) (slots + ms) Q (F0 m (pc + 3) ls (.double r :: rest))) : W p l e R s m args below meth c H locs cells slots Q (F0 m pc ls st0) := by
  intro T hT X
  rcases hr T hT X with ⟨v, st₀, t, T', L, h0, X', hL, e1, e2, ⟨⟨r, u, hv, hp, hb⟩, hF⟩, st⟩ | ⟨q, st₀, t, T', L, E, ce, h0, X', hL, e1, e2, ⟨u, hp, hb, hF⟩, hce, hcv, hcl, st⟩
  · cases hv
    obtain ⟨k1, k2, k3⟩ := vx_keep h0 e1 hS hA hf hL hF
    obtain ⟨t2, a1, b1⟩ := kk r u t T'.heap (locs ++ L) e1.symm (by rw [← e2]; exact X'.warmed.alike) hp hb k1 k2 k3 T' rfl X'
    exact ⟨t2, st t2 a1, b1⟩
  · obtain ⟨k1, k2, k3⟩ := vx_keep h0 e1 hS hAX hf hL hF
    obtain ⟨t2, a1, b1⟩ := kx E ce q u t T'.heap (locs ++ L) e1.symm (by rw [← e2]; exact X'.warmed.alike) hp hb k1 k2 k3 (by rw [e1]; exact hce) hcv hcl T' rfl X'
    exact ⟨t2, st.trans a1, b1⟩
theorem vx_callv {S SX : Type} {post : S → Prop} {px : SX → Prop} {B : S → State → Prop} {BX : String → SX → State → Prop} {AX : Nat → Prop} (hr : vx_Run p l e R s m args below meth c H locs cells slots mc ms (F0 m pc ls st0) rest (va_Qv post B A1 a) (vx_X px BX AX) free) (hS : va_S A0 H0 H locs) (hA : ∀ q, q < H.size → A1 q → A0 q) (hf : ∀ q, free q → A0 q) (hAX : ∀ q, q < H.size → AX q → A0 q)
    (kx : ∀ (E : String) (ce : Cell) (q9 : Addr) (u : SX) (t : State) (H1 : Heap) (locs1 : List Loc), t.heap = H1 → s.vm.Alike t.vm → px u → BX E u t → H.size ≤ H1.size → (∀ q : Nat, q < H.size → ¬ AX q → H1[q]? = H[q]?) → va_S A0 H0 H1 locs1 → H1[q9]? = some ce → ce.vm = .none → s.vm.findClass E = some ce.cls → vx_W p l e R s m args below meth c H1 locs1 (cells + mc) (slots + ms) Q (F0 m pc ls rest) q9)
    (kk : ∀ (u : S) (t : State) (H1 : Heap) (locs1 : List Loc), t.heap = H1 → s.vm.Alike t.vm → post u → B u t → H.size ≤ H1.size → (∀ q : Nat, q < H.size → ¬ A1 q → H1[q]? = H[q]?) → va_S A0 H0 H1 locs1 → W p l e R s m args below meth c H1 locs1 (cells + mc) (slots + ms) Q (F0 m (pc + 3) ls (rest))) : W p l e R s m args below meth c H locs cells slots Q (F0 m pc ls st0) := by
  intro T hT X
  rcases hr T hT X with ⟨v, st₀, t, T', L, h0, X', hL, e1, e2, ⟨⟨u, hv, hp, hb⟩, hF⟩, st⟩ | ⟨q, st₀, t, T', L, E, ce, h0, X', hL, e1, e2, ⟨u, hp, hb, hF⟩, hce, hcv, hcl, st⟩
  · cases hv
    obtain ⟨k1, k2, k3⟩ := vx_keep h0 e1 hS hA hf hL hF
    obtain ⟨t2, a1, b1⟩ := kk u t T'.heap (locs ++ L) e1.symm (by rw [← e2]; exact X'.warmed.alike) hp hb k1 k2 k3 T' rfl X'
    exact ⟨t2, st t2 a1, b1⟩
  · obtain ⟨k1, k2, k3⟩ := vx_keep h0 e1 hS hAX hf hL hF
    obtain ⟨t2, a1, b1⟩ := kx E ce q u t T'.heap (locs ++ L) e1.symm (by rw [← e2]; exact X'.warmed.alike) hp hb k1 k2 k3 (by rw [e1]; exact hce) hcv hcl T' rfl X'
    exact ⟨t2, st.trans a1, b1⟩
/-- caught by the row x of this method's table; the rows ahead don't take it -/
theorem vx_catch {own name : String} {E : String} {ce : Cell} {q : Addr} (hown : s.vm.findClass own = some m.cls) (pre : List ExceptionTableEntry) (x : ExceptionTableEntry) (suf : List ExceptionTableEntry) (hsplit : c.exceptionTable.toList = pre ++ x :: suf)
    (hpass : ∀ z ∈ pre, covers z pc = false ∨ (z.catchType ≠ 0 ∧ ∃ nm : String, (Cond.classLink own z.catchType nm).before args s = true ∧ va_Nc E nm s)) (hx : covers x pc = true) (h0 : x.catchType ≠ 0)
    (hlink : (Cond.classLink own x.catchType name).before args s = true) (hcast : (Cond.castable E name).before args s = true) (hcell : H[q]? = some ce) (hv : ce.vm = .none) (hcl : s.vm.findClass E = some ce.cls)
    (kk : W p l e R s m args below meth c H locs cells slots Q (F0 m x.handlerPc ls [.ref q])) : vx_W p l e R s m args below meth c H locs cells slots Q (F0 m pc ls rest) q := by
  intro T hT X
  have hpl : e.platform.magicAccessors = ({} : Platform).magicAccessors := by rw [X.admits.platform]
  obtain ⟨c3, c4, hc3, hc4, hasg⟩ := Cond.castable_spec hcast
  cases Option.some.inj (hc3.symm.trans hcl)
  obtain ⟨c5, hc5, hcl5⟩ := Cond.classLink_spec hown hlink e.platform hpl
  cases Option.some.inj (hc4.symm.trans hc5)
  obtain ⟨vm', X', st⟩ := X.thenCaughtThrough q (g := F0 m pc ls rest) rfl (Steps.refl _) (by rw [hT]; exact hcell) (by rw [hv]; rfl) (by obtain ⟨k9, h9, -⟩ := Vm.findClass_spec hcl; exact ⟨k9, h9⟩) pre x suf hsplit
    (fun z hz => by
      rcases hpass z hz with h | ⟨hz0, nm, hl1, hn1⟩
      · exact Or.inl h
      · obtain ⟨c6, hc6, hcl6⟩ := Cond.classLink_spec hown hl1 e.platform hpl
        obtain ⟨a8, b8, h1, h2, h3⟩ := hn1
        cases Option.some.inj (h1.symm.trans hcl)
        cases Option.some.inj (h2.symm.trans hc6)
        exact Or.inr ⟨hz0, _, hcl6, h3⟩) hx (Or.inr ⟨h0, c4, hcl5, hasg⟩)
  obtain ⟨t, a1, b1⟩ := kk (T.setVm vm') hT X'
  exact ⟨t, st.trans a1, b1⟩
end Rows
section Ends
variable {p : Program} {l : Launch} {e : Env} {R : Room} {s : State} {m : MethodId} {args : Array Value} {below : List Frame} {meth : Method} {c : Code} {H : Heap} {locs : List Loc} {cells slots : Nat} {Q : State → Prop}
variable {mc ms : Nat} {free : Addr → Prop} {A0 A1 : Nat → Prop} {H0 : Heap} {a : Array Value} {ls : Array Slot} {st0 rest : List Value}
variable {Qc : Array Value → State → Outcome → State → Prop} {XC : String → State → State → Prop}
/-- what a body that may throw owes at its end -/
def vx_MQ (below : List Frame) (Qc : Array Value → State → Outcome → State → Prop) (XC : String → State → State → Prop) (a : Array Value) (s : State) (mc ms : Nat) (free : Addr → Prop) : State → Prop := fun t =>
  ∃ o, t.status = .running ∧ Ended t below o ∧ vx_Q Qc XC mc ms free a s o t
theorem vx_ret {g : JFrame} {mc ms : Nat} (k : W p l e R s m args below meth c H locs cells slots (MQ below Qc args s mc ms free) g) : W p l e R s m args below meth c H locs cells slots (vx_MQ below Qc XC args s mc ms free) g := by
  intro T hT X
  obtain ⟨t, a1, o, b1, b2, b3, b4⟩ := k T hT X
  exact ⟨t, a1, o, b1, b2, Or.inl ⟨b3, b4⟩⟩
/-- not caught here: it goes on to the caller -/
theorem vx_widen {g : JFrame} {q : Addr} {k n : Nat} (h1 : cells ≤ k) (h2 : slots ≤ n) (kk : vx_W p l e R s m args below meth c H locs k n Q g q) : vx_W p l e R s m args below meth c H locs cells slots Q g q := fun T hT X => kk T hT (stand_widen X h1 h2)
theorem vx_out {pc : Nat} {E : String} {ce : Cell} {q : Addr} {mc ms : Nat} (hout : ∀ x ∈ c.exceptionTable.toList, covers x pc = false) (hlocks : meth.locks = false) (hcell : H[q]? = some ce) (hv : ce.vm = .none) (hcl : s.vm.findClass E = some ce.cls)
    (hx : ∀ t : State, t.heap = H → s.vm.Alike t.vm → XC E s t) (hf : ∀ z ∈ locs, free z.base) (hc : cells ≤ mc) (hs : slots ≤ ms) :
    vx_W p l e R s m args below meth c H locs cells slots (vx_MQ below Qc XC args s mc ms free) (F0 m pc ls rest) q := by
  intro T hT X
  obtain ⟨st1, hrun, hend, hW, hsm⟩ := X.leaveThrown q (g := F0 m pc ls rest) rfl rfl rfl hout hlocks
  have hcell9 : (T.setFrames (.throwing q :: below)).heap[q]? = some ce := by
    show T.heap[q]? = some ce
    rw [hT]; exact hcell
  exact ⟨_, st1, .threw q, hrun, hend, Or.inr ⟨q, rfl, E, ce, locs, hx _ hT hW.alike, hcell9, hv, hcl, hW, hsm.mono hc hs, hf⟩⟩
theorem vx_frame {U : State} {k n : Nat} (h : s.sameButNew ({ U with vm := s.vm } : State) locs k n) : s.heap.size ≤ U.heap.size ∧ ∀ q : Nat, q < s.heap.size → (∀ z ∈ locs, z.base ≠ q) → U.heap[q]? = s.heap[q]? := by
  obtain ⟨-, h2, -, -, -, h6⟩ := h
  refine ⟨h2, fun q hq hz => ?_⟩
  obtain ⟨c9, e1, e2, e3, e4⟩ := h6 q _ (Array.getElem?_eq_getElem hq)
  have hs : c9.slots = (s.heap[q]).slots := Array.ext_getElem? fun i => e4 i fun hm => hz _ hm rfl
  have h9 : c9 = s.heap[q] := by
    rw [hs] at e2
    exact e2
  have e5 : U.heap[q]? = some c9 := e1
  rw [e5, h9, Array.getElem?_eq_getElem hq]
/-- the words of a throw but the four that speak of the heap -/
def vx_no (w : Cond) : Bool := decide (w ≠ .isRef (.static Bundle.tN "UNASSIGNED_STACK" Bundle.steD)) && decide (w ≠ .isRef (.static Bundle.tN "SUPPRESSED_SENTINEL" Bundle.listD)) && decide (w ≠ .laysStatic Bundle.tN "UNASSIGNED_STACK" Bundle.steD) && decide (w ≠ .laysStatic Bundle.tN "SUPPRESSED_SENTINEL" Bundle.listD)
def vx_at0 (own : String) (ic : Nat) (X : String) (names : List String) : List Cond := (Bundle.ownAtoms0 own ic X names).filter vx_no
def vx_atS (own : String) (ic : Nat) (X : String) (names : List String) : List Cond := (Bundle.ownAtoms own ic X names).filter vx_no
/-- a word that the tables alone decide, or a good one -/
def vx_ot (w : Cond) : Bool := w.onTables || goodWord w
theorem vx_ot_at {args a' : Array Value} {s U : State} {w : Cond} (hW : s.WarmedH U.vm) (hvm : s.vm = U.vm) (hg : vx_ot w = true) (h : w.before args s = true) : w.before a' U = true := by
  simp only [vx_ot, Bool.or_eq_true] at hg
  rcases hg with hg | hg
  · exact va_tabs hg hvm h
  · exact word_at hW (good_of_word hg) h
/-- a list's words: the good ones out of the method's own list, the others by premises of their own -/
theorem vx_hat {args : Array Value} {s : State} {L B : List Cond} (h1 : ∀ w ∈ L.filter goodWord, w.before args s = true) (h2 : ∀ w ∈ L.filter (fun w => !goodWord w), w ∈ B) (h3 : ∀ w ∈ B, w.before args s = true) : ∀ w ∈ L, w.before args s = true := by
  intro w hw
  by_cases g : goodWord w = true
  · exact h1 w (List.mem_filter.mpr ⟨hw, g⟩)
  · refine h3 w (h2 w (List.mem_filter.mpr ⟨hw, ?_⟩))
    show (!goodWord w) = true
    cases hgw : goodWord w
    · rfl
    · exact absurd hgw g
theorem vx_c {args : Array Value} {s : State} {w : Cond} {B : List Cond} (h : w.before args s = true) (t : ∀ w ∈ B, w.before args s = true) : ∀ w' ∈ w :: B, w'.before args s = true := fun w' h' => (List.mem_cons.mp h').elim (fun e => by rw [e]; exact h) (t w')
theorem vx_n {args : Array Value} {s : State} : ∀ w ∈ ([] : List Cond), w.before args s = true := fun _ h => nomatch h
theorem vx_own {args : Array Value} {s : State} {L : List Cond} (h1 : ∀ w ∈ L.filter vx_no, w.before args s = true)
    (hU : (Cond.isRef (.static Bundle.tN "UNASSIGNED_STACK" Bundle.steD)).before args s = true) (hN : (Cond.isRef (.static Bundle.tN "SUPPRESSED_SENTINEL" Bundle.listD)).before args s = true)
    (lU : (Cond.laysStatic Bundle.tN "UNASSIGNED_STACK" Bundle.steD).before args s = true) (lN : (Cond.laysStatic Bundle.tN "SUPPRESSED_SENTINEL" Bundle.listD).before args s = true) : ∀ w ∈ L, w.before args s = true := by
  intro w hw
  by_cases e1 : w = .isRef (.static Bundle.tN "UNASSIGNED_STACK" Bundle.steD)
  · rw [e1]; exact hU
  · by_cases e2 : w = .isRef (.static Bundle.tN "SUPPRESSED_SENTINEL" Bundle.listD)
    · rw [e2]; exact hN
    · by_cases e3 : w = .laysStatic Bundle.tN "UNASSIGNED_STACK" Bundle.steD
      · rw [e3]; exact lU
      · by_cases e4 : w = .laysStatic Bundle.tN "SUPPRESSED_SENTINEL" Bundle.listD
        · rw [e4]; exact lN
        · exact h1 w (List.mem_filter.mpr ⟨hw, by unfold vx_no; rw [decide_eq_true e1, decide_eq_true e2, decide_eq_true e3, decide_eq_true e4]; rfl⟩)
/-- where a static field lies, its class's statics cell in H -/
def vx_L (C n d : String) (A : Nat → Prop) (U : State) (H : Heap) : Prop := ∃ (c : ClassId) (k : Class) (i : Nat) (f : Field) (a : Nat) (cell : Cell), U.vm.findClass C = some c ∧ U.fieldFound? C n d = some (c, k, i, f) ∧ f.isStatic = true ∧ k.statics = some a ∧ H[a]? = some cell ∧ cell.vm.isStatics = true ∧ cell.cls = c ∧ f.slot < cell.slots.size ∧ k.staticTypes[f.slot]? = some f.type ∧ ¬ A a
theorem vx_L.moved {C n d : String} {A : Nat → Prop} {u U : State} {H : Heap} (hvm : u.vm.Alike U.vm) (h : vx_L C n d A u H) : vx_L C n d A U H := by
  obtain ⟨c, k, i, f, a, cell, h1, h2, h3, h4, h5, h6, h7, h8, h9, h10⟩ := h
  obtain ⟨k', hi', he⟩ := State.fieldFound?_setVm hvm h2
  exact ⟨c, k', i, f, a, cell, by rw [hvm.findClass]; exact h1, hi', h3, by rw [he]; exact h4, h5, h6, h7, h8, by rw [he]; exact h9, h10⟩
theorem vx_L.kept {C n d : String} {A : Nat → Prop} {U : State} {H H1 : Heap} (h : vx_L C n d A U H) (hq : ∀ a : Nat, a < H.size → ¬ A a → H1[a]? = H[a]?) : vx_L C n d A U H1 := by
  obtain ⟨c, k, i, f, a, cell, h1, h2, h3, h4, h5, h6, h7, h8, h9, h10⟩ := h
  exact ⟨c, k, i, f, a, cell, h1, h2, h3, h4, by rw [hq a (Array.getElem?_eq_some_iff.mp h5).1 h10]; exact h5, h6, h7, h8, h9, h10⟩
theorem vx_L.narrow {C n d : String} {A B : Nat → Prop} {U : State} {H : Heap} (h : vx_L C n d A U H) (hAB : ∀ q, B q → A q) : vx_L C n d B U H := by
  obtain ⟨c, k, i, f, a, cell, h1, h2, h3, h4, h5, h6, h7, h8, h9, h10⟩ := h
  exact ⟨c, k, i, f, a, cell, h1, h2, h3, h4, h5, h6, h7, h8, h9, fun z => h10 (hAB _ z)⟩
theorem vx_L.word {C n d : String} {A : Nat → Prop} {s : State} {args : Array Value} (h : vx_L C n d A s s.heap) : (Cond.laysStatic C n d).before args s = true := by
  obtain ⟨c, k, i, f, a, cell, h1, h2, h3, h4, h5, h6, h7, h8, h9, -⟩ := h
  show (Cond.laysStatic C n d).holds args s none s [] = true
  exact Cond.laysStatic_of h1 h2 h3 h4 h5 h6 h7 h8 h9
/-- .. and what it holds: null or some reference -/
def vx_Zq (C n d : String) (A : Nat → Prop) (U : State) (H : Heap) : Prop := va_Zq C n d A U H ∧ vx_L C n d A U H
theorem vx_Zq.moved {C n d : String} {A : Nat → Prop} {u U : State} {H : Heap} (hvm : u.vm.Alike U.vm) (h : vx_Zq C n d A u H) : vx_Zq C n d A U H := ⟨va_Zq.moved hvm h.1, vx_L.moved hvm h.2⟩
theorem vx_Zq.kept {C n d : String} {A : Nat → Prop} {U : State} {H H1 : Heap} (h : vx_Zq C n d A U H) (hq : ∀ a : Nat, a < H.size → ¬ A a → H1[a]? = H[a]?) : vx_Zq C n d A U H1 := ⟨va_Zq.kept h.1 hq, vx_L.kept h.2 hq⟩
theorem vx_Zq.narrow {C n d : String} {A B : Nat → Prop} {U : State} {H : Heap} (h : vx_Zq C n d A U H) (hAB : ∀ q, B q → A q) : vx_Zq C n d B U H := ⟨va_Zq.narrow h.1 hAB, vx_L.narrow h.2 hAB⟩
theorem vx_Zqof {args : Array Value} {s : State} {C n d : String} {A : Nat → Prop} (hl : (Cond.laysStatic C n d).before args s = true) (hini : (Cond.initialized C).before args s = true) (h : (Cond.isRef (.static C n d)).before args s = true) (hA : ∀ a : Nat, a < s.heap.size → ¬ A a) : vx_Zq C n d A s s.heap := by
  refine ⟨va_Zqof hl hini h hA, ?_⟩
  obtain ⟨c, k, i, f, a, cell, h1, h2, h3, h4, h5, h6, h7, h8, h9⟩ := Cond.laysStatic_spec hl
  exact ⟨c, k, i, f, a, cell, h1, h2, h3, h4, h5, h6, h7, h8, h9, hA a (Array.getElem?_eq_some_iff.mp h5).1⟩
theorem vx_isRef {C n d : String} {v : Value} {A : Nat → Prop} {s : State} {args : Array Value} (h : va_Z C n d v A s s.heap) (hv : v.isRef = true) : (Cond.isRef (.static C n d)).before args s = true := by
  obtain ⟨cf, kf, fi, f, a, cell, h1, h2, h3, h4, h5, h6, h7, -⟩ := h
  have he : (Term.static C n d).eval args s none [] s = some v := by
    simp [Term.eval, State.fieldNamed?, h1, h2, h4, h5, h6, h7]
  simp only [Cond.before, Cond.holds, Cond.value, he]
  cases v <;> simp_all [Value.isRef]
theorem vx_isRefq {C n d : String} {A : Nat → Prop} {s : State} {args : Array Value} (h : va_Zq C n d A s s.heap) : (Cond.isRef (.static C n d)).before args s = true := by
  rcases h with h | ⟨t, h⟩
  · exact vx_isRef h rfl
  · exact vx_isRef h rfl
/-- the same frame, seen from here: as if the method were called anew in this heap -/
theorem vx_rebase {T : State} (X : Stand p l e R s m args below meth c T locs cells slots) {R' : Room} (hf : R'.frames ≤ R.frames) (hl : R'.locals ≤ R.locals) (hc : cells + R'.cells ≤ R.cells) (hs : slots + R'.slots ≤ R.slots) :
    Stand p l e R' ((T.setVm s.vm).setFrames (.invoking m args :: below)) m args below meth c T [] 0 0 := by
  have htop : (T.setVm s.vm).topJava?.isSome := X.here.top
  have hF : ((T.setVm s.vm).setFrames (.invoking m args :: below)).frames = .invoking m args :: below := State.frames_setFrames _ (State.cur_lt_of_top htop)
  obtain ⟨g₀, hg0⟩ := Option.isSome_iff_exists.mp htop
  obtain ⟨r, hr⟩ := State.topJava?_eq_some.mp hg0
  have hl9 : e.platform.stackLimits (T.setVm s.vm).me = e.platform.stackLimits s.me := X.limits
  have hb9 : (T.setVm s.vm).me.stackBytes = s.me.stackBytes := X.bytes
  refine ⟨X.admits, X.cas, X.clock, hF, ?_, X.hears, X.method, X.code, X.here, X.tail, X.warmed, ?_, ?_, ?_⟩
  · have h := X.room
    have hU : ((T.setVm s.vm).setFrames (.invoking m args :: below)).localsInUse = s.localsInUse := by
      rw [State.localsInUse_invoking hF (meth := meth) (c := c) X.method X.code, State.localsInUse_invoking X.frames X.method X.code]
    simp only [State.hasRoom, Bool.and_eq_true, decide_eq_true_eq] at h ⊢
    obtain ⟨⟨⟨⟨h1, h2, h3, h4, h5, h6⟩, h7⟩, h8⟩, h9⟩ := h
    rw [X.frames, List.length_cons] at h2 h3
    have q1 := X.heapSize
    have q2 := X.used
    simp only [hF, hU, List.length_cons, State.stackLimits_setFrames, State.stackBytes_setFrames, hl9, hb9]
    refine ⟨⟨⟨⟨by omega, by omega, by omega, by omega, by omega, h6⟩, ?_⟩, ?_⟩, X.book⟩
    · show T.heap.size + R'.cells ≤ e.platform.maxCells
      omega
    · show T.slotsUsed + R'.slots ≤ e.platform.maxSlots
      omega
  · rw [State.stackLimits_setFrames]; rfl
  · rw [State.stackBytes_setFrames]; rfl
  · refine ⟨?_, Nat.le_refl _, Nat.le_refl _, ?_, ?_, fun a c9 h9 => ⟨c9, h9, rfl, rfl, fun _ _ => rfl⟩⟩
    · obtain ⟨t, ht, -⟩ := State.frames_cons hr
      show T.setVm s.vm = { ((T.setVm s.vm).setFrames (.invoking m args :: below)).setFrames (T.setVm s.vm).frames with heap := T.heap, slotsUsed := T.slotsUsed }
      rw [State.setFrames_setFrames, State.setFrames_self ht]
      rfl
    · show T.slotsUsed = T.slotsUsed + ((T.heap.toList.drop T.heap.size).map (·.slots.size)).sum
      rw [List.drop_eq_nil_of_le (Nat.le_of_eq Array.length_toList)]
      rfl
    · show ((T.heap.toList.drop T.heap.size).map (·.slots.size)).sum ≤ 0
      rw [List.drop_eq_nil_of_le (Nat.le_of_eq Array.length_toList)]
      exact Nat.le_refl _
/-- 'throw new E()': new; dup; invokespecial; athrow -/
theorem vx_throw0 {cc : ByteArray} {pc : Nat} (hexec : p.tables.exec = Jvm.exec) (hb : c.code = cc) (hl : l.stackTraces = false) {own cls : String} {names : List String} {ik ic mc ms : Nat} {A : Nat → Prop}
    (hown : s.vm.findClass own = some m.cls) (hcls : Bundle.fit cls = true) (hnames : ∀ n ∈ names, Bundle.fit n = true)
    (hk : (Cond.classLink own ik cls).before args s = true) (hini : (Cond.initialized cls).before args s = true) (hat : ∀ w ∈ vx_at0 own ic cls names, w.before args s = true)
    (hgood : ∀ w ∈ Cond.classLink own ik cls :: Cond.initialized cls :: vx_at0 own ic cls names, vx_ot w = true)
    (hU : vx_Zq Bundle.tN "UNASSIGNED_STACK" Bundle.steD A s s.heap) (hN : vx_Zq Bundle.tN "SUPPRESSED_SENTINEL" Bundle.listD A s s.heap) (hS : va_S A s.heap H locs) (hsize : ls.size = c.maxLocals)
    (d0 : decode cc pc = .ok (.new ik, 3)) (d3 : decode cc (pc + 3) = .ok (.dup, 1)) (d4 : decode cc (pc + 4) = .ok (.invokespecial ic, 3)) (d7 : decode cc (pc + 7) = .ok (.athrow, 1))
    (hout : ∀ x ∈ c.exceptionTable.toList, covers x (pc + 7) = false)
    (hRframes : names.length + 3 < R.frames) (hRlocals : (rest.map fun v => v.category).sum + (13 * (names.length + 1) + 42) ≤ R.locals) (hRcells : cells + 1 ≤ R.cells) (hRslots : slots + 6 ≤ R.slots) (hlocks : meth.locks = false)
    (hx : ∀ t : State, s.vm.Alike t.vm → H.size ≤ t.heap.size → (∀ q : Nat, q < H.size → t.heap[q]? = H[q]?) → XC cls s t)
    (hf : ∀ z ∈ locs, free z.base) (hc : cells + 1 ≤ mc) (hs : slots + 6 ≤ ms) :
    W p l e R s m args below meth c H locs cells slots (vx_MQ below Qc XC args s mc ms free) (F0 m pc ls rest) := by
  intro T hT X
  have htr : e.platform.stackTraces = false := (show e.platform.stackTraces = l.stackTraces by rw [X.admits.platform]).trans hl
  have Y := vx_rebase X (R' := { frames := R.frames, locals := R.locals, cells := 1, slots := 6 }) (Nat.le_refl _) (Nat.le_refl _) hRcells hRslots
  obtain ⟨s', hA⟩ : ∃ z, z = (T.setVm s.vm).setFrames (.invoking m args :: below) := ⟨_, rfl⟩
  rw [← hA] at Y
  have hvm : s'.vm = s.vm := by rw [hA]; rfl
  have hhp : s'.heap = H := by rw [hA]; exact hT
  have hW0 : s.WarmedH s'.vm := by rw [hvm]; exact State.WarmedH.refl s
  have hat' : ∀ w ∈ vx_at0 own ic cls names, w.before args s' = true := fun w hw => vx_ot_at hW0 hvm.symm (hgood w (List.mem_cons_of_mem _ (List.mem_cons_of_mem _ hw))) (hat w hw)
  have hk' : (Cond.classLink own ik cls).before args s' = true := vx_ot_at hW0 hvm.symm (hgood _ List.mem_cons_self) hk
  have hini' : (Cond.initialized cls).before args s' = true := vx_ot_at hW0 hvm.symm (hgood _ (List.mem_cons_of_mem _ List.mem_cons_self)) hini
  have hU' : vx_Zq Bundle.tN "UNASSIGNED_STACK" Bundle.steD A s' s'.heap := by rw [hhp]; exact vx_Zq.moved hW0.alike (hU.kept hS.2.1)
  have hN' : vx_Zq Bundle.tN "SUPPRESSED_SENTINEL" Bundle.listD A s' s'.heap := by rw [hhp]; exact vx_Zq.moved hW0.alike (hN.kept hS.2.1)
  have h : ∀ w ∈ Bundle.ownAtoms0 own ic cls names, w.before args s' = true := vx_own hat' (vx_isRefq hU'.1) (vx_isRefq hN'.1) hU'.2.word hN'.2.word
  have hown' : s'.vm.findClass own = some m.cls := by rw [hvm]; exact hown
  have hins : (Cond.instantiable cls 6).before args s' = true := h _ (by simp [Bundle.ownAtoms0])
  obtain ⟨vm₁, cX, kX, hfX, hkX, -, -, X₁, st1⟩ := Y.newCold hexec (own := own) (C := cls) (index := ik) (n := 6) hown' hk' hins hini'
    (g := F0 m pc ls rest) rfl (by rw [hb]; exact d0) (Nat.le_refl _) (Nat.le_refl _)
  generalize hT1 : (T.setVm vm₁).pushCell { cls := cX, slots := kX.instanceTypes.map defaultValue, vm := .none } = T1 at X₁ st1
  have hcat : (Value.ref T.heap.size).category = 1 := rfl
  have hcellA : T1.heap[T.heap.size]? = some (freshCell cX kX) := by rw [← hT1]; exact State.heap_pushCell_size _ _
  have d3' : decode c.code (pc + 3) = .ok (.dup, 1) := by rw [hb]; exact d3
  obtain ⟨U, hsteps, hrun, hend, hW, hsame, ce, hce, hO⟩ := X₁.ctorThrow0 hexec htr (own := own) (cls := cls) (names := names) (ic := ic) hown' hcls hnames h (fun x hx => nomatch hx) hfX hkX hcellA (by rw [hhp, hT]; exact Nat.le_refl _)
    (g := { method := m, pc := pc + 4, locals := ls, stack := .ref T.heap.size :: .ref T.heap.size :: rest, locked := none }) rfl hsize rfl rfl (rest := rest) rfl
    (by rw [hb]; exact d4) (by rw [hb]; exact d7) hout hRframes (by simp only [List.map_cons, List.sum_cons, hcat]; omega) hlocks
  obtain ⟨f1, f2⟩ := vx_frame hsame
  rw [hhp] at f1 f2
  have hWs : s.WarmedH U.vm := State.WarmedH.trans hW0 hW
  have hcl : s.vm.findClass cls = some ce.cls := by
    have h9 := hO.cls
    rw [hvm] at h9
    exact h9
  have hall : s.sameButNew ({ U with vm := s.vm } : State) locs mc ms := by
    subst hA
    obtain ⟨e1, e2⟩ := hsame
    rw [State.setFrames_setFrames] at e1
    have h2 : (T.setVm s.vm).sameButNew ({ U with vm := s.vm } : State) [] (0 + 1) (0 + 6) := ⟨e1, e2⟩
    have h3 := X.same.trans h2
    rw [List.append_nil] at h3
    exact h3.mono hc hs
  refine ⟨U, ?_, .threw T.heap.size, hrun, hend, Or.inr ⟨T.heap.size, rfl, cls, ce, locs, hx U hWs.alike f1 (fun q hq => f2 q hq (fun z hz => nomatch hz)), hce, hO.vm, hcl, hWs, hall, hf⟩⟩
  refine st1 _ ?_
  show Steps p.tables e below (T1.setTop { method := m, pc := pc + 3, locals := ls, stack := .ref T.heap.size :: rest, locked := none }) _
  jvm_step X₁.here [X₁.here.top, hexec, d3', Value.category]
  exact hsteps
/-- 'throw new E("text")': new; dup; ldc; invokespecial; athrow -/
theorem vx_throwS {cc : ByteArray} {pc : Nat} (hexec : p.tables.exec = Jvm.exec) (hb : c.code = cc) (hl : l.stackTraces = false) {own cls text : String} {names : List String} {ik is ic mc ms sa : Nat} {A : Nat → Prop}
    (hown : s.vm.findClass own = some m.cls) (hcls : Bundle.fit cls = true) (hnames : ∀ n ∈ names, Bundle.fit n = true)
    (hk : (Cond.classLink own ik cls).before args s = true) (hini : (Cond.initialized cls).before args s = true) (hstr : vk_R own is text sa s) (hat : ∀ w ∈ vx_atS own ic cls names, w.before args s = true)
    (hgood : ∀ w ∈ Cond.classLink own ik cls :: Cond.initialized cls :: vx_atS own ic cls names, vx_ot w = true)
    (hU : vx_Zq Bundle.tN "UNASSIGNED_STACK" Bundle.steD A s s.heap) (hN : vx_Zq Bundle.tN "SUPPRESSED_SENTINEL" Bundle.listD A s s.heap) (hS : va_S A s.heap H locs) (hsize : ls.size = c.maxLocals)
    (d0 : decode cc pc = .ok (.new ik, 3)) (d3 : decode cc (pc + 3) = .ok (.dup, 1)) (d4 : decode cc (pc + 4) = .ok (.ldc is, 2)) (d6 : decode cc (pc + 6) = .ok (.invokespecial ic, 3)) (d9 : decode cc (pc + 9) = .ok (.athrow, 1))
    (hout : ∀ x ∈ c.exceptionTable.toList, covers x (pc + 9) = false)
    (hRframes : names.length + 3 < R.frames) (hRlocals : (rest.map fun v => v.category).sum + (13 * (names.length + 1) + 43) ≤ R.locals) (hRcells : cells + 1 ≤ R.cells) (hRslots : slots + 6 ≤ R.slots) (hlocks : meth.locks = false)
    (hx : ∀ t : State, s.vm.Alike t.vm → H.size ≤ t.heap.size → (∀ q : Nat, q < H.size → t.heap[q]? = H[q]?) → XC cls s t)
    (hf : ∀ z ∈ locs, free z.base) (hc : cells + 1 ≤ mc) (hs : slots + 6 ≤ ms) :
    W p l e R s m args below meth c H locs cells slots (vx_MQ below Qc XC args s mc ms free) (F0 m pc ls rest) := by
  intro T hT X
  have htr : e.platform.stackTraces = false := (show e.platform.stackTraces = l.stackTraces by rw [X.admits.platform]).trans hl
  have Y := vx_rebase X (R' := { frames := R.frames, locals := R.locals, cells := 1, slots := 6 }) (Nat.le_refl _) (Nat.le_refl _) hRcells hRslots
  obtain ⟨s', hA⟩ : ∃ z, z = (T.setVm s.vm).setFrames (.invoking m args :: below) := ⟨_, rfl⟩
  rw [← hA] at Y
  have hvm : s'.vm = s.vm := by rw [hA]; rfl
  have hhp : s'.heap = H := by rw [hA]; exact hT
  have hW0 : s.WarmedH s'.vm := by rw [hvm]; exact State.WarmedH.refl s
  have hat' : ∀ w ∈ vx_atS own ic cls names, w.before args s' = true := fun w hw => vx_ot_at hW0 hvm.symm (hgood w (List.mem_cons_of_mem _ (List.mem_cons_of_mem _ hw))) (hat w hw)
  have hk' : (Cond.classLink own ik cls).before args s' = true := vx_ot_at hW0 hvm.symm (hgood _ List.mem_cons_self) hk
  have hini' : (Cond.initialized cls).before args s' = true := vx_ot_at hW0 hvm.symm (hgood _ (List.mem_cons_of_mem _ List.mem_cons_self)) hini
  have hU' : vx_Zq Bundle.tN "UNASSIGNED_STACK" Bundle.steD A s' s'.heap := by rw [hhp]; exact vx_Zq.moved hW0.alike (hU.kept hS.2.1)
  have hN' : vx_Zq Bundle.tN "SUPPRESSED_SENTINEL" Bundle.listD A s' s'.heap := by rw [hhp]; exact vx_Zq.moved hW0.alike (hN.kept hS.2.1)
  have h : ∀ w ∈ Bundle.ownAtoms own ic cls names, w.before args s' = true := vx_own hat' (vx_isRefq hU'.1) (vx_isRefq hN'.1) hU'.2.word hN'.2.word
  have hown' : s'.vm.findClass own = some m.cls := by rw [hvm]; exact hown
  have hins : (Cond.instantiable cls 6).before args s' = true := h _ (by simp [Bundle.ownAtoms])
  obtain ⟨vm₁, cX, kX, hfX, hkX, -, -, X₁, st1⟩ := Y.newCold hexec (own := own) (C := cls) (index := ik) (n := 6) hown' hk' hins hini'
    (g := F0 m pc ls rest) rfl (by rw [hb]; exact d0) (Nat.le_refl _) (Nat.le_refl _)
  generalize hT1 : (T.setVm vm₁).pushCell { cls := cX, slots := kX.instanceTypes.map defaultValue, vm := .none } = T1 at X₁ st1
  have hcat : (Value.ref T.heap.size).category = 1 := rfl
  have hcellA : T1.heap[T.heap.size]? = some (freshCell cX kX) := by rw [← hT1]; exact State.heap_pushCell_size _ _
  have d3' : decode c.code (pc + 3) = .ok (.dup, 1) := by rw [hb]; exact d3
  have d4' : decode c.code (pc + 4) = .ok (.ldc is, 2) := by rw [hb]; exact d4
  have hstr' : vk_R own is text sa s' := vk_R.warm hW0 hstr
  obtain ⟨U, hsteps, hrun, hend, hW, hsame, ce, hce, hO⟩ := X₁.ctorThrowS hexec htr (own := own) (cls := cls) (names := names) (ic := ic) hown' hcls hnames h (fun x hx => nomatch hx) hfX hkX hcellA (by rw [hhp, hT]; exact Nat.le_refl _) (msg := .ref sa) rfl
    (g := { method := m, pc := pc + 6, locals := ls, stack := .ref sa :: .ref T.heap.size :: .ref T.heap.size :: rest, locked := none }) rfl hsize rfl rfl (rest := rest) rfl
    (by rw [hb]; exact d6) (by rw [hb]; exact d9) hout hRframes (by simp only [List.map_cons, List.sum_cons, hcat]; omega) hlocks
  obtain ⟨f1, f2⟩ := vx_frame hsame
  rw [hhp] at f1 f2
  have hWs : s.WarmedH U.vm := State.WarmedH.trans hW0 hW
  have hcl : s.vm.findClass cls = some ce.cls := by
    have h9 := hO.cls
    rw [hvm] at h9
    exact h9
  have hall : s.sameButNew ({ U with vm := s.vm } : State) locs mc ms := by
    subst hA
    obtain ⟨e1, e2⟩ := hsame
    rw [State.setFrames_setFrames] at e1
    have h2 : (T.setVm s.vm).sameButNew ({ U with vm := s.vm } : State) [] (0 + 1) (0 + 6) := ⟨e1, e2⟩
    have h3 := X.same.trans h2
    rw [List.append_nil] at h3
    exact h3.mono hc hs
  refine ⟨U, ?_, .threw T.heap.size, hrun, hend, Or.inr ⟨T.heap.size, rfl, cls, ce, locs, hx U hWs.alike f1 (fun q hq => f2 q hq (fun z hz => nomatch hz)), hce, hO.vm, hcl, hWs, hall, hf⟩⟩
  refine st1 _ ?_
  show Steps p.tables e below (T1.setTop { method := m, pc := pc + 3, locals := ls, stack := .ref T.heap.size :: rest, locked := none }) _
  jvm_step X₁.here [X₁.here.top, hexec, d3', Value.category]
  exact X₁.ldcString hexec (own := own) (text := text) (index := is) (a := sa) hown' hstr'.1 hstr'.2
    (g := { method := m, pc := pc + 4, locals := ls, stack := .ref T.heap.size :: .ref T.heap.size :: rest, locked := none }) rfl d4' _ hsteps
/-- 'throw new E("text")', the text by a wide index -/
theorem vx_throwSW {cc : ByteArray} {pc : Nat} (hexec : p.tables.exec = Jvm.exec) (hb : c.code = cc) (hl : l.stackTraces = false) {own cls text : String} {names : List String} {ik is ic mc ms sa : Nat} {A : Nat → Prop}
    (hown : s.vm.findClass own = some m.cls) (hcls : Bundle.fit cls = true) (hnames : ∀ n ∈ names, Bundle.fit n = true)
    (hk : (Cond.classLink own ik cls).before args s = true) (hini : (Cond.initialized cls).before args s = true) (hstr : vk_R own is text sa s) (hat : ∀ w ∈ vx_atS own ic cls names, w.before args s = true)
    (hgood : ∀ w ∈ Cond.classLink own ik cls :: Cond.initialized cls :: vx_atS own ic cls names, vx_ot w = true)
    (hU : vx_Zq Bundle.tN "UNASSIGNED_STACK" Bundle.steD A s s.heap) (hN : vx_Zq Bundle.tN "SUPPRESSED_SENTINEL" Bundle.listD A s s.heap) (hS : va_S A s.heap H locs) (hsize : ls.size = c.maxLocals)
    (d0 : decode cc pc = .ok (.new ik, 3)) (d3 : decode cc (pc + 3) = .ok (.dup, 1)) (d4 : decode cc (pc + 4) = .ok (.ldc_w is, 3)) (d7 : decode cc (pc + 7) = .ok (.invokespecial ic, 3)) (d10 : decode cc (pc + 10) = .ok (.athrow, 1))
    (hout : ∀ x ∈ c.exceptionTable.toList, covers x (pc + 10) = false)
    (hRframes : names.length + 3 < R.frames) (hRlocals : (rest.map fun v => v.category).sum + (13 * (names.length + 1) + 43) ≤ R.locals) (hRcells : cells + 1 ≤ R.cells) (hRslots : slots + 6 ≤ R.slots) (hlocks : meth.locks = false)
    (hx : ∀ t : State, s.vm.Alike t.vm → H.size ≤ t.heap.size → (∀ q : Nat, q < H.size → t.heap[q]? = H[q]?) → XC cls s t)
    (hf : ∀ z ∈ locs, free z.base) (hc : cells + 1 ≤ mc) (hs : slots + 6 ≤ ms) :
    W p l e R s m args below meth c H locs cells slots (vx_MQ below Qc XC args s mc ms free) (F0 m pc ls rest) := by
  intro T hT X
  have htr : e.platform.stackTraces = false := (show e.platform.stackTraces = l.stackTraces by rw [X.admits.platform]).trans hl
  have Y := vx_rebase X (R' := { frames := R.frames, locals := R.locals, cells := 1, slots := 6 }) (Nat.le_refl _) (Nat.le_refl _) hRcells hRslots
  obtain ⟨s', hA⟩ : ∃ z, z = (T.setVm s.vm).setFrames (.invoking m args :: below) := ⟨_, rfl⟩
  rw [← hA] at Y
  have hvm : s'.vm = s.vm := by rw [hA]; rfl
  have hhp : s'.heap = H := by rw [hA]; exact hT
  have hW0 : s.WarmedH s'.vm := by rw [hvm]; exact State.WarmedH.refl s
  have hat' : ∀ w ∈ vx_atS own ic cls names, w.before args s' = true := fun w hw => vx_ot_at hW0 hvm.symm (hgood w (List.mem_cons_of_mem _ (List.mem_cons_of_mem _ hw))) (hat w hw)
  have hk' : (Cond.classLink own ik cls).before args s' = true := vx_ot_at hW0 hvm.symm (hgood _ List.mem_cons_self) hk
  have hini' : (Cond.initialized cls).before args s' = true := vx_ot_at hW0 hvm.symm (hgood _ (List.mem_cons_of_mem _ List.mem_cons_self)) hini
  have hU' : vx_Zq Bundle.tN "UNASSIGNED_STACK" Bundle.steD A s' s'.heap := by rw [hhp]; exact vx_Zq.moved hW0.alike (hU.kept hS.2.1)
  have hN' : vx_Zq Bundle.tN "SUPPRESSED_SENTINEL" Bundle.listD A s' s'.heap := by rw [hhp]; exact vx_Zq.moved hW0.alike (hN.kept hS.2.1)
  have h : ∀ w ∈ Bundle.ownAtoms own ic cls names, w.before args s' = true := vx_own hat' (vx_isRefq hU'.1) (vx_isRefq hN'.1) hU'.2.word hN'.2.word
  have hown' : s'.vm.findClass own = some m.cls := by rw [hvm]; exact hown
  have hins : (Cond.instantiable cls 6).before args s' = true := h _ (by simp [Bundle.ownAtoms])
  obtain ⟨vm₁, cX, kX, hfX, hkX, -, -, X₁, st1⟩ := Y.newCold hexec (own := own) (C := cls) (index := ik) (n := 6) hown' hk' hins hini'
    (g := F0 m pc ls rest) rfl (by rw [hb]; exact d0) (Nat.le_refl _) (Nat.le_refl _)
  generalize hT1 : (T.setVm vm₁).pushCell { cls := cX, slots := kX.instanceTypes.map defaultValue, vm := .none } = T1 at X₁ st1
  have hcat : (Value.ref T.heap.size).category = 1 := rfl
  have hcellA : T1.heap[T.heap.size]? = some (freshCell cX kX) := by rw [← hT1]; exact State.heap_pushCell_size _ _
  have d3' : decode c.code (pc + 3) = .ok (.dup, 1) := by rw [hb]; exact d3
  have d4' : decode c.code (pc + 4) = .ok (.ldc_w is, 3) := by rw [hb]; exact d4
  have hstr' : vk_R own is text sa s' := vk_R.warm hW0 hstr
  obtain ⟨U, hsteps, hrun, hend, hW, hsame, ce, hce, hO⟩ := X₁.ctorThrowS hexec htr (own := own) (cls := cls) (names := names) (ic := ic) hown' hcls hnames h (fun x hx => nomatch hx) hfX hkX hcellA (by rw [hhp, hT]; exact Nat.le_refl _) (msg := .ref sa) rfl
    (g := { method := m, pc := pc + 7, locals := ls, stack := .ref sa :: .ref T.heap.size :: .ref T.heap.size :: rest, locked := none }) rfl hsize rfl rfl (rest := rest) rfl
    (by rw [hb]; exact d7) (by rw [hb]; exact d10) hout hRframes (by simp only [List.map_cons, List.sum_cons, hcat]; omega) hlocks
  obtain ⟨f1, f2⟩ := vx_frame hsame
  rw [hhp] at f1 f2
  have hWs : s.WarmedH U.vm := State.WarmedH.trans hW0 hW
  have hcl : s.vm.findClass cls = some ce.cls := by
    have h9 := hO.cls
    rw [hvm] at h9
    exact h9
  have hall : s.sameButNew ({ U with vm := s.vm } : State) locs mc ms := by
    subst hA
    obtain ⟨e1, e2⟩ := hsame
    rw [State.setFrames_setFrames] at e1
    have h2 : (T.setVm s.vm).sameButNew ({ U with vm := s.vm } : State) [] (0 + 1) (0 + 6) := ⟨e1, e2⟩
    have h3 := X.same.trans h2
    rw [List.append_nil] at h3
    exact h3.mono hc hs
  refine ⟨U, ?_, .threw T.heap.size, hrun, hend, Or.inr ⟨T.heap.size, rfl, cls, ce, locs, hx U hWs.alike f1 (fun q hq => f2 q hq (fun z hz => nomatch hz)), hce, hO.vm, hcl, hWs, hall, hf⟩⟩
  refine st1 _ ?_
  show Steps p.tables e below (T1.setTop { method := m, pc := pc + 3, locals := ls, stack := .ref T.heap.size :: rest, locked := none }) _
  jvm_step X₁.here [X₁.here.top, hexec, d3', Value.category]
  exact X₁.ldcStringW hexec (own := own) (text := text) (index := is) (a := sa) hown' hstr'.1 hstr'.2
    (g := { method := m, pc := pc + 4, locals := ls, stack := .ref T.heap.size :: .ref T.heap.size :: rest, locked := none }) rfl d4' _ hsteps
end Ends
section Bodies
variable {l : Launch}
theorem vx_ofW {y : MethodName} {ws ws' : List Cond} {rm : Room} {Pc : Array Value → State → Prop} {Qc : Array Value → State → Outcome → State → Prop} {XC : String → State → State → Prop} {mc ms : Nat} {free : Addr → Prop} {cc : ByteArray} {maxL : Nat} {ret : Option FieldType}
    (hy : plainName y.cls = true) (hw : ws = Cond.code y cc maxL ret :: ws')
    (body : ∀ p e s m args below meth c s₁, BodyLoose p l y (headSpec ws rm) cc maxL ret e s m args below meth c s₁ → c.maxLocals = maxL → (∀ x ∈ c.exceptionTable.toList, False) → Pc args s →
      W p l e (headSpec ws rm).room s m args below meth c s.heap [] 0 0 (vx_MQ below Qc XC args s mc ms free) (entryFrame m args maxL)) : vx_Met l y ws rm Pc Qc XC mc ms free := by
  refine MetFree.of_bodyS (code := cc) (maxLocals := maxL) (ret := ret) hy ?_ ?_
  · intro args s m h hn
    obtain ⟨meth, c, h1, h2, h3, h4, h5, h6, -, -⟩ := Cond.code_spec hn (atoms_spec (ws := ws) h _ (by rw [hw]; exact List.mem_cons_self))
    exact ⟨meth, c, h1, h2, h3, h4, h5, h6⟩
  · intro p e s m args below meth c s₁ B hml hP _
    have hh0 : s₁.heap = s.heap := by rw [B.state]; rfl
    have ht : ∀ x ∈ c.exceptionTable.toList, False := by
      obtain ⟨meth9, c9, h1, h2, -, -, -, -, h7, -⟩ := Cond.code_spec B.named (atoms_spec (ws := ws) B.pre _ (by rw [hw]; exact List.mem_cons_self))
      cases Option.some.inj (h1.symm.trans B.method)
      cases Option.some.inj (h2.symm.trans (Stand.of_body B).code)
      intro x hx
      rw [Array.isEmpty_iff.mp h7] at hx
      cases hx
    obtain ⟨t, a1, o, b1, b2, b3⟩ := body p e s m args below meth c s₁ B hml ht hP s₁ hh0 (Stand.of_body B)
    exact ⟨t, o, a1, b1, b2, b3⟩
/-- the table of a body with handlers -/
theorem vx_table {p : Program} {x y : MethodName} {S : Spec} {cc bytes : ByteArray} {maxL maxL' : Nat} {ret ret' : Option FieldType} {e : Env} {s s₁ : State} {m : MethodId} {args : Array Value} {below : List Frame} {meth : Method} {c : Code} {hh : List (Nat × Nat × Nat × Nat)}
    (B : BodyLoose p l y S cc maxL ret e s m args below meth c s₁) (h : (Cond.codeWith y bytes maxL' ret' hh).before args s = true) : c.exceptionTable.toList = tableOf hh := by
  obtain ⟨m9, meth9, c9, hn9, h1, h2, -, -, h6, -⟩ := Cond.codeWith_spec h
  cases Option.some.inj (hn9.symm.trans B.named)
  cases Option.some.inj (h1.symm.trans B.method)
  cases Option.some.inj (h2.symm.trans (Stand.of_body B).code)
  rw [← h6, table_eq]
end Bodies
end VXA
/-! ===== END ===== -/
/-! ===== BEGIN a static call of a method with an exception table ===== -/
section VXS
variable {p : Program} {l : Launch} {e : Env} {R : Room} {s : State} {m : MethodId} {args : Array Value} {below : List Frame} {meth : Method} {c : Code} {T : State} {H : Heap} {locs : List Loc} {cells slots : Nat}
abbrev vx_CSW (R : Room) (s : State) (args : Array Value) (own : String) (index : Nat) (y : MethodName) (bytes : ByteArray) (maxL : Nat) (ret : Option FieldType) (hh : List (Nat × Nat × Nat × Nat)) (ws : List Cond) (rm : Room) (mc ms n : Nat) : Prop :=
  (rm.cells = mc ∧ rm.slots = ms ∧ rm.frames + 1 ≤ R.frames ∧ 8 + (maxL + 11) + rm.locals ≤ R.locals ∧ (∀ w ∈ ws, ∀ (a' : Array Value) (U : State), s.WarmedH U.vm → w.before a' U = true) ∧ Cond.codeWith y bytes maxL ret hh ∈ ws) ∧
  (Cond.codeWith y bytes maxL ret hh).before args s = true ∧ (Cond.initialized y.cls).before args s = true ∧ (y.cls ≠ "java/lang/invoke/MethodHandle" ∧ y.cls ≠ "java/lang/invoke/VarHandle") ∧
  (∀ sig, parseMethodDescriptor y.desc = some sig → n = sig.parameters.length) ∧ (Cond.methodLink own index y).before args s = true ∧ (Cond.static y).before args s = true
theorem vx_cwSW {own : String} {index maxL mc ms : Nat} {y : MethodName} {bytes : ByteArray} {ret : Option FieldType} {hh : List (Nat × Nat × Nat × Nat)} {Ts ws ws' : List Cond} {rm : Room} (n : Nat) (ht : ∀ w ∈ Ts, w.before args s = true) (hT : GoodIn Ts (va_wsS own index y ws)) (hw : ws = Cond.codeWith y bytes maxL ret hh :: ws') (hrc : rm.cells = mc) (hrs : rm.slots = ms)
    (hd : y.cls ≠ "java/lang/invoke/MethodHandle" ∧ y.cls ≠ "java/lang/invoke/VarHandle" ∧ (parseMethodDescriptor y.desc).map (fun d => d.parameters.length) = some n) (hR : rm.frames + 1 ≤ R.frames ∧ 8 + (maxL + 11) + rm.locals ≤ R.locals) :
    vx_CSW R s args own index y bytes maxL ret hh ws rm mc ms n := by
  have ok : ∀ w ∈ va_wsS own index y ws, w.before args s = true := fun w h => ht w (hT w h).1
  have hG : GoodIn Ts ws := fun w h => hT w (by unfold va_wsS; exact List.mem_append_right _ h)
  have hc : Cond.codeWith y bytes maxL ret hh ∈ ws := by rw [hw]; exact List.mem_cons_self
  refine ⟨⟨hrc, hrs, hR.1, hR.2, pay_in ht hG, hc⟩, ht _ (hG _ hc).1, ok _ (by simp [va_wsS]), ⟨hd.1, hd.2.1⟩, fun sig h => ?_, ok _ (by simp [va_wsS]), ok _ (by simp [va_wsS])⟩
  have h2 := hd.2.2
  rw [h] at h2
  exact (Option.some.inj h2).symm
theorem vx_callSW (X : Stand p l e R s m args below meth c T locs cells slots) (hexec : p.tables.exec = Jvm.exec) {own : String} {index : Nat} {y : MethodName} {bytes : ByteArray} {maxL : Nat} {ret : Option FieldType} {hh : List (Nat × Nat × Nat × Nat)}
    (hown : s.vm.findClass own = some m.cls) (hlink : (Cond.methodLink own index y).before args s = true) (hstat : (Cond.static y).before args s = true) (hinit : (Cond.initialized y.cls).before args s = true)
    (hcode : (Cond.codeWith y bytes maxL ret hh).before args s = true) (hy : y.cls ≠ "java/lang/invoke/MethodHandle" ∧ y.cls ≠ "java/lang/invoke/VarHandle")
    {W9 : Nat} {Pre : Pt → Array Value → Prop} {Post : Pt → Array Value → Option Value → Pt → Prop} (hK : Back l R p e below s args y 3 W9 Pre Post)
    {g : JFrame} (hg : g.method = m) (hsize : g.locals.size = c.maxLocals) {argsL rest : List Value} (hlen : ∀ sig, parseMethodDescriptor y.desc = some sig → argsL.length = sig.parameters.length)
    (hstack : g.stack = argsL.reverse ++ rest) (hW : 2 * g.monitorRoom + (rest.map fun v => v.category).sum ≤ W9) (hdg : decode c.code g.pc = .ok (.invokestatic index, 3))
    (hpre : ∀ vm₁, s.WarmedH vm₁ → Pre ⟨T.setVm vm₁, locs, cells, slots⟩ argsL.toArray) :
    ∃ (v : Option Value) (vm₁ : Vm) (B : Pt), s.WarmedH vm₁ ∧ Stand p l e R s m args below meth c B.U B.locs B.cells B.slots ∧ Post ⟨T.setVm vm₁, locs, cells, slots⟩ argsL.toArray v B ∧
      ∀ target, Steps p.tables e below (B.U.setTop { g with pc := g.pc + 3, stack := v.toList ++ rest }) target → Steps p.tables e below (T.setTop g) target := by
  obtain ⟨mk, methM, cM, hnamed, hmethM, -, -, -, -, -, -, hsigM⟩ := Cond.codeWith_spec hcode
  have hstatic : methM.isStatic = true := Cond.static_spec hnamed hmethM hstat
  obtain ⟨kP, hkP, -⟩ := className_of_methodNamed hnamed
  have hinitP : kP.init = .initialized := Cond.initialized_spec (findClass_of_methodNamed hnamed) hkP hinit
  obtain ⟨vm₁, X₁, hstep₁⟩ := X.invokestatic hexec hown hlink hnamed hmethM hstatic hkP hinitP hy (g := g) hg (argsL := argsL) (rest := rest) (hlen _ hsigM) hstack hdg
  obtain ⟨v, B, X', hpost, hsteps⟩ := hK m meth c ⟨T.setVm vm₁, locs, cells, slots⟩ { g with stack := rest } (.invokestatic index) mk argsL.toArray X₁ hg hsize hdg hW (X₁.named hnamed) (hpre vm₁ X₁.warmed)
  exact ⟨v, vm₁, B, X₁.warmed, X', hpost, fun target h => hstep₁ _ fun acts => by rw [doInvoke_state]; exact hsteps.trans h⟩
theorem vx_runSW {y : MethodName} {bytes cc : ByteArray} {maxL nL mc ms n index : Nat} {ret : Option FieldType} {hh : List (Nat × Nat × Nat × Nat)} {ws : List Cond} {rm : Room} {Pc : Array Value → State → Prop} {Qc : Array Value → State → Outcome → State → Prop} {free : Addr → Prop} {Ts : List Cond} {own : String} {As rest : List Value} {g : JFrame}
    (S : CallFix p m c cc nL s args Ts own) (hM : Met l y ws rm Pc Qc mc ms free) (cw : vx_CSW R s args own index y bytes maxL ret hh ws rm mc ms n) (hp : PreS s H Pc As)
    (hg : g.method = m) (hn : As.length = n) (hsize : g.locals.size = nL) (hstack : g.stack = As.reverse ++ rest) (hW : 2 * g.monitorRoom + (rest.map fun v => v.category).sum ≤ 8) (hdg : decode cc g.pc = .ok (.invokestatic index, 3)) (hf : cells + mc ≤ R.cells ∧ slots + ms ≤ R.slots) :
    va_Run p l e R s m args below meth c H locs cells slots mc ms g rest (Qc As.toArray) (free) := by
  obtain ⟨⟨hrc, hrs, hfr, hlo, hws, hcw⟩, hcode, hini, hy, hlen, hl, hstt⟩ := cw
  have hK : Back l R p e below s args y 3 8 (PreOf R mc ms Pc) (PostOf Qc mc ms free) := va_backW (hh := hh) (bytes := bytes) (maxL := maxL) (ret := ret) hM hp.1 hrc hrs hfr hlo hws hcw (fun a' U hW => word_at hW (Or.inl (by first | rfl | simp [Cond.onTables, Cond.keeps, Cond.steady])) hini)
  obtain ⟨hx, hb, hml, ho, -⟩ := S
  intro T hT X
  obtain ⟨v, vm₁, ⟨U', l2, c2, s2⟩, hW₁, X', ⟨g', mk, t, L, e1, e2, hq, h1, hL, h2, h3⟩, st⟩ := vx_callSW X hx (hh := hh) (bytes := bytes) (maxL := maxL) (ret := ret) ho hl hstt hini hcode hy hK hg (hsize.trans hml.symm) (argsL := As) (rest := rest) (fun sig h => hn.trans (hlen sig h)) hstack hW (by rw [hb]; exact hdg)
    (fun vm₁ hW₁ => ⟨hf.1, hf.2, hp.2 (T.setVm vm₁) hT hW₁⟩)
  dsimp only [Pt.U, Pt.locs, Pt.cells, Pt.slots] at X' e1 e2 h1 h2 h3 st
  subst h1; subst h2; subst h3
  exact ⟨v, (T.setVm vm₁).calling g' mk As.toArray, t, U', L, hT, X', hL, e1, e2, hq, st⟩
/-- not caught here, past rows that name other classes: it goes on to the caller -/
theorem vx_outP {p : Program} {l : Launch} {e : Env} {R : Room} {s : State} {m : MethodId} {args : Array Value} {below : List Frame} {meth : Method} {c : Code} {H : Heap} {locs : List Loc} {cells slots : Nat} {free : Addr → Prop} {ls : Array Slot} {rest : List Value} {Qc : Array Value → State → Outcome → State → Prop} {XC : String → State → State → Prop}
    {pc : Nat} {own E : String} {ce : Cell} {q : Addr} {mc ms : Nat} (hown : s.vm.findClass own = some m.cls) (hlocks : meth.locks = false)
    (hpass : ∀ z ∈ c.exceptionTable.toList, covers z pc = false ∨ (z.catchType ≠ 0 ∧ ∃ nm : String, (Cond.classLink own z.catchType nm).before args s = true ∧ va_Nc E nm s)) (hcell : H[q]? = some ce) (hv : ce.vm = .none) (hcl : s.vm.findClass E = some ce.cls)
    (hx : ∀ t : State, t.heap = H → s.vm.Alike t.vm → XC E s t) (hf : ∀ z ∈ locs, free z.base) (hc : cells ≤ mc) (hs : slots ≤ ms) :
    vx_W p l e R s m args below meth c H locs cells slots (vx_MQ below Qc XC args s mc ms free) (F0 m pc ls rest) q := by
  intro T hT X
  have hpl : e.platform.magicAccessors = ({} : Platform).magicAccessors := by rw [X.admits.platform]
  obtain ⟨vm', hW', X', st⟩ := X.outThrough hlocks q (g := F0 m pc ls rest) rfl rfl rfl (cell := ce) (by rw [hT]; exact hcell) (by rw [hv]; rfl)
    (by obtain ⟨k9, h9, -⟩ := Vm.findClass_spec hcl; exact ⟨k9, h9⟩) (fun z hz => by
      rcases hpass z hz with h | ⟨hz0, nm, hl1, hn1⟩
      · exact Or.inl h
      · obtain ⟨c6, hc6, hcl6⟩ := Cond.classLink_spec hown hl1 e.platform hpl
        obtain ⟨a8, b8, h1, h2, h3⟩ := hn1
        cases Option.some.inj (h1.symm.trans hcl)
        cases Option.some.inj (h2.symm.trans hc6)
        exact Or.inr ⟨hz0, _, hcl6, h3⟩)
  obtain ⟨g₀, hfr⟩ := X'.frames_eq
  have hcell9 : ((T.setVm vm').setFrames (.throwing q :: below)).heap[q]? = some ce := by
    show T.heap[q]? = some ce
    rw [hT]; exact hcell
  have hend : Ended ((T.setVm vm').setFrames (.throwing q :: below)) below (.threw q) := State.frames_setFrames _ (State.cur_lt_of_frames hfr)
  refine ⟨(T.setVm vm').setFrames (.throwing q :: below), ?_, .threw q, X'.here.running, hend, Or.inr ⟨q, rfl, E, ce, locs, hx _ hT (X'.ends _).1.alike, hcell9, hv, hcl, (X'.ends _).1, (X'.ends _).2.mono hc hs, hf⟩⟩
  rw [X.pushThrowing_eq]
  exact st
/-- a thing of a world lies in the heap -/
theorem vx_lt {D : va_G} {cl : List vw_C} {ws : va_W} {H1 : Heap} (h : va_P D cl ws H1) {k : Nat} {q : Nat × va_E} (hk : ws[k]? = some q) : q.1 < H1.size := (h k q hk).lt
end VXS
/-! ===== END ===== -/
/-! ===== BEGIN methods with a table of their own: called by a name, returning or throwing ===== -/
section VXH
/-! vx_backW, vx_callVX, vx_callSX, vx_callVW, vx_runVW, vx_runVX, vx_runSX, vx_ofWH follow the same proofs as their sisters above (Free/Laws.lean, Shelf42/LK1.lean); vx_outP calls Shelf42/NT130.lean (outThrough). -/
section
variable {l : Launch} {R : Room} {p : Program} {e : Env} {below : List Frame} {s : State} {sargs : Array Value} {y : MethodName} {len W9 : Nat}
theorem vx_backW {ws : List Cond} {rm : Room} {Pc : Array Value → State → Prop} {Qc : Array Value → State → Outcome → State → Prop} {XC : String → State → State → Prop} {mc ms : Nat} {free : Addr → Prop} {bytes : ByteArray} {maxL : Nat} {ret : Option FieldType} {hh : List (Nat × Nat × Nat × Nat)}
    (hM : vx_Met l y ws rm Pc Qc XC mc ms free) (hblind : FrameBlind Pc) (hrc : rm.cells = mc) (hrs : rm.slots = ms)
    (hframes : rm.frames + 1 ≤ R.frames) (hlocals : W9 + (maxL + 11) + rm.locals ≤ R.locals)
    (hws : ∀ w ∈ ws, ∀ a' U, s.WarmedH U.vm → w.before a' U = true) (hcode : Cond.codeWith y bytes maxL ret hh ∈ ws) (hinit : ∀ a' U, s.WarmedH U.vm → (Cond.initialized y.cls).before a' U = true) :
    vx_Back l R p e below s sargs y len W9 (PreOf R mc ms Pc) (PostOf Qc mc ms free) (vx_Post XC mc ms free) := by
  intro m meth c A g ig mk a X hg hsize hdg hW hn hp
  have h1 : (headSpec ws rm).pre.before a A.U = true := atoms_intro fun w hw => hws w hw _ _ X.warmed
  have h2 : (Cond.codeWith y bytes maxL ret hh).before a A.U = true := hws _ hcode _ _ X.warmed
  have h3 : (Cond.initialized y.cls).before a A.U = true := hinit _ _ X.warmed
  have h4 : A.cells + (headSpec ws rm).room.cells ≤ R.cells := by rw [show (headSpec ws rm).room.cells = mc from hrc]; exact hp.1
  have h5 : A.slots + (headSpec ws rm).room.slots ≤ R.slots := by rw [show (headSpec ws rm).room.slots = ms from hrs]; exact hp.2.1
  have hPc : Pc a (A.U.calling g mk a) := hblind _ _ _ _ hp.2.2
  obtain ⟨U, Ls, c0, s0⟩ := A
  dsimp only [Pt.U, Pt.locs, Pt.cells, Pt.slots] at h1 h2 h3 h4 h5 X hn hPc ⊢
  obtain ⟨m9, methY, cY, hn9, hmY, hcY, -, hlY, -⟩ := Cond.codeWith_spec h2
  cases Option.some.inj (hn9.symm.trans hn)
  obtain ⟨kY, hkY, -⟩ := className_of_methodNamed hn
  have hinitY : kY.init = .initialized := Cond.initialized_spec (findClass_of_methodNamed hn) hkY h3
  have h : At U g.method c below := by rw [hg]; exact X.here
  have hlocals9 : W9 + (maxL + 11) + (headSpec ws rm).room.locals ≤ R.locals := hlocals
  have happ : (headSpec ws rm).appliesLoose y e.platform (U.calling g mk a) = true :=
    Spec.appliesLoose_calling (g := g) h hdg hn hkY hinitY
      (X.room_calling (g := g) (R' := (headSpec ws rm).room) hsize hmY hcY hframes (by rw [hlY]; omega) h4 h5) h1
  obtain ⟨mid, hmid⟩ := h.above
  have hfr : (U.setTop g).frames = (.java g :: mid) ++ below := by rw [State.frames_setTop' g h.top, hmid]; rfl
  obtain ⟨o, s₂, hsteps, -, hend, hq⟩ := Steps.callFree hM p X.admits X.cas X.clock (acts := []) hfr happ hPc trivial
  have hq' : vx_Q Qc XC mc ms free a (U.calling g mk a) o s₂ := hq
  rw [State.frames_setTop' g h.top] at hend
  obtain ⟨g₀, hg0⟩ := Option.isSome_iff_exists.mp h.top
  obtain ⟨r, hr⟩ := State.topJava?_eq_some.mp hg0
  have hr' : (({ U with heap := s₂.heap, slotsUsed := s₂.slotsUsed } : State).setVm s₂.vm).frames = .java g₀ :: r := hr
  rcases hq' with ⟨hqc, L, hfe, hL⟩ | ⟨q, rfl, E, ce, L, hx, hce, hcv, hcl, hW₂, hsm, hL⟩
  · obtain ⟨⟨v, rfl⟩, hW₂, e2, q2, q3, q4, q5, q6⟩ := id hfe
    have e3 : s₂ = ({ (U.calling g mk a).setFrames s₂.frames with heap := s₂.heap, slotsUsed := s₂.slotsUsed } : State).setVm s₂.vm := by
      have : s₂ = ({ s₂ with vm := (U.calling g mk a).vm } : State).setVm s₂.vm := rfl
      rw [e2] at this
      exact this
    obtain ⟨c₂, i₂, len₂, hc₂, hd₂, hf₂⟩ := hend
    have hW' : U.WarmedH s₂.vm := hW₂
    have hcc : c₂ = c := by
      have h1 : s₂.code? g.method = U.code? g.method := by
        rw [State.code?_eq, State.code?_eq, hW'.alike.method?]
      exact Option.some.inj (hc₂.symm.trans (h1.trans h.code))
    subst hcc
    have hlen : len₂ = len := by rw [hdg] at hd₂; cases hd₂; rfl
    subst hlen
    have hs₂ : s₂ = (({ U with heap := s₂.heap, slotsUsed := s₂.slotsUsed } : State).setVm s₂.vm).setTop { g with pc := g.pc + len₂, stack := v.toList ++ g.stack } := by
      refine e3.trans ?_
      rw [hf₂, State.calling_eq h.top, State.setFrames_setFrames, State.setTop_of_frames _ hr', hr]
      rfl
    have hsame : U.sameButNew ({ U with heap := s₂.heap, slotsUsed := s₂.slotsUsed } : State) L mc ms := by
      refine ⟨?_, q2, q3, q4, q5, q6⟩
      obtain ⟨t, ht, -⟩ := State.frames_cons hr
      show ({ U with heap := s₂.heap, slotsUsed := s₂.slotsUsed } : State) = { U.setFrames U.frames with heap := s₂.heap, slotsUsed := s₂.slotsUsed }
      rw [State.setFrames_self ht]
    subst hg
    refine Or.inl ⟨v, ⟨(({ U with heap := s₂.heap, slotsUsed := s₂.slotsUsed } : State).setVm s₂.vm), Ls ++ L, c0 + mc, s0 + ms⟩,
      ⟨X.admits, X.cas, X.clock, X.frames, X.room, X.hears, X.method, X.code, (X.here.setHeapUsed s₂.heap s₂.slotsUsed).setVm hW'.alike, X.tail, State.WarmedH.trans X.warmed hW', X.limits, X.bytes, X.same.trans (hsame.setVm s.vm)⟩,
      ⟨g, mk, s₂, L, rfl, rfl, hqc, rfl, hL, rfl, rfl⟩, ?_⟩
    show Steps p.tables e below _ ((({ U with heap := s₂.heap, slotsUsed := s₂.slotsUsed } : State).setVm s₂.vm).setTop { g with pc := g.pc + len₂, stack := v.toList ++ g.stack })
    rw [← hs₂]
    exact hsteps
  · obtain ⟨e2, q2, q3, q4, q5, q6⟩ := id hsm
    have e3 : s₂ = ({ (U.calling g mk a).setFrames s₂.frames with heap := s₂.heap, slotsUsed := s₂.slotsUsed } : State).setVm s₂.vm := by
      have : s₂ = ({ s₂ with vm := (U.calling g mk a).vm } : State).setVm s₂.vm := rfl
      rw [e2] at this
      exact this
    have hf₂ : s₂.frames = .throwing q :: .java g :: U.frames.tail := hend
    have hW' : U.WarmedH s₂.vm := hW₂
    have hs₂ : s₂ = ((({ U with heap := s₂.heap, slotsUsed := s₂.slotsUsed } : State).setVm s₂.vm).setTop g).pushFrame (.throwing q) := by
      refine e3.trans ?_
      rw [hf₂, State.calling_eq h.top, State.setFrames_setFrames, State.pushFrame, State.frames_setTop _ hr', State.setTop_of_frames _ hr', State.setFrames_setFrames, hr]
      rfl
    have hsame : U.sameButNew ({ U with heap := s₂.heap, slotsUsed := s₂.slotsUsed } : State) L mc ms := by
      refine ⟨?_, q2, q3, q4, q5, q6⟩
      obtain ⟨t, ht, -⟩ := State.frames_cons hr
      show ({ U with heap := s₂.heap, slotsUsed := s₂.slotsUsed } : State) = { U.setFrames U.frames with heap := s₂.heap, slotsUsed := s₂.slotsUsed }
      rw [State.setFrames_self ht]
    subst hg
    refine Or.inr ⟨q, ⟨(({ U with heap := s₂.heap, slotsUsed := s₂.slotsUsed } : State).setVm s₂.vm), Ls ++ L, c0 + mc, s0 + ms⟩,
      ⟨X.admits, X.cas, X.clock, X.frames, X.room, X.hears, X.method, X.code, (X.here.setHeapUsed s₂.heap s₂.slotsUsed).setVm hW'.alike, X.tail, State.WarmedH.trans X.warmed hW', X.limits, X.bytes, X.same.trans (hsame.setVm s.vm)⟩,
      ⟨g, mk, s₂, L, E, ce, rfl, rfl, hx, hce, hcv, hcl, rfl, hL, rfl, rfl⟩, ?_⟩
    show Steps p.tables e below _ (((({ U with heap := s₂.heap, slotsUsed := s₂.slotsUsed } : State).setVm s₂.vm).setTop g).pushFrame (.throwing q))
    rw [← hs₂]
    exact hsteps
end
variable {p : Program} {l : Launch} {e : Env} {R : Room} {s : State} {m : MethodId} {args : Array Value} {below : List Frame} {meth : Method} {c : Code} {T : State} {H : Heap} {locs : List Loc} {cells slots : Nat}
theorem vx_callVX (X : Stand p l e R s m args below meth c T locs cells slots) (hexec : p.tables.exec = Jvm.exec) {own C : String} {index : Nat} {y : MethodName} {bytes : ByteArray} {maxL : Nat} {ret : Option FieldType} {hh : List (Nat × Nat × Nat × Nat)}
    (hown : s.vm.findClass own = some m.cls) (hlink : (Cond.methodLink own index y).before args s = true) (hinst : (Cond.instanceMethod y).before args s = true) (hsel : (Cond.selects C y y).before args s = true)
    (hcode : (Cond.codeWith y bytes maxL ret hh).before args s = true) (hy : y.cls ≠ "java/lang/invoke/MethodHandle" ∧ y.cls ≠ "java/lang/invoke/VarHandle")
    {W9 : Nat} {Pre : Pt → Array Value → Prop} {Post : Pt → Array Value → Option Value → Pt → Prop} {PostX : Pt → Array Value → Addr → Pt → Prop} (hK : vx_Back l R p e below s args y 3 W9 Pre Post PostX)
    {b : Addr} {cellB : Cell} (hcell : T.heap[b]? = some cellB) (hobj : cellB.vm.isStatics = false) (hcls : s.vm.findClass C = some cellB.cls)
    {g : JFrame} (hg : g.method = m) (hsize : g.locals.size = c.maxLocals) {argsL rest : List Value} (hlen : ∀ sig, parseMethodDescriptor y.desc = some sig → argsL.length = sig.parameters.length)
    (hstack : g.stack = argsL.reverse ++ .ref b :: rest) (hW : 2 * g.monitorRoom + (rest.map fun v => v.category).sum ≤ W9) (hdg : decode c.code g.pc = .ok (.invokevirtual index, 3))
    (hpre : ∀ vm₁, s.WarmedH vm₁ → Pre ⟨T.setVm vm₁, locs, cells, slots⟩ (Value.ref b :: argsL).toArray) :
    (∃ (v : Option Value) (vm₁ : Vm) (B : Pt), s.WarmedH vm₁ ∧ Stand p l e R s m args below meth c B.U B.locs B.cells B.slots ∧ Post ⟨T.setVm vm₁, locs, cells, slots⟩ (Value.ref b :: argsL).toArray v B ∧
      ∀ target, Steps p.tables e below (B.U.setTop { g with pc := g.pc + 3, stack := v.toList ++ rest }) target → Steps p.tables e below (T.setTop g) target) ∨
    (∃ (q : Addr) (vm₁ : Vm) (B : Pt), s.WarmedH vm₁ ∧ Stand p l e R s m args below meth c B.U B.locs B.cells B.slots ∧ PostX ⟨T.setVm vm₁, locs, cells, slots⟩ (Value.ref b :: argsL).toArray q B ∧
      Steps p.tables e below (T.setTop g) ((B.U.setTop { g with stack := rest }).pushFrame (.throwing q))) := by
  obtain ⟨mk, methM, hnamed, hmethM, hstM, habM⟩ := Cond.instanceMethod_spec hinst
  obtain ⟨m8, methM', cM, hn8, hmethM', -, -, -, -, -, -, hsigM⟩ := Cond.codeWith_spec hcode
  cases Option.some.inj (hn8.symm.trans hnamed)
  cases hmethM.symm.trans hmethM'
  obtain ⟨c2, r2, m2, q1, q2, q3, q4, kP, hkP, hkPi⟩ := Cond.selects_spec hsel
  cases hcls.symm.trans q1
  cases (State.methodFound?_of_named hnamed hy).symm.trans q2
  cases hnamed.symm.trans q3
  have hselP : selectMethod e.platform s.vm cellB.cls mk = .method mk := by rw [Launch.admits_selectMethod X.admits]; exact q4
  obtain ⟨vm₁, X₁, hstep₁⟩ := X.invokevirtual hexec hown hlink hnamed hmethM hstM hkP hkPi hy (a := b) (cell := cellB) hcell
    (fun z h => by rw [h] at hobj; cases hobj) hselP hmethM habM hkP hkPi (g := g) hg (argsL := argsL) (rest := rest) (hlen _ hsigM) hstack hdg
  rcases hK m meth c ⟨T.setVm vm₁, locs, cells, slots⟩ { g with stack := rest } (.invokevirtual index) mk (Value.ref b :: argsL).toArray X₁ hg hsize hdg hW (X₁.named hnamed) (hpre vm₁ X₁.warmed) with ⟨v, B, X', hpost, hsteps⟩ | ⟨q, B, X', hpost, hsteps⟩
  · exact Or.inl ⟨v, vm₁, B, X₁.warmed, X', hpost, fun target h => hstep₁ _ fun acts => by rw [doInvoke_state]; exact hsteps.trans h⟩
  · exact Or.inr ⟨q, vm₁, B, X₁.warmed, X', hpost, hstep₁ _ fun acts => by rw [doInvoke_state]; exact hsteps⟩
theorem vx_callSX (X : Stand p l e R s m args below meth c T locs cells slots) (hexec : p.tables.exec = Jvm.exec) {own : String} {index : Nat} {y : MethodName} {bytes : ByteArray} {maxL : Nat} {ret : Option FieldType} {hh : List (Nat × Nat × Nat × Nat)}
    (hown : s.vm.findClass own = some m.cls) (hlink : (Cond.methodLink own index y).before args s = true) (hstat : (Cond.static y).before args s = true) (hinit : (Cond.initialized y.cls).before args s = true)
    (hcode : (Cond.codeWith y bytes maxL ret hh).before args s = true) (hy : y.cls ≠ "java/lang/invoke/MethodHandle" ∧ y.cls ≠ "java/lang/invoke/VarHandle")
    {W9 : Nat} {Pre : Pt → Array Value → Prop} {Post : Pt → Array Value → Option Value → Pt → Prop} {PostX : Pt → Array Value → Addr → Pt → Prop} (hK : vx_Back l R p e below s args y 3 W9 Pre Post PostX)
    {g : JFrame} (hg : g.method = m) (hsize : g.locals.size = c.maxLocals) {argsL rest : List Value} (hlen : ∀ sig, parseMethodDescriptor y.desc = some sig → argsL.length = sig.parameters.length)
    (hstack : g.stack = argsL.reverse ++ rest) (hW : 2 * g.monitorRoom + (rest.map fun v => v.category).sum ≤ W9) (hdg : decode c.code g.pc = .ok (.invokestatic index, 3))
    (hpre : ∀ vm₁, s.WarmedH vm₁ → Pre ⟨T.setVm vm₁, locs, cells, slots⟩ argsL.toArray) :
    (∃ (v : Option Value) (vm₁ : Vm) (B : Pt), s.WarmedH vm₁ ∧ Stand p l e R s m args below meth c B.U B.locs B.cells B.slots ∧ Post ⟨T.setVm vm₁, locs, cells, slots⟩ argsL.toArray v B ∧
      ∀ target, Steps p.tables e below (B.U.setTop { g with pc := g.pc + 3, stack := v.toList ++ rest }) target → Steps p.tables e below (T.setTop g) target) ∨
    (∃ (q : Addr) (vm₁ : Vm) (B : Pt), s.WarmedH vm₁ ∧ Stand p l e R s m args below meth c B.U B.locs B.cells B.slots ∧ PostX ⟨T.setVm vm₁, locs, cells, slots⟩ argsL.toArray q B ∧
      Steps p.tables e below (T.setTop g) ((B.U.setTop { g with stack := rest }).pushFrame (.throwing q))) := by
  obtain ⟨mk, methM, cM, hnamed, hmethM, -, -, -, -, -, -, hsigM⟩ := Cond.codeWith_spec hcode
  have hstatic : methM.isStatic = true := Cond.static_spec hnamed hmethM hstat
  obtain ⟨kP, hkP, -⟩ := className_of_methodNamed hnamed
  have hinitP : kP.init = .initialized := Cond.initialized_spec (findClass_of_methodNamed hnamed) hkP hinit
  obtain ⟨vm₁, X₁, hstep₁⟩ := X.invokestatic hexec hown hlink hnamed hmethM hstatic hkP hinitP hy (g := g) hg (argsL := argsL) (rest := rest) (hlen _ hsigM) hstack hdg
  rcases hK m meth c ⟨T.setVm vm₁, locs, cells, slots⟩ { g with stack := rest } (.invokestatic index) mk argsL.toArray X₁ hg hsize hdg hW (X₁.named hnamed) (hpre vm₁ X₁.warmed) with ⟨v, B, X', hpost, hsteps⟩ | ⟨q, B, X', hpost, hsteps⟩
  · exact Or.inl ⟨v, vm₁, B, X₁.warmed, X', hpost, fun target h => hstep₁ _ fun acts => by rw [doInvoke_state]; exact hsteps.trans h⟩
  · exact Or.inr ⟨q, vm₁, B, X₁.warmed, X', hpost, hstep₁ _ fun acts => by rw [doInvoke_state]; exact hsteps⟩
theorem vx_callVW (X : Stand p l e R s m args below meth c T locs cells slots) (hexec : p.tables.exec = Jvm.exec) {own C : String} {index : Nat} {y : MethodName} {bytes : ByteArray} {maxL : Nat} {ret : Option FieldType} {hh : List (Nat × Nat × Nat × Nat)}
    (hown : s.vm.findClass own = some m.cls) (hlink : (Cond.methodLink own index y).before args s = true) (hinst : (Cond.instanceMethod y).before args s = true) (hsel : (Cond.selects C y y).before args s = true)
    (hcode : (Cond.codeWith y bytes maxL ret hh).before args s = true) (hy : y.cls ≠ "java/lang/invoke/MethodHandle" ∧ y.cls ≠ "java/lang/invoke/VarHandle")
    {W9 : Nat} {Pre : Pt → Array Value → Prop} {Post : Pt → Array Value → Option Value → Pt → Prop} (hK : Back l R p e below s args y 3 W9 Pre Post)
    {b : Addr} {cellB : Cell} (hcell : T.heap[b]? = some cellB) (hobj : cellB.vm.isStatics = false) (hcls : s.vm.findClass C = some cellB.cls)
    {g : JFrame} (hg : g.method = m) (hsize : g.locals.size = c.maxLocals) {argsL rest : List Value} (hlen : ∀ sig, parseMethodDescriptor y.desc = some sig → argsL.length = sig.parameters.length)
    (hstack : g.stack = argsL.reverse ++ .ref b :: rest) (hW : 2 * g.monitorRoom + (rest.map fun v => v.category).sum ≤ W9) (hdg : decode c.code g.pc = .ok (.invokevirtual index, 3))
    (hpre : ∀ vm₁, s.WarmedH vm₁ → Pre ⟨T.setVm vm₁, locs, cells, slots⟩ (Value.ref b :: argsL).toArray) :
    ∃ (v : Option Value) (vm₁ : Vm) (B : Pt), s.WarmedH vm₁ ∧ Stand p l e R s m args below meth c B.U B.locs B.cells B.slots ∧ Post ⟨T.setVm vm₁, locs, cells, slots⟩ (Value.ref b :: argsL).toArray v B ∧
      ∀ target, Steps p.tables e below (B.U.setTop { g with pc := g.pc + 3, stack := v.toList ++ rest }) target → Steps p.tables e below (T.setTop g) target := by
  obtain ⟨mk, methM, hnamed, hmethM, hstM, habM⟩ := Cond.instanceMethod_spec hinst
  obtain ⟨m8, methM', cM, hn8, hmethM', -, -, -, -, -, -, hsigM⟩ := Cond.codeWith_spec hcode
  cases Option.some.inj (hn8.symm.trans hnamed)
  cases hmethM.symm.trans hmethM'
  obtain ⟨c2, r2, m2, q1, q2, q3, q4, kP, hkP, hkPi⟩ := Cond.selects_spec hsel
  cases hcls.symm.trans q1
  cases (State.methodFound?_of_named hnamed hy).symm.trans q2
  cases hnamed.symm.trans q3
  have hselP : selectMethod e.platform s.vm cellB.cls mk = .method mk := by rw [Launch.admits_selectMethod X.admits]; exact q4
  obtain ⟨vm₁, X₁, hstep₁⟩ := X.invokevirtual hexec hown hlink hnamed hmethM hstM hkP hkPi hy (a := b) (cell := cellB) hcell
    (fun z h => by rw [h] at hobj; cases hobj) hselP hmethM habM hkP hkPi (g := g) hg (argsL := argsL) (rest := rest) (hlen _ hsigM) hstack hdg
  obtain ⟨v, B, X', hpost, hsteps⟩ := hK m meth c ⟨T.setVm vm₁, locs, cells, slots⟩ { g with stack := rest } (.invokevirtual index) mk (Value.ref b :: argsL).toArray X₁ hg hsize hdg hW (X₁.named hnamed) (hpre vm₁ X₁.warmed)
  exact ⟨v, vm₁, B, X₁.warmed, X', hpost, fun target h => hstep₁ _ fun acts => by rw [doInvoke_state]; exact hsteps.trans h⟩
abbrev vx_CVW (R : Room) (s : State) (args : Array Value) (own C : String) (index : Nat) (y : MethodName) (bytes : ByteArray) (maxL : Nat) (ret : Option FieldType) (hh : List (Nat × Nat × Nat × Nat)) (ws : List Cond) (rm : Room) (mc ms n : Nat) : Prop :=
  (rm.cells = mc ∧ rm.slots = ms ∧ rm.frames + 1 ≤ R.frames ∧ 8 + (maxL + 11) + rm.locals ≤ R.locals ∧ (∀ w ∈ ws, ∀ (a' : Array Value) (U : State), s.WarmedH U.vm → w.before a' U = true) ∧ Cond.codeWith y bytes maxL ret hh ∈ ws) ∧
  (Cond.codeWith y bytes maxL ret hh).before args s = true ∧ (Cond.initialized y.cls).before args s = true ∧ (y.cls ≠ "java/lang/invoke/MethodHandle" ∧ y.cls ≠ "java/lang/invoke/VarHandle") ∧
  (∀ sig, parseMethodDescriptor y.desc = some sig → n = sig.parameters.length) ∧ (Cond.methodLink own index y).before args s = true ∧ (Cond.instanceMethod y).before args s = true ∧ (Cond.selects C y y).before args s = true
theorem vx_cwVW {own C : String} {index maxL mc ms : Nat} {y : MethodName} {bytes : ByteArray} {ret : Option FieldType} {hh : List (Nat × Nat × Nat × Nat)} {Ts ws ws' : List Cond} {rm : Room} (n : Nat) (ht : ∀ w ∈ Ts, w.before args s = true) (hT : GoodIn Ts (wsV own index C y ws)) (hw : ws = Cond.codeWith y bytes maxL ret hh :: ws') (hrc : rm.cells = mc) (hrs : rm.slots = ms)
    (hd : y.cls = C ∧ y.cls ≠ "java/lang/invoke/MethodHandle" ∧ y.cls ≠ "java/lang/invoke/VarHandle" ∧ (parseMethodDescriptor y.desc).map (fun d => d.parameters.length) = some n) (hR : rm.frames + 1 ≤ R.frames ∧ 8 + (maxL + 11) + rm.locals ≤ R.locals) :
    vx_CVW R s args own C index y bytes maxL ret hh ws rm mc ms n := by
  obtain ⟨hC, hd⟩ := hd
  subst hC
  have ok : ∀ w ∈ wsV own index y.cls y ws, w.before args s = true := fun w h => ht w (hT w h).1
  have hG : GoodIn Ts ws := fun w h => hT w (by unfold wsV; exact List.mem_append_right _ h)
  have hc : Cond.codeWith y bytes maxL ret hh ∈ ws := by rw [hw]; exact List.mem_cons_self
  refine ⟨⟨hrc, hrs, hR.1, hR.2, pay_in ht hG, hc⟩, ht _ (hG _ hc).1, ok _ (by simp [wsV]), ⟨hd.1, hd.2.1⟩, fun sig h => ?_, ok _ (by simp [wsV]), ok _ (by simp [wsV]), ok _ (by simp [wsV])⟩
  have h2 := hd.2.2
  rw [h] at h2
  exact (Option.some.inj h2).symm
theorem vx_runVW {y : MethodName} {bytes cc : ByteArray} {maxL nL mc ms n index : Nat} {ret : Option FieldType} {hh : List (Nat × Nat × Nat × Nat)} {ws : List Cond} {rm : Room} {Pc : Array Value → State → Prop} {Qc : Array Value → State → Outcome → State → Prop} {free : Addr → Prop} {Ts : List Cond} {own C : String} {b : Addr} {As rest : List Value} {g : JFrame}
    (S : CallFix p m c cc nL s args Ts own) (hM : Met l y ws rm Pc Qc mc ms free) (cw : vx_CVW R s args own C index y bytes maxL ret hh ws rm mc ms n) (hp : PreV s H C b Pc As)
    (hg : g.method = m) (hn : As.length = n) (hsize : g.locals.size = nL) (hstack : g.stack = As.reverse ++ .ref b :: rest) (hW : 2 * g.monitorRoom + (rest.map fun v => v.category).sum ≤ 8) (hdg : decode cc g.pc = .ok (.invokevirtual index, 3)) (hf : cells + mc ≤ R.cells ∧ slots + ms ≤ R.slots) :
    va_Run p l e R s m args below meth c H locs cells slots mc ms g rest (Qc (Value.ref b :: As).toArray) free := by
  obtain ⟨⟨hrc, hrs, hfr, hlo, hws, hcw⟩, hcode, hini, hy, hlen, hl, hin, hse⟩ := cw
  have hK : Back l R p e below s args y 3 8 (PreOf R mc ms Pc) (PostOf Qc mc ms free) := va_backW (hh := hh) (bytes := bytes) (maxL := maxL) (ret := ret) hM hp.1 hrc hrs hfr hlo hws hcw (fun a' U hW => word_at hW (Or.inl (by first | rfl | simp [Cond.onTables, Cond.keeps, Cond.steady])) hini)
  obtain ⟨hx, hb, hml, ho, -⟩ := S
  obtain ⟨-, ⟨cellB, hcB, hoB, hclB⟩, hPc⟩ := hp
  intro T hT X
  obtain ⟨v, vm₁, ⟨U', l2, c2, s2⟩, hW₁, X', ⟨g', mk, t, L, e1, e2, hq, h1, hL, h2, h3⟩, st⟩ := vx_callVW X hx (C := C) (hh := hh) (bytes := bytes) (maxL := maxL) (ret := ret) ho hl hin hse hcode hy hK (by rw [hT]; exact hcB) hoB hclB hg (hsize.trans hml.symm) (argsL := As) (rest := rest) (fun sig h => hn.trans (hlen sig h)) hstack hW (by rw [hb]; exact hdg)
    (fun vm₁ hW₁ => ⟨hf.1, hf.2, hPc (T.setVm vm₁) hT hW₁⟩)
  dsimp only [Pt.U, Pt.locs, Pt.cells, Pt.slots] at X' e1 e2 h1 h2 h3 st
  subst h1; subst h2; subst h3
  exact ⟨v, (T.setVm vm₁).calling g' mk (Value.ref b :: As).toArray, t, U', L, hT, X', hL, e1, e2, hq, st⟩
section
variable {y : MethodName} {bytes cc : ByteArray} {maxL nL mc ms n index : Nat} {ret : Option FieldType} {ws : List Cond} {rm : Room} {Pc : Array Value → State → Prop} {Qc : Array Value → State → Outcome → State → Prop} {XC : String → State → State → Prop} {free : Addr → Prop} {Ts : List Cond} {own C : String} {b : Addr} {As rest : List Value} {g : JFrame}
theorem vx_runVX {hh : List (Nat × Nat × Nat × Nat)} (S : CallFix p m c cc nL s args Ts own) (hM : vx_Met l y ws rm Pc Qc XC mc ms free) (cw : vx_CVW R s args own C index y bytes maxL ret hh ws rm mc ms n) (hp : PreV s H C b Pc As)
    (hg : g.method = m) (hn : As.length = n) (hsize : g.locals.size = nL) (hstack : g.stack = As.reverse ++ .ref b :: rest) (hW : 2 * g.monitorRoom + (rest.map fun v => v.category).sum ≤ 8) (hdg : decode cc g.pc = .ok (.invokevirtual index, 3)) (hf : cells + mc ≤ R.cells ∧ slots + ms ≤ R.slots) :
    vx_Run p l e R s m args below meth c H locs cells slots mc ms g rest (Qc (Value.ref b :: As).toArray) XC free := by
  obtain ⟨⟨hrc, hrs, hfr, hlo, hws, hcw⟩, hcode, hini, hy, hlen, hl, hin, hse⟩ := cw
  have hK : vx_Back l R p e below s args y 3 8 (PreOf R mc ms Pc) (PostOf Qc mc ms free) (vx_Post XC mc ms free) := vx_backW (hh := hh) (bytes := bytes) (maxL := maxL) (ret := ret) hM hp.1 hrc hrs hfr hlo hws hcw (fun a' U hW => word_at hW (Or.inl (by first | rfl | simp [Cond.onTables, Cond.keeps, Cond.steady])) hini)
  obtain ⟨hx, hb, hml, ho, -⟩ := S
  obtain ⟨-, ⟨cellB, hcB, hoB, hclB⟩, hPc⟩ := hp
  intro T hT X
  rcases vx_callVX X hx (C := C) (hh := hh) (bytes := bytes) (maxL := maxL) (ret := ret) ho hl hin hse hcode hy hK (by rw [hT]; exact hcB) hoB hclB hg (hsize.trans hml.symm) (argsL := As) (rest := rest) (fun sig h => hn.trans (hlen sig h)) hstack hW (by rw [hb]; exact hdg)
    (fun vm₁ hW₁ => ⟨hf.1, hf.2, hPc (T.setVm vm₁) hT hW₁⟩) with ⟨v, vm₁, ⟨U', l2, c2, s2⟩, hW₁, X', ⟨g', mk, t, L, e1, e2, hq, h1, hL, h2, h3⟩, st⟩ | ⟨q, vm₁, ⟨U', l2, c2, s2⟩, hW₁, X', ⟨g', mk, t, L, E, ce, e1, e2, hq, hce, hcv, hcl, h1, hL, h2, h3⟩, st⟩
  · dsimp only [Pt.U, Pt.locs, Pt.cells, Pt.slots] at X' e1 e2 h1 h2 h3 st
    subst h1; subst h2; subst h3
    exact Or.inl ⟨v, (T.setVm vm₁).calling g' mk (Value.ref b :: As).toArray, t, U', L, hT, X', hL, e1, e2, hq, st⟩
  · dsimp only [Pt.U, Pt.locs, Pt.cells, Pt.slots] at X' e1 e2 h1 h2 h3 st hcl
    subst h1; subst h2; subst h3
    exact Or.inr ⟨q, (T.setVm vm₁).calling g' mk (Value.ref b :: As).toArray, t, U', L, E, ce, hT, X', hL, e1, e2, hq, hce, hcv, vx_cls hW₁ hcl, st⟩
theorem vx_runSX {hh : List (Nat × Nat × Nat × Nat)} (S : CallFix p m c cc nL s args Ts own) (hM : vx_Met l y ws rm Pc Qc XC mc ms free) (cw : vx_CSW R s args own index y bytes maxL ret hh ws rm mc ms n) (hp : PreS s H Pc As)
    (hg : g.method = m) (hn : As.length = n) (hsize : g.locals.size = nL) (hstack : g.stack = As.reverse ++ rest) (hW : 2 * g.monitorRoom + (rest.map fun v => v.category).sum ≤ 8) (hdg : decode cc g.pc = .ok (.invokestatic index, 3)) (hf : cells + mc ≤ R.cells ∧ slots + ms ≤ R.slots) :
    vx_Run p l e R s m args below meth c H locs cells slots mc ms g rest (Qc As.toArray) XC free := by
  obtain ⟨⟨hrc, hrs, hfr, hlo, hws, hcw⟩, hcode, hini, hy, hlen, hl, hstt⟩ := cw
  have hK : vx_Back l R p e below s args y 3 8 (PreOf R mc ms Pc) (PostOf Qc mc ms free) (vx_Post XC mc ms free) := vx_backW (hh := hh) (bytes := bytes) (maxL := maxL) (ret := ret) hM hp.1 hrc hrs hfr hlo hws hcw (fun a' U hW => word_at hW (Or.inl (by first | rfl | simp [Cond.onTables, Cond.keeps, Cond.steady])) hini)
  obtain ⟨hx, hb, hml, ho, -⟩ := S
  intro T hT X
  rcases vx_callSX X hx (hh := hh) (bytes := bytes) (maxL := maxL) (ret := ret) ho hl hstt hini hcode hy hK hg (hsize.trans hml.symm) (argsL := As) (rest := rest) (fun sig h => hn.trans (hlen sig h)) hstack hW (by rw [hb]; exact hdg)
    (fun vm₁ hW₁ => ⟨hf.1, hf.2, hp.2 (T.setVm vm₁) hT hW₁⟩) with ⟨v, vm₁, ⟨U', l2, c2, s2⟩, hW₁, X', ⟨g', mk, t, L, e1, e2, hq, h1, hL, h2, h3⟩, st⟩ | ⟨q, vm₁, ⟨U', l2, c2, s2⟩, hW₁, X', ⟨g', mk, t, L, E, ce, e1, e2, hq, hce, hcv, hcl, h1, hL, h2, h3⟩, st⟩
  · dsimp only [Pt.U, Pt.locs, Pt.cells, Pt.slots] at X' e1 e2 h1 h2 h3 st
    subst h1; subst h2; subst h3
    exact Or.inl ⟨v, (T.setVm vm₁).calling g' mk As.toArray, t, U', L, hT, X', hL, e1, e2, hq, st⟩
  · dsimp only [Pt.U, Pt.locs, Pt.cells, Pt.slots] at X' e1 e2 h1 h2 h3 st hcl
    subst h1; subst h2; subst h3
    exact Or.inr ⟨q, (T.setVm vm₁).calling g' mk As.toArray, t, U', L, E, ce, hT, X', hL, e1, e2, hq, hce, hcv, vx_cls hW₁ hcl, st⟩
end
end VXH
theorem vx_ofWH {l : Launch} {y : MethodName} {ws ws' : List Cond} {rm : Room} {Pc : Array Value → State → Prop} {Qc : Array Value → State → Outcome → State → Prop} {XC : String → State → State → Prop} {mc ms : Nat} {free : Addr → Prop} {cc : ByteArray} {maxL : Nat} {ret : Option FieldType} {hh : List (Nat × Nat × Nat × Nat)}
    (hy : plainName y.cls = true) (hw : ws = Cond.codeWith y cc maxL ret hh :: ws')
    (body : ∀ p e s m args below meth c s₁, BodyLoose p l y (headSpec ws rm) cc maxL ret e s m args below meth c s₁ → c.maxLocals = maxL → Pc args s →
      W p l e (headSpec ws rm).room s m args below meth c s.heap [] 0 0 (vx_MQ below Qc XC args s mc ms free) (entryFrame m args maxL)) : vx_Met l y ws rm Pc Qc XC mc ms free := by
  refine MetFree.of_bodyS (code := cc) (maxLocals := maxL) (ret := ret) hy ?_ ?_
  · intro args s m h hn
    obtain ⟨m9, meth, c, hn9, h1, h2, h3, h4, -, h5, h6, -⟩ := Cond.codeWith_spec (atoms_spec (ws := ws) h _ (by rw [hw]; exact List.mem_cons_self))
    cases hn.symm.trans hn9
    exact ⟨meth, c, h1, h2, h3, h4, h5, h6⟩
  · intro p e s m args below meth c s₁ B hml hP _
    have hh0 : s₁.heap = s.heap := by rw [B.state]; rfl
    obtain ⟨t, a1, o, b1, b2, b3⟩ := body p e s m args below meth c s₁ B hml hP s₁ hh0 (Stand.of_body B)
    exact ⟨t, o, a1, b1, b2, b3⟩
/-! ===== END ===== -/
end
section
/-! ===== BEGIN printed: names, fields, word lists, decode rows ===== -/
def RX0 : String := "FeederProtection$EventLog"
def TX0 : u_T := fun k => match k with
  | 0 => ("FeederProtection$EventLog", "count", "I", false)
  | 1 => ("FeederProtection$EventLog", "codes", "[I", true)
  | 2 => ("FeederProtection$EventLog", "times", "[D", true)
  | _ => ("FeederProtection$EventLog", "cleared", "D", false)
def tyX0 : Nat → FieldType := fun k => match k with
  | 0 => .int
  | 1 => .array .int
  | 2 => .array .double
  | _ => .double
abbrev wsX00 : List Cond := u_ws RX0 TX0 4
theorem nmX0 : ∀ a, a < 4 → ∀ b, b < 4 → a ≠ b → (TX0 a).2.1 ≠ (TX0 b).2.1 := by decide +kernel
theorem tyX0_ok : ∀ k, k < 4 → parseFieldDescriptor (TX0 k).2.2.1 = some (tyX0 k) := by decide +kernel
abbrev cX0_init : ByteArray := prog_2_method_1_code
def yX0_init : MethodName := ⟨RX0, "<init>", "()V"⟩
abbrev cX0_copyFrom : ByteArray := prog_2_method_2_code
def yX0_copyFrom : MethodName := ⟨RX0, "copyFrom", "(LFeederProtection$EventLog;)V"⟩
abbrev cX0_reset : ByteArray := prog_2_method_3_code
def yX0_reset : MethodName := ⟨RX0, "reset", "()V"⟩
abbrev cX0_put : ByteArray := prog_2_method_4_code
def yX0_put : MethodName := ⟨RX0, "put", "(IID)V"⟩
def RX1 : String := "FeederProtection$Network"
def TX1 : u_T := fun k => match k with
  | 0 => ("FeederProtection$Network", "voltage", "D", false)
  | 1 => ("FeederProtection$Network", "sourceImpedance", "D", false)
  | 2 => ("FeederProtection$Network", "lineCount", "I", false)
  | 3 => ("FeederProtection$Network", "fromBus", "[I", true)
  | 4 => ("FeederProtection$Network", "path", "[I", true)
  | 5 => ("FeederProtection$Network", "impedance", "[D", true)
  | _ => ("FeederProtection$Network", "load", "[I", true)
def tyX1 : Nat → FieldType := fun k => match k with
  | 0 => .double
  | 1 => .double
  | 2 => .int
  | 3 => .array .int
  | 4 => .array .int
  | 5 => .array .double
  | _ => .array .int
abbrev wsX10 : List Cond := u_ws RX1 TX1 7
theorem nmX1 : ∀ a, a < 7 → ∀ b, b < 7 → a ≠ b → (TX1 a).2.1 ≠ (TX1 b).2.1 := by decide +kernel
theorem tyX1_ok : ∀ k, k < 7 → parseFieldDescriptor (TX1 k).2.2.1 = some (tyX1 k) := by decide +kernel
abbrev cX1_init : ByteArray := prog_3_method_1_code
def yX1_init : MethodName := ⟨RX1, "<init>", "()V"⟩
abbrev cX1_copyFrom : ByteArray := prog_3_method_2_code
def yX1_copyFrom : MethodName := ⟨RX1, "copyFrom", "(LFeederProtection$Network;)V"⟩
abbrev cX1_append : ByteArray := prog_3_method_3_code
def yX1_append : MethodName := ⟨RX1, "append", "(ID)I"⟩
abbrev cX1_lineBefore : ByteArray := prog_3_method_4_code
def yX1_lineBefore : MethodName := ⟨RX1, "lineBefore", "(I)I"⟩
abbrev cX1_loadOver : ByteArray := prog_3_method_5_code
def yX1_loadOver : MethodName := ⟨RX1, "loadOver", "(I)I"⟩
abbrev cX1_currentAt : ByteArray := prog_3_method_6_code
def yX1_currentAt : MethodName := ⟨RX1, "currentAt", "(II)D"⟩
def RX2 : String := "FeederProtection$Relays"
def TX2 : u_T := fun k => match k with
  | 0 => ("FeederProtection$Relays", "pickup", "[I", true)
  | 1 => ("FeederProtection$Relays", "curve", "[I", true)
  | 2 => ("FeederProtection$Relays", "steps", "[I", true)
  | 3 => ("FeederProtection$Relays", "instantaneous", "[I", true)
  | 4 => ("FeederProtection$Relays", "shots", "[I", true)
  | 5 => ("FeederProtection$Relays", "stuckMask", "I", false)
  | _ => ("FeederProtection$Relays", "openMask", "I", false)
def tyX2 : Nat → FieldType := fun k => match k with
  | 0 => .array .int
  | 1 => .array .int
  | 2 => .array .int
  | 3 => .array .int
  | 4 => .array .int
  | 5 => .int
  | _ => .int
abbrev wsX20 : List Cond := u_ws RX2 TX2 7
theorem nmX2 : ∀ a, a < 7 → ∀ b, b < 7 → a ≠ b → (TX2 a).2.1 ≠ (TX2 b).2.1 := by decide +kernel
theorem tyX2_ok : ∀ k, k < 7 → parseFieldDescriptor (TX2 k).2.2.1 = some (tyX2 k) := by decide +kernel
abbrev cX2_init : ByteArray := prog_4_method_1_code
def yX2_init : MethodName := ⟨RX2, "<init>", "()V"⟩
abbrev cX2_copyFrom : ByteArray := prog_4_method_2_code
def yX2_copyFrom : MethodName := ⟨RX2, "copyFrom", "(LFeederProtection$Relays;)V"⟩
abbrev cX2_isStuck : ByteArray := prog_4_method_3_code
def yX2_isStuck : MethodName := ⟨RX2, "isStuck", "(I)Z"⟩
abbrev cX2_makeStuck : ByteArray := prog_4_method_4_code
def yX2_makeStuck : MethodName := ⟨RX2, "makeStuck", "(IZ)V"⟩
abbrev cX2_timeFor : ByteArray := prog_4_method_5_code
def yX2_timeFor : MethodName := ⟨RX2, "timeFor", "(ID)D"⟩
abbrev cX2_delayedTime : ByteArray := prog_4_method_6_code
def yX2_delayedTime : MethodName := ⟨RX2, "delayedTime", "(IDD)D"⟩
def RX3 : String := "FeederProtection$Simulation"
def TX3 : u_T := fun k => match k with
  | 0 => ("FeederProtection$Simulation", "tripping", "[I", true)
  | 1 => ("FeederProtection$Simulation", "trippingCount", "I", false)
  | 2 => ("FeederProtection$Simulation", "tripTime", "[D", true)
  | 3 => ("FeederProtection$Simulation", "opening", "[I", true)
  | 4 => ("FeederProtection$Simulation", "openingCount", "I", false)
  | _ => ("FeederProtection$Simulation", "timesOpened", "[I", true)
def tyX3 : Nat → FieldType := fun k => match k with
  | 0 => .array .int
  | 1 => .int
  | 2 => .array .double
  | 3 => .array .int
  | 4 => .int
  | _ => .array .int
abbrev wsX30 : List Cond := u_ws RX3 TX3 6
theorem nmX3 : ∀ a, a < 6 → ∀ b, b < 6 → a ≠ b → (TX3 a).2.1 ≠ (TX3 b).2.1 := by decide +kernel
theorem tyX3_ok : ∀ k, k < 6 → parseFieldDescriptor (TX3 k).2.2.1 = some (tyX3 k) := by decide +kernel
abbrev cX3_init : ByteArray := prog_5_method_1_code
def yX3_init : MethodName := ⟨RX3, "<init>", "()V"⟩
abbrev cX3_run : ByteArray := prog_5_method_2_code
def yX3_run : MethodName := ⟨RX3, "run", "(LFeederProtection$State;IID)V"⟩
abbrev cX3_playRound : ByteArray := prog_5_method_3_code
def yX3_playRound : MethodName := ⟨RX3, "playRound", "(LFeederProtection$State;IDD)D"⟩
abbrev cX3_lineUpTrips : ByteArray := prog_5_method_4_code
def yX3_lineUpTrips : MethodName := ⟨RX3, "lineUpTrips", "(LFeederProtection$Relays;IDD)V"⟩
abbrev cX3_lineUp : ByteArray := prog_5_method_5_code
def yX3_lineUp : MethodName := ⟨RX3, "lineUp", "(I)V"⟩
abbrev cX3_takeTrips : ByteArray := prog_5_method_6_code
def yX3_takeTrips : MethodName := ⟨RX3, "takeTrips", "(LFeederProtection$Relays;LFeederProtection$EventLog;)V"⟩
abbrev cX3_openingTime : ByteArray := prog_5_method_7_code
def yX3_openingTime : MethodName := ⟨RX3, "openingTime", "(I)D"⟩
abbrev cX3_openThem : ByteArray := prog_5_method_8_code
def yX3_openThem : MethodName := ⟨RX3, "openThem", "(LFeederProtection$Relays;LFeederProtection$EventLog;)V"⟩
abbrev cX3_reclose : ByteArray := prog_5_method_9_code
def yX3_reclose : MethodName := ⟨RX3, "reclose", "(LFeederProtection$Relays;LFeederProtection$EventLog;)D"⟩
def RX4 : String := "FeederProtection$State"
def TX4 : u_T := fun k => match k with
  | 0 => ("FeederProtection$State", "network", "LFeederProtection$Network;", true)
  | 1 => ("FeederProtection$State", "relays", "LFeederProtection$Relays;", true)
  | 2 => ("FeederProtection$State", "events", "LFeederProtection$EventLog;", true)
  | _ => ("FeederProtection$State", "requiredMargin", "D", false)
def tyX4 : Nat → FieldType := fun k => match k with
  | 0 => .object "FeederProtection$Network"
  | 1 => .object "FeederProtection$Relays"
  | 2 => .object "FeederProtection$EventLog"
  | _ => .double
abbrev wsX40 : List Cond := u_ws RX4 TX4 4
theorem nmX4 : ∀ a, a < 4 → ∀ b, b < 4 → a ≠ b → (TX4 a).2.1 ≠ (TX4 b).2.1 := by decide +kernel
theorem tyX4_ok : ∀ k, k < 4 → parseFieldDescriptor (TX4 k).2.2.1 = some (tyX4 k) := by decide +kernel
abbrev cX4_init : ByteArray := prog_6_method_1_code
def yX4_init : MethodName := ⟨RX4, "<init>", "()V"⟩
abbrev cX4_copyFrom : ByteArray := prog_6_method_2_code
def yX4_copyFrom : MethodName := ⟨RX4, "copyFrom", "(LFeederProtection$State;)V"⟩
abbrev cX4_marginAt : ByteArray := prog_6_method_3_code
def yX4_marginAt : MethodName := ⟨RX4, "marginAt", "(II)D"⟩
abbrev cX4_worstMargin : ByteArray := prog_6_method_4_code
def yX4_worstMargin : MethodName := ⟨RX4, "worstMargin", "(I)D"⟩
abbrev cX4_countViolations : ByteArray := prog_6_method_5_code
def yX4_countViolations : MethodName := ⟨RX4, "countViolations", "()I"⟩
abbrev cX4_violationOfRank : ByteArray := prog_6_method_6_code
def yX4_violationOfRank : MethodName := ⟨RX4, "violationOfRank", "(I)I"⟩
abbrev cX4_relaysWorseThan : ByteArray := prog_6_method_7_code
def yX4_relaysWorseThan : MethodName := ⟨RX4, "relaysWorseThan", "(I)I"⟩
abbrev cX4_gradeSteps : ByteArray := prog_6_method_8_code
def yX4_gradeSteps : MethodName := ⟨RX4, "gradeSteps", "(I)Z"⟩
abbrev cX4_keepsMargins : ByteArray := prog_6_method_9_code
def yX4_keepsMargins : MethodName := ⟨RX4, "keepsMargins", "(I)Z"⟩
def RX5 : String := "FeederProtection$UndoStack"
def TX5 : u_T := fun k => match k with
  | 0 => ("FeederProtection$UndoStack", "count", "I", false)
  | 1 => ("FeederProtection$UndoStack", "next", "I", false)
  | _ => ("FeederProtection$UndoStack", "saved", "[LFeederProtection$State;", true)
def tyX5 : Nat → FieldType := fun k => match k with
  | 0 => .int
  | 1 => .int
  | _ => .array (.object "FeederProtection$State")
abbrev wsX50 : List Cond := u_ws RX5 TX5 3
theorem nmX5 : ∀ a, a < 3 → ∀ b, b < 3 → a ≠ b → (TX5 a).2.1 ≠ (TX5 b).2.1 := by decide +kernel
theorem tyX5_ok : ∀ k, k < 3 → parseFieldDescriptor (TX5 k).2.2.1 = some (tyX5 k) := by decide +kernel
abbrev cX5_init : ByteArray := prog_7_method_1_code
def yX5_init : MethodName := ⟨RX5, "<init>", "()V"⟩
abbrev cX5_push : ByteArray := prog_7_method_2_code
def yX5_push : MethodName := ⟨RX5, "push", "(LFeederProtection$State;)V"⟩
abbrev cX5_popInto : ByteArray := prog_7_method_3_code
def yX5_popInto : MethodName := ⟨RX5, "popInto", "(LFeederProtection$State;)V"⟩
def RX6 : String := "FeederProtection"
def TX6 : u_T := fun k => match k with
  | 0 => ("FeederProtection", "state", "LFeederProtection$State;", true)
  | 1 => ("FeederProtection", "undoStack", "LFeederProtection$UndoStack;", true)
  | _ => ("FeederProtection", "simulation", "LFeederProtection$Simulation;", true)
def tyX6 : Nat → FieldType := fun k => match k with
  | 0 => .object "FeederProtection$State"
  | 1 => .object "FeederProtection$UndoStack"
  | _ => .object "FeederProtection$Simulation"
abbrev wsX60 : List Cond := u_ws RX6 TX6 3
theorem nmX6 : ∀ a, a < 3 → ∀ b, b < 3 → a ≠ b → (TX6 a).2.1 ≠ (TX6 b).2.1 := by decide +kernel
theorem tyX6_ok : ∀ k, k < 3 → parseFieldDescriptor (TX6 k).2.2.1 = some (tyX6 k) := by decide +kernel
abbrev cX6_init : ByteArray := prog_1_method_1_code
def yX6_init : MethodName := ⟨RX6, "<init>", "()V"⟩
abbrev cX6_setSource : ByteArray := prog_1_method_2_code
def yX6_setSource : MethodName := ⟨RX6, "setSource", "(DD)D"⟩
abbrev cX6_addLine : ByteArray := prog_1_method_3_code
def yX6_addLine : MethodName := ⟨RX6, "addLine", "(ID)I"⟩
abbrev cX6_setLoad : ByteArray := prog_1_method_4_code
def yX6_setLoad : MethodName := ⟨RX6, "setLoad", "(II)I"⟩
abbrev cX6_loadCurrent : ByteArray := prog_1_method_5_code
def yX6_loadCurrent : MethodName := ⟨RX6, "loadCurrent", "(I)I"⟩
abbrev cX6_faultCurrent : ByteArray := prog_1_method_6_code
def yX6_faultCurrent : MethodName := ⟨RX6, "faultCurrent", "(II)D"⟩
abbrev cX6_setRelay : ByteArray := prog_1_method_7_code
def yX6_setRelay : MethodName := ⟨RX6, "setRelay", "(IIII)I"⟩
abbrev cX6_setInstantaneous : ByteArray := prog_1_method_8_code
def yX6_setInstantaneous : MethodName := ⟨RX6, "setInstantaneous", "(II)I"⟩
abbrev cX6_setShots : ByteArray := prog_1_method_9_code
def yX6_setShots : MethodName := ⟨RX6, "setShots", "(II)I"⟩
abbrev cX6_setStuck : ByteArray := prog_1_method_10_code
def yX6_setStuck : MethodName := ⟨RX6, "setStuck", "(IZ)Z"⟩
abbrev cX6_pickup : ByteArray := prog_1_method_11_code
def yX6_pickup : MethodName := ⟨RX6, "pickup", "(I)I"⟩
abbrev cX6_steps : ByteArray := prog_1_method_12_code
def yX6_steps : MethodName := ⟨RX6, "steps", "(I)I"⟩
abbrev cX6_upstream : ByteArray := prog_1_method_13_code
def yX6_upstream : MethodName := ⟨RX6, "upstream", "(I)I"⟩
abbrev cX6_operatingTime : ByteArray := prog_1_method_14_code
def yX6_operatingTime : MethodName := ⟨RX6, "operatingTime", "(ID)D"⟩
abbrev cX6_sensitivity : ByteArray := prog_1_method_15_code
def yX6_sensitivity : MethodName := ⟨RX6, "sensitivity", "(I)D"⟩
abbrev cX6_setMargin : ByteArray := prog_1_method_16_code
def yX6_setMargin : MethodName := ⟨RX6, "setMargin", "(D)D"⟩
abbrev cX6_margin : ByteArray := prog_1_method_17_code
def yX6_margin : MethodName := ⟨RX6, "margin", "(II)D"⟩
abbrev cX6_violationCount : ByteArray := prog_1_method_18_code
def yX6_violationCount : MethodName := ⟨RX6, "violationCount", "()I"⟩
abbrev cX6_violation : ByteArray := prog_1_method_19_code
def yX6_violation : MethodName := ⟨RX6, "violation", "(I)I"⟩
abbrev cX6_autoPickup : ByteArray := prog_1_method_20_code
def yX6_autoPickup : MethodName := ⟨RX6, "autoPickup", "(I)I"⟩
abbrev cX6_autoGrade : ByteArray := prog_1_method_21_code
def yX6_autoGrade : MethodName := ⟨RX6, "autoGrade", "()I"⟩
abbrev cX6_simulate : ByteArray := prog_1_method_22_code
def yX6_simulate : MethodName := ⟨RX6, "simulate", "(IID)I"⟩
abbrev cX6_eventCount : ByteArray := prog_1_method_23_code
def yX6_eventCount : MethodName := ⟨RX6, "eventCount", "()I"⟩
abbrev cX6_event : ByteArray := prog_1_method_24_code
def yX6_event : MethodName := ⟨RX6, "event", "(I)I"⟩
abbrev cX6_eventTime : ByteArray := prog_1_method_25_code
def yX6_eventTime : MethodName := ⟨RX6, "eventTime", "(I)D"⟩
abbrev cX6_clearedTime : ByteArray := prog_1_method_26_code
def yX6_clearedTime : MethodName := ⟨RX6, "clearedTime", "()D"⟩
abbrev cX6_openBreakers : ByteArray := prog_1_method_27_code
def yX6_openBreakers : MethodName := ⟨RX6, "openBreakers", "()I"⟩
abbrev cX6_lostLoad : ByteArray := prog_1_method_28_code
def yX6_lostLoad : MethodName := ⟨RX6, "lostLoad", "()I"⟩
abbrev cX6_closeAll : ByteArray := prog_1_method_29_code
def yX6_closeAll : MethodName := ⟨RX6, "closeAll", "()I"⟩
abbrev cX6_undo : ByteArray := prog_1_method_30_code
def yX6_undo : MethodName := ⟨RX6, "undo", "()I"⟩
abbrev cX6_digest : ByteArray := prog_1_method_31_code
def yX6_digest : MethodName := ⟨RX6, "digest", "()J"⟩
abbrev cX6_mixedLine : ByteArray := prog_1_method_32_code
def yX6_mixedLine : MethodName := ⟨RX6, "mixedLine", "(JI)J"⟩
abbrev cX6_mixedEvents : ByteArray := prog_1_method_33_code
def yX6_mixedEvents : MethodName := ⟨RX6, "mixedEvents", "(J)J"⟩
abbrev cX6_mixed : ByteArray := prog_1_method_34_code
def yX6_mixed : MethodName := ⟨RX6, "mixed", "(JJ)J"⟩
abbrev cX6_bitsOf : ByteArray := prog_1_method_35_code
def yX6_bitsOf : MethodName := ⟨RX6, "bitsOf", "(D)J"⟩
abbrev cX6_infinity : ByteArray := prog_1_method_36_code
def yX6_infinity : MethodName := ⟨RX6, "infinity", "()D"⟩
abbrev cX6_pickupForLoad : ByteArray := prog_1_method_37_code
def yX6_pickupForLoad : MethodName := ⟨RX6, "pickupForLoad", "(II)I"⟩
abbrev cX6_within : ByteArray := prog_1_method_38_code
def yX6_within : MethodName := ⟨RX6, "within", "(III)Z"⟩
abbrev cX6_within_ : ByteArray := prog_1_method_39_code
def yX6_within_ : MethodName := ⟨RX6, "within", "(DDD)Z"⟩
abbrev cX6_requireImpedance : ByteArray := prog_1_method_40_code
def yX6_requireImpedance : MethodName := ⟨RX6, "requireImpedance", "(D)V"⟩
abbrev cX6_requirePlace : ByteArray := prog_1_method_41_code
def yX6_requirePlace : MethodName := ⟨RX6, "requirePlace", "(I)V"⟩
abbrev cX6_requireLine : ByteArray := prog_1_method_42_code
def yX6_requireLine : MethodName := ⟨RX6, "requireLine", "(I)V"⟩
abbrev cX6_requireEvent : ByteArray := prog_1_method_43_code
def yX6_requireEvent : MethodName := ⟨RX6, "requireEvent", "(I)V"⟩
def RX7 : String := "FeederProtectionModel"
def TX7 : u_T := fun k => match k with
  | 0 => ("FeederProtectionModel", "thrown", "I", false)
  | 1 => ("FeederProtectionModel", "w", "[I", true)
  | 2 => ("FeederProtectionModel", "x", "[D", true)
  | 3 => ("FeederProtectionModel", "savedWhole", "[I", true)
  | 4 => ("FeederProtectionModel", "savedReal", "[D", true)
  | 5 => ("FeederProtectionModel", "saved", "I", false)
  | 6 => ("FeederProtectionModel", "path", "[I", true)
  | 7 => ("FeederProtectionModel", "pathLength", "I", false)
  | 8 => ("FeederProtectionModel", "order", "[I", true)
  | 9 => ("FeederProtectionModel", "trips", "[D", true)
  | 10 => ("FeederProtectionModel", "trippers", "I", false)
  | 11 => ("FeederProtectionModel", "opening", "[I", true)
  | 12 => ("FeederProtectionModel", "openingTime", "[D", true)
  | 13 => ("FeederProtectionModel", "openings", "I", false)
  | _ => ("FeederProtectionModel", "openCounts", "[I", true)
def tyX7 : Nat → FieldType := fun k => match k with
  | 0 => .int
  | 1 => .array .int
  | 2 => .array .double
  | 3 => .array .int
  | 4 => .array .double
  | 5 => .int
  | 6 => .array .int
  | 7 => .int
  | 8 => .array .int
  | 9 => .array .double
  | 10 => .int
  | 11 => .array .int
  | 12 => .array .double
  | 13 => .int
  | _ => .array .int
abbrev wsX70 : List Cond := u_ws RX7 TX7 15
theorem nmX7 : ∀ a, a < 15 → ∀ b, b < 15 → a ≠ b → (TX7 a).2.1 ≠ (TX7 b).2.1 := by decide +kernel
theorem tyX7_ok : ∀ k, k < 15 → parseFieldDescriptor (TX7 k).2.2.1 = some (tyX7 k) := by decide +kernel
abbrev cX7_init : ByteArray := prog_9_method_1_code
def yX7_init : MethodName := ⟨RX7, "<init>", "()V"⟩
abbrev cX7_thrown : ByteArray := prog_9_method_2_code
def yX7_thrown : MethodName := ⟨RX7, "thrown", "()I"⟩
abbrev cX7_in : ByteArray := prog_9_method_3_code
def yX7_in : MethodName := ⟨RX7, "in", "(III)Z"⟩
abbrev cX7_inReal : ByteArray := prog_9_method_4_code
def yX7_inReal : MethodName := ⟨RX7, "inReal", "(DDD)Z"⟩
abbrev cX7_isLine : ByteArray := prog_9_method_5_code
def yX7_isLine : MethodName := ⟨RX7, "isLine", "(I)Z"⟩
abbrev cX7_at : ByteArray := prog_9_method_6_code
def yX7_at : MethodName := ⟨RX7, "at", "(II)I"⟩
abbrev cX7_save : ByteArray := prog_9_method_7_code
def yX7_save : MethodName := ⟨RX7, "save", "()V"⟩
abbrev cX7_change : ByteArray := prog_9_method_8_code
def yX7_change : MethodName := ⟨RX7, "change", "(II)I"⟩
abbrev cX7_setSource : ByteArray := prog_9_method_9_code
def yX7_setSource : MethodName := ⟨RX7, "setSource", "(DD)D"⟩
abbrev cX7_addLine : ByteArray := prog_9_method_10_code
def yX7_addLine : MethodName := ⟨RX7, "addLine", "(ID)I"⟩
abbrev cX7_setLoad : ByteArray := prog_9_method_11_code
def yX7_setLoad : MethodName := ⟨RX7, "setLoad", "(II)I"⟩
abbrev cX7_above : ByteArray := prog_9_method_12_code
def yX7_above : MethodName := ⟨RX7, "above", "(I)I"⟩
abbrev cX7_isOver : ByteArray := prog_9_method_13_code
def yX7_isOver : MethodName := ⟨RX7, "isOver", "(II)Z"⟩
abbrev cX7_loadOver : ByteArray := prog_9_method_14_code
def yX7_loadOver : MethodName := ⟨RX7, "loadOver", "(I)I"⟩
abbrev cX7_loadCurrent : ByteArray := prog_9_method_15_code
def yX7_loadCurrent : MethodName := ⟨RX7, "loadCurrent", "(I)I"⟩
abbrev cX7_findPath : ByteArray := prog_9_method_16_code
def yX7_findPath : MethodName := ⟨RX7, "findPath", "(I)V"⟩
abbrev cX7_currentAt : ByteArray := prog_9_method_17_code
def yX7_currentAt : MethodName := ⟨RX7, "currentAt", "(II)D"⟩
abbrev cX7_isLocation : ByteArray := prog_9_method_18_code
def yX7_isLocation : MethodName := ⟨RX7, "isLocation", "(II)Z"⟩
abbrev cX7_faultCurrent : ByteArray := prog_9_method_19_code
def yX7_faultCurrent : MethodName := ⟨RX7, "faultCurrent", "(II)D"⟩
abbrev cX7_setRelay : ByteArray := prog_9_method_20_code
def yX7_setRelay : MethodName := ⟨RX7, "setRelay", "(IIII)I"⟩
abbrev cX7_setInstantaneous : ByteArray := prog_9_method_21_code
def yX7_setInstantaneous : MethodName := ⟨RX7, "setInstantaneous", "(II)I"⟩
abbrev cX7_setShots : ByteArray := prog_9_method_22_code
def yX7_setShots : MethodName := ⟨RX7, "setShots", "(II)I"⟩
abbrev cX7_setStuck : ByteArray := prog_9_method_23_code
def yX7_setStuck : MethodName := ⟨RX7, "setStuck", "(IZ)Z"⟩
abbrev cX7_told : ByteArray := prog_9_method_24_code
def yX7_told : MethodName := ⟨RX7, "told", "(II)I"⟩
abbrev cX7_pickup : ByteArray := prog_9_method_25_code
def yX7_pickup : MethodName := ⟨RX7, "pickup", "(I)I"⟩
abbrev cX7_steps : ByteArray := prog_9_method_26_code
def yX7_steps : MethodName := ⟨RX7, "steps", "(I)I"⟩
abbrev cX7_upstream : ByteArray := prog_9_method_27_code
def yX7_upstream : MethodName := ⟨RX7, "upstream", "(I)I"⟩
abbrev cX7_timeOf : ByteArray := prog_9_method_28_code
def yX7_timeOf : MethodName := ⟨RX7, "timeOf", "(ID)D"⟩
abbrev cX7_operatingTime : ByteArray := prog_9_method_29_code
def yX7_operatingTime : MethodName := ⟨RX7, "operatingTime", "(ID)D"⟩
abbrev cX7_sensitivity : ByteArray := prog_9_method_30_code
def yX7_sensitivity : MethodName := ⟨RX7, "sensitivity", "(I)D"⟩
abbrev cX7_setMargin : ByteArray := prog_9_method_31_code
def yX7_setMargin : MethodName := ⟨RX7, "setMargin", "(D)D"⟩
abbrev cX7_marginOf : ByteArray := prog_9_method_32_code
def yX7_marginOf : MethodName := ⟨RX7, "marginOf", "(II)D"⟩
abbrev cX7_margin : ByteArray := prog_9_method_33_code
def yX7_margin : MethodName := ⟨RX7, "margin", "(II)D"⟩
abbrev cX7_worst : ByteArray := prog_9_method_34_code
def yX7_worst : MethodName := ⟨RX7, "worst", "(I)D"⟩
abbrev cX7_isViolation : ByteArray := prog_9_method_35_code
def yX7_isViolation : MethodName := ⟨RX7, "isViolation", "(I)Z"⟩
abbrev cX7_violations : ByteArray := prog_9_method_36_code
def yX7_violations : MethodName := ⟨RX7, "violations", "()I"⟩
abbrev cX7_violationCount : ByteArray := prog_9_method_37_code
def yX7_violationCount : MethodName := ⟨RX7, "violationCount", "()I"⟩
abbrev cX7_violation : ByteArray := prog_9_method_38_code
def yX7_violation : MethodName := ⟨RX7, "violation", "(I)I"⟩
abbrev cX7_autoPickup : ByteArray := prog_9_method_39_code
def yX7_autoPickup : MethodName := ⟨RX7, "autoPickup", "(I)I"⟩
abbrev cX7_keeps : ByteArray := prog_9_method_40_code
def yX7_keeps : MethodName := ⟨RX7, "keeps", "(I)Z"⟩
abbrev cX7_autoGrade : ByteArray := prog_9_method_41_code
def yX7_autoGrade : MethodName := ⟨RX7, "autoGrade", "()I"⟩
abbrev cX7_record : ByteArray := prog_9_method_42_code
def yX7_record : MethodName := ⟨RX7, "record", "(IID)V"⟩
abbrev cX7_lineUp : ByteArray := prog_9_method_43_code
def yX7_lineUp : MethodName := ⟨RX7, "lineUp", "(DD)V"⟩
abbrev cX7_isPathOpen : ByteArray := prog_9_method_44_code
def yX7_isPathOpen : MethodName := ⟨RX7, "isPathOpen", "()Z"⟩
abbrev cX7_trips : ByteArray := prog_9_method_45_code
def yX7_trips : MethodName := ⟨RX7, "trips", "(I)Z"⟩
abbrev cX7_round : ByteArray := prog_9_method_46_code
def yX7_round : MethodName := ⟨RX7, "round", "(DDD)D"⟩
abbrev cX7_simulate : ByteArray := prog_9_method_47_code
def yX7_simulate : MethodName := ⟨RX7, "simulate", "(IID)I"⟩
abbrev cX7_eventCount : ByteArray := prog_9_method_48_code
def yX7_eventCount : MethodName := ⟨RX7, "eventCount", "()I"⟩
abbrev cX7_event : ByteArray := prog_9_method_49_code
def yX7_event : MethodName := ⟨RX7, "event", "(I)I"⟩
abbrev cX7_eventTime : ByteArray := prog_9_method_50_code
def yX7_eventTime : MethodName := ⟨RX7, "eventTime", "(I)D"⟩
abbrev cX7_clearedTime : ByteArray := prog_9_method_51_code
def yX7_clearedTime : MethodName := ⟨RX7, "clearedTime", "()D"⟩
abbrev cX7_openOnes : ByteArray := prog_9_method_52_code
def yX7_openOnes : MethodName := ⟨RX7, "openOnes", "()I"⟩
abbrev cX7_openBreakers : ByteArray := prog_9_method_53_code
def yX7_openBreakers : MethodName := ⟨RX7, "openBreakers", "()I"⟩
abbrev cX7_lostLoad : ByteArray := prog_9_method_54_code
def yX7_lostLoad : MethodName := ⟨RX7, "lostLoad", "()I"⟩
abbrev cX7_closeAll : ByteArray := prog_9_method_55_code
def yX7_closeAll : MethodName := ⟨RX7, "closeAll", "()I"⟩
abbrev cX7_undo : ByteArray := prog_9_method_56_code
def yX7_undo : MethodName := ⟨RX7, "undo", "()I"⟩
abbrev cX7_mixed : ByteArray := prog_9_method_57_code
def yX7_mixed : MethodName := ⟨RX7, "mixed", "(JJ)J"⟩
abbrev cX7_mixedReal : ByteArray := prog_9_method_58_code
def yX7_mixedReal : MethodName := ⟨RX7, "mixedReal", "(JD)J"⟩
abbrev cX7_digest : ByteArray := prog_9_method_59_code
def yX7_digest : MethodName := ⟨RX7, "digest", "()J"⟩
def RJx145de : String := "java/io/Serializable"
def TJx145de : u_T := fun k => match k with
  | _ => ("", "", "", false)
def tyJx145de : Nat → FieldType := fun k => match k with
  | _ => .int
abbrev wsJx145de0 : List Cond := u_ws RJx145de TJx145de 0
theorem nmJx145de : ∀ a, a < 0 → ∀ b, b < 0 → a ≠ b → (TJx145de a).2.1 ≠ (TJx145de b).2.1 := by decide +kernel
theorem tyJx145de_ok : ∀ k, k < 0 → parseFieldDescriptor (TJx145de k).2.2.1 = some (tyJx145de k) := by decide +kernel
def RJxb160c : String := "java/lang/Comparable"
def TJxb160c : u_T := fun k => match k with
  | _ => ("", "", "", false)
def tyJxb160c : Nat → FieldType := fun k => match k with
  | _ => .int
abbrev wsJxb160c0 : List Cond := u_ws RJxb160c TJxb160c 0
theorem nmJxb160c : ∀ a, a < 0 → ∀ b, b < 0 → a ≠ b → (TJxb160c a).2.1 ≠ (TJxb160c b).2.1 := by decide +kernel
theorem tyJxb160c_ok : ∀ k, k < 0 → parseFieldDescriptor (TJxb160c k).2.2.1 = some (tyJxb160c k) := by decide +kernel
def RJxe99ae : String := "java/lang/Double"
def TJxe99ae : u_T := fun k => match k with
  | _ => ("", "", "", false)
def tyJxe99ae : Nat → FieldType := fun k => match k with
  | _ => .int
abbrev wsJxe99ae0 : List Cond := u_ws RJxe99ae TJxe99ae 0
theorem nmJxe99ae : ∀ a, a < 0 → ∀ b, b < 0 → a ≠ b → (TJxe99ae a).2.1 ≠ (TJxe99ae b).2.1 := by decide +kernel
theorem tyJxe99ae_ok : ∀ k, k < 0 → parseFieldDescriptor (TJxe99ae k).2.2.1 = some (tyJxe99ae k) := by decide +kernel
abbrev cJxe99ae_isNaN_b9ae7 : ByteArray := prog_10_method_6_code
def yJxe99ae_isNaN_b9ae7 : MethodName := ⟨RJxe99ae, "isNaN", "(D)Z"⟩
abbrev cJxe99ae_doubleToLongBits_ccdee : ByteArray := prog_10_method_23_code
def yJxe99ae_doubleToLongBits_ccdee : MethodName := ⟨RJxe99ae, "doubleToLongBits", "(D)J"⟩
def RJ6 : String := "java/lang/Integer"
def TJ6 : u_T := fun k => match k with
  | _ => ("", "", "", false)
def tyJ6 : Nat → FieldType := fun k => match k with
  | _ => .int
abbrev wsJ60 : List Cond := u_ws RJ6 TJ6 0
theorem nmJ6 : ∀ a, a < 0 → ∀ b, b < 0 → a ≠ b → (TJ6 a).2.1 ≠ (TJ6 b).2.1 := by decide +kernel
theorem tyJ6_ok : ∀ k, k < 0 → parseFieldDescriptor (TJ6 k).2.2.1 = some (tyJ6 k) := by decide +kernel
abbrev cJ6_bitCount_0f7a4 : ByteArray := prog_15_method_49_code
def yJ6_bitCount_0f7a4 : MethodName := ⟨RJ6, "bitCount", "(I)I"⟩
def RJ9 : String := "java/lang/Math"
def TJ9 : u_T := fun k => match k with
  | _ => ("", "", "", false)
def tyJ9 : Nat → FieldType := fun k => match k with
  | _ => .int
abbrev wsJ90 : List Cond := u_ws RJ9 TJ9 0
theorem nmJ9 : ∀ a, a < 0 → ∀ b, b < 0 → a ≠ b → (TJ9 a).2.1 ≠ (TJ9 b).2.1 := by decide +kernel
theorem tyJ9_ok : ∀ k, k < 0 → parseFieldDescriptor (TJ9 k).2.2.1 = some (tyJ9 k) := by decide +kernel
abbrev cJ9_max_7cf53 : ByteArray := prog_16_method_65_code
def yJ9_max_7cf53 : MethodName := ⟨RJ9, "max", "(II)I"⟩
abbrev cJ9_min_7cf53 : ByteArray := prog_16_method_69_code
def yJ9_min_7cf53 : MethodName := ⟨RJ9, "min", "(II)I"⟩
def RJxd2413 : String := "java/lang/Number"
def TJxd2413 : u_T := fun k => match k with
  | _ => ("", "", "", false)
def tyJxd2413 : Nat → FieldType := fun k => match k with
  | _ => .int
abbrev wsJxd24130 : List Cond := u_ws RJxd2413 TJxd2413 0
theorem nmJxd2413 : ∀ a, a < 0 → ∀ b, b < 0 → a ≠ b → (TJxd2413 a).2.1 ≠ (TJxd2413 b).2.1 := by decide +kernel
theorem tyJxd2413_ok : ∀ k, k < 0 → parseFieldDescriptor (TJxd2413 k).2.2.1 = some (tyJxd2413 k) := by decide +kernel
def RJ0 : String := "java/lang/String"
def TJ0 : u_T := fun k => match k with
  | _ => ("", "", "", false)
def tyJ0 : Nat → FieldType := fun k => match k with
  | _ => .int
abbrev wsJ00 : List Cond := u_ws RJ0 TJ0 0
theorem nmJ0 : ∀ a, a < 0 → ∀ b, b < 0 → a ≠ b → (TJ0 a).2.1 ≠ (TJ0 b).2.1 := by decide +kernel
theorem tyJ0_ok : ∀ k, k < 0 → parseFieldDescriptor (TJ0 k).2.2.1 = some (tyJ0 k) := by decide +kernel
def RJ10 : String := "java/lang/System"
def TJ10 : u_T := fun k => match k with
  | _ => ("", "", "", false)
def tyJ10 : Nat → FieldType := fun k => match k with
  | _ => .int
abbrev wsJ100 : List Cond := u_ws RJ10 TJ10 0
theorem nmJ10 : ∀ a, a < 0 → ∀ b, b < 0 → a ≠ b → (TJ10 a).2.1 ≠ (TJ10 b).2.1 := by decide +kernel
theorem tyJ10_ok : ∀ k, k < 0 → parseFieldDescriptor (TJ10 k).2.2.1 = some (tyJ10 k) := by decide +kernel
def RJxfd54e : String := "java/lang/constant/Constable"
def TJxfd54e : u_T := fun k => match k with
  | _ => ("", "", "", false)
def tyJxfd54e : Nat → FieldType := fun k => match k with
  | _ => .int
abbrev wsJxfd54e0 : List Cond := u_ws RJxfd54e TJxfd54e 0
theorem nmJxfd54e : ∀ a, a < 0 → ∀ b, b < 0 → a ≠ b → (TJxfd54e a).2.1 ≠ (TJxfd54e b).2.1 := by decide +kernel
theorem tyJxfd54e_ok : ∀ k, k < 0 → parseFieldDescriptor (TJxfd54e k).2.2.1 = some (tyJxfd54e k) := by decide +kernel
def RJx3cf43 : String := "java/lang/constant/ConstantDesc"
def TJx3cf43 : u_T := fun k => match k with
  | _ => ("", "", "", false)
def tyJx3cf43 : Nat → FieldType := fun k => match k with
  | _ => .int
abbrev wsJx3cf430 : List Cond := u_ws RJx3cf43 TJx3cf43 0
theorem nmJx3cf43 : ∀ a, a < 0 → ∀ b, b < 0 → a ≠ b → (TJx3cf43 a).2.1 ≠ (TJx3cf43 b).2.1 := by decide +kernel
theorem tyJx3cf43_ok : ∀ k, k < 0 → parseFieldDescriptor (TJx3cf43 k).2.2.1 = some (tyJx3cf43 k) := by decide +kernel
def RJ7 : String := "java/util/Arrays"
def TJ7 : u_T := fun k => match k with
  | _ => ("", "", "", false)
def tyJ7 : Nat → FieldType := fun k => match k with
  | _ => .int
abbrev wsJ70 : List Cond := u_ws RJ7 TJ7 0
theorem nmJ7 : ∀ a, a < 0 → ∀ b, b < 0 → a ≠ b → (TJ7 a).2.1 ≠ (TJ7 b).2.1 := by decide +kernel
theorem tyJ7_ok : ∀ k, k < 0 → parseFieldDescriptor (TJ7 k).2.2.1 = some (tyJ7 k) := by decide +kernel
abbrev cJ7_fill_53178 : ByteArray := prog_22_method_103_code
def yJ7_fill_53178 : MethodName := ⟨RJ7, "fill", "([II)V"⟩
def RL : String := "FeederProtectionLaw"
abbrev cL_setSource : ByteArray := method_3_code
def yL_setSource : MethodName := ⟨RL, "setSource", "(LFeederProtection;DD[D)I"⟩
abbrev cL_addLine : ByteArray := method_4_code
def yL_addLine : MethodName := ⟨RL, "addLine", "(LFeederProtection;ID[J)I"⟩
abbrev cL_setLoad : ByteArray := method_5_code
def yL_setLoad : MethodName := ⟨RL, "setLoad", "(LFeederProtection;II[J)I"⟩
abbrev cL_loadCurrent : ByteArray := method_6_code
def yL_loadCurrent : MethodName := ⟨RL, "loadCurrent", "(LFeederProtection;I[J)I"⟩
abbrev cL_faultCurrent : ByteArray := method_7_code
def yL_faultCurrent : MethodName := ⟨RL, "faultCurrent", "(LFeederProtection;II[D)I"⟩
abbrev cL_setRelay : ByteArray := method_8_code
def yL_setRelay : MethodName := ⟨RL, "setRelay", "(LFeederProtection;IIII[J)I"⟩
abbrev cL_setInstantaneous : ByteArray := method_9_code
def yL_setInstantaneous : MethodName := ⟨RL, "setInstantaneous", "(LFeederProtection;II[J)I"⟩
abbrev cL_setShots : ByteArray := method_10_code
def yL_setShots : MethodName := ⟨RL, "setShots", "(LFeederProtection;II[J)I"⟩
abbrev cL_setStuck : ByteArray := method_11_code
def yL_setStuck : MethodName := ⟨RL, "setStuck", "(LFeederProtection;IZ[J)I"⟩
abbrev cL_pickup : ByteArray := method_12_code
def yL_pickup : MethodName := ⟨RL, "pickup", "(LFeederProtection;I[J)I"⟩
abbrev cL_steps : ByteArray := method_13_code
def yL_steps : MethodName := ⟨RL, "steps", "(LFeederProtection;I[J)I"⟩
abbrev cL_upstream : ByteArray := method_14_code
def yL_upstream : MethodName := ⟨RL, "upstream", "(LFeederProtection;I[J)I"⟩
abbrev cL_operatingTime : ByteArray := method_15_code
def yL_operatingTime : MethodName := ⟨RL, "operatingTime", "(LFeederProtection;ID[D)I"⟩
abbrev cL_sensitivity : ByteArray := method_16_code
def yL_sensitivity : MethodName := ⟨RL, "sensitivity", "(LFeederProtection;I[D)I"⟩
abbrev cL_setMargin : ByteArray := method_17_code
def yL_setMargin : MethodName := ⟨RL, "setMargin", "(LFeederProtection;D[D)I"⟩
abbrev cL_margin : ByteArray := method_18_code
def yL_margin : MethodName := ⟨RL, "margin", "(LFeederProtection;II[D)I"⟩
abbrev cL_violation : ByteArray := method_19_code
def yL_violation : MethodName := ⟨RL, "violation", "(LFeederProtection;I[J)I"⟩
abbrev cL_autoPickup : ByteArray := method_20_code
def yL_autoPickup : MethodName := ⟨RL, "autoPickup", "(LFeederProtection;I[J)I"⟩
abbrev cL_simulate : ByteArray := method_21_code
def yL_simulate : MethodName := ⟨RL, "simulate", "(LFeederProtection;IID[J)I"⟩
abbrev cL_event : ByteArray := method_22_code
def yL_event : MethodName := ⟨RL, "event", "(LFeederProtection;I[J)I"⟩
abbrev cL_eventTime : ByteArray := method_23_code
def yL_eventTime : MethodName := ⟨RL, "eventTime", "(LFeederProtection;I[D)I"⟩
abbrev cL_undo : ByteArray := method_24_code
def yL_undo : MethodName := ⟨RL, "undo", "(LFeederProtection;[J)I"⟩
abbrev cL_law : ByteArray := code
def yL_law : MethodName := ⟨RL, "law", "([I)Z"⟩
abbrev vwCl : List vw_C := [(RX0, TX0, 4), (RX1, TX1, 7), (RX2, TX2, 7), (RX3, TX3, 6), (RX4, TX4, 4), (RX5, TX5, 3), (RX6, TX6, 3), (RX7, TX7, 15)]
end
section
/-! THE WHOLE WORLD AS NUMBERS: every object of the class, of the reference, and the law's two answer rows, at places that are known; what changes is x : ints, doubles, longs by object and slot -/
abbrev Hp : Type := (Nat → Nat → Int32) × (Nat → Nat → UInt64) × (Nat → Nat → Int64)
abbrev Lo : Type := List (Nat × Value)
abbrev F1 : Type := Lo → List Value → Hp → Option (Lo × List Value × Hp)
def u2 {α : Type} (f : Nat → Nat → α) (i k : Nat) (v : α) : Nat → Nat → α := fun a => if a = i then vf_upd (f i) k v else f a
def rv (a : Nat → Nat) : Value → Value := fun v => match v with
  | .ref k => .ref (a k)
  | v => v
abbrev Sh : Type := (Nat × Nat) ⊕ (Nat × List Nat)
/-- the cells of a State that begins at b -/
def shSt (b : Nat) : List Sh := [.inr (4, [b + 3, b + 8, b + 14, 1]), .inr (1, [1, 1, 0, b + 4, b + 5, b + 6, b + 7]), .inl (0, 12), .inl (0, 12), .inl (1, 12), .inl (0, 12), .inr (2, [b + 9, b + 10, b + 11, b + 12, b + 13, 0, 0]), .inl (0, 12), .inl (0, 12), .inl (0, 12), .inl (0, 12), .inl (0, 12), .inr (0, [0, b + 15, b + 16, 1]), .inl (0, 60), .inl (1, 60)]
def shA : List Sh := [.inr (6, [3, 78, 80])]
def shB : List Sh := [.inr (5, [0, 0, 79]), .inl (3, 4), .inr (3, [81, 0, 82, 83, 0, 84]), .inl (0, 12), .inl (1, 12), .inl (0, 12), .inl (0, 12), .inr (7, [0, 86, 87, 88, 89, 0, 90, 0, 91, 92, 0, 93, 94, 0, 95]), .inl (0, 170), .inl (1, 76), .inl (0, 680), .inl (1, 304), .inl (0, 12), .inl (0, 12), .inl (1, 12), .inl (0, 12), .inl (1, 12), .inl (0, 12), .inl (2, 1), .inl (1, 1)]
def shpL : List Sh := shA ++ (shSt 1 ++ (shSt 16 ++ (shSt 31 ++ (shSt 46 ++ (shSt 61 ++ shB)))))
def shp (i : Nat) : Sh := shpL.getD i (.inl (0, 0))
theorem shp_len : shpL.length = 96 := by decide +kernel
/-- a field's value: of kind 0 an int, 1 a double, r + 2 the object r -/
def fkv (a : Nat → Nat) (x : Hp) (i k r : Nat) : Value := match r with
  | 0 => .int (x.1 i k)
  | 1 => .double (x.2.1 i k)
  | r + 2 => .ref (a r)
def entS (a : Nat → Nat) (tc : Nat → ClassId) (x : Hp) (i : Nat) (sh : Sh) : va_E := match sh with
  | .inl (0, n) => .inl (tc 0, n, .inl (x.1 i))
  | .inl (1, n) => .inl (tc 1, n, .inr (.inr (.inr (.inl (x.2.1 i)))))
  | .inl (2, n) => .inl (tc 2, n, .inr (.inl (x.2.2 i)))
  | .inl (_ + 3, n) => .inl (tc 3, n, .inr (.inr (.inr (.inr (fun j => some (a (16 + 15 * j)))))))
  | .inr (ci, ks) => .inr (ci, ks.mapIdx (fun k r => fkv a x i k r))
def ent (a : Nat → Nat) (tc : Nat → ClassId) (x : Hp) (i : Nat) : va_E := entS a tc x i (shp i)
def wd (a : Nat → Nat) (tc : Nat → ClassId) (x : Hp) : va_W := (List.range 96).map (fun i => (a i, ent a tc x i))
theorem shp_lt {i : Nat} {t n : Nat} (h : shp i = .inl (t, n)) (hn : n ≠ 0) : i < 96 := by
  rcases Nat.lt_or_ge i 96 with q | q
  · exact q
  · unfold shp at h
    rw [List.getD_eq_getElem?_getD, List.getElem?_eq_none (by rw [shp_len]; exact q)] at h
    simp only [Option.getD_none, Sum.inl.injEq, Prod.mk.injEq] at h
    exact absurd h.2.symm hn
theorem shp_ltR {i : Nat} {t : Nat} {n : List Nat} (h : shp i = .inr (t, n)) : i < 96 := by
  rcases Nat.lt_or_ge i 96 with q | q
  · exact q
  · unfold shp at h
    rw [List.getD_eq_getElem?_getD, List.getElem?_eq_none (by rw [shp_len]; exact q)] at h
    simp at h
theorem wd_get {a : Nat → Nat} {tc : Nat → ClassId} {x : Hp} {i : Nat} (h : i < 96) : (wd a tc x)[i]? = some (a i, ent a tc x i) := by
  simp [wd, h]
theorem wd_len {a : Nat → Nat} {tc : Nat → ClassId} {x : Hp} : (wd a tc x).length = 96 := by simp [wd]
theorem wd_some {a : Nat → Nat} {tc : Nat → ClassId} {x : Hp} {k : Nat} {q : Nat × va_E} (h : (wd a tc x)[k]? = some q) : k < 96 ∧ q = (a k, ent a tc x k) := by
  have hk : k < 96 := by
    rcases Nat.lt_or_ge k 96 with z | z
    · exact z
    · rw [List.getElem?_eq_none (by rw [wd_len]; exact z)] at h
      cases h
  rw [wd_get hk] at h
  exact ⟨hk, (Option.some.inj h).symm⟩
theorem wd_set {a : Nat → Nat} {tc : Nat → ClassId} {x x' : Hp} {i : Nat} {E : va_E} (hi : i < 96) (hE : ent a tc x' i = E) (ho : ∀ j, j ≠ i → ent a tc x' j = ent a tc x j) : (wd a tc x).set i (a i, E) = wd a tc x' := by
  apply List.ext_getElem?
  intro j
  by_cases hj : j = i
  · subst hj
    rw [List.getElem?_set_self (by rw [wd_len]; exact hi), wd_get hi, hE]
  · rw [List.getElem?_set_ne (fun q => hj q.symm)]
    rcases Nat.lt_or_ge j 96 with q | q
    · rw [wd_get q, wd_get q, ho j hj]
    · rw [List.getElem?_eq_none (by rw [wd_len]; exact q), List.getElem?_eq_none (by rw [wd_len]; exact q)]
theorem ent_congr {a : Nat → Nat} {tc : Nat → ClassId} {x x' : Hp} {j : Nat} (h1 : x'.1 j = x.1 j) (h2 : x'.2.1 j = x.2.1 j) (h3 : x'.2.2 j = x.2.2 j) : ent a tc x' j = ent a tc x j := by
  have hf : ∀ k r, fkv a x' j k r = fkv a x j k r := by
    intro k r
    match r with
    | 0 => show Value.int (x'.1 j k) = Value.int (x.1 j k); rw [h1]
    | 1 => show Value.double (x'.2.1 j k) = Value.double (x.2.1 j k); rw [h2]
    | r + 2 => rfl
  unfold ent entS
  split
  · rw [h1]
  · rw [h2]
  · rw [h3]
  · rfl
  · simp only [hf]
theorem ent_i {a : Nat → Nat} {tc : Nat → ClassId} {x : Hp} {i n : Nat} (h : shp i = .inl (0, n)) : ent a tc x i = .inl (tc 0, n, .inl (x.1 i)) := by unfold ent; rw [h]; rfl
theorem ent_d {a : Nat → Nat} {tc : Nat → ClassId} {x : Hp} {i n : Nat} (h : shp i = .inl (1, n)) : ent a tc x i = .inl (tc 1, n, .inr (.inr (.inr (.inl (x.2.1 i))))) := by unfold ent; rw [h]; rfl
theorem ent_l {a : Nat → Nat} {tc : Nat → ClassId} {x : Hp} {i n : Nat} (h : shp i = .inl (2, n)) : ent a tc x i = .inl (tc 2, n, .inr (.inl (x.2.2 i))) := by unfold ent; rw [h]; rfl
theorem ent_q {a : Nat → Nat} {tc : Nat → ClassId} {x : Hp} {i n : Nat} (h : shp i = .inl (3, n)) : ent a tc x i = .inl (tc 3, n, .inr (.inr (.inr (.inr (fun j => some (a (16 + 15 * j))))))) := by unfold ent; rw [h]; rfl
theorem ent_o {a : Nat → Nat} {tc : Nat → ClassId} {x : Hp} {i ci : Nat} {ks : List Nat} (h : shp i = .inr (ci, ks)) : ent a tc x i = .inr (ci, ks.mapIdx (fun k r => fkv a x i k r)) := by unfold ent; rw [h]; rfl
theorem u2_self {α : Type} {f : Nat → Nat → α} {i k : Nat} {v : α} : u2 f i k v i = vf_upd (f i) k v := if_pos rfl
theorem u2_ne {α : Type} {f : Nat → Nat → α} {i j k : Nat} {v : α} (h : j ≠ i) : u2 f i k v j = f j := if_neg h
theorem wd_setI {a : Nat → Nat} {tc : Nat → ClassId} {x : Hp} {i n k : Nat} {v : Int32} (hi : i < 96) (h : shp i = .inl (0, n)) : (wd a tc x).set i (a i, .inl (tc 0, n, .inl (upd (x.1 i) k v))) = wd a tc (u2 x.1 i k v, x.2) :=
  wd_set hi (by rw [ent_i h, show (u2 x.1 i k v, x.2).1 i = vf_upd (x.1 i) k v from u2_self]; rfl) (fun j hj => ent_congr (u2_ne hj) rfl rfl)
theorem wd_setD {a : Nat → Nat} {tc : Nat → ClassId} {x : Hp} {i n k : Nat} {v : UInt64} (hi : i < 96) (h : shp i = .inl (1, n)) : (wd a tc x).set i (a i, .inl (tc 1, n, .inr (.inr (.inr (.inl (vf_upd (x.2.1 i) k v)))))) = wd a tc (x.1, u2 x.2.1 i k v, x.2.2) :=
  wd_set hi (by rw [ent_d h, show (x.1, u2 x.2.1 i k v, x.2.2).2.1 i = vf_upd (x.2.1 i) k v from u2_self]) (fun j hj => ent_congr rfl (u2_ne hj) rfl)
theorem wd_setL {a : Nat → Nat} {tc : Nat → ClassId} {x : Hp} {i n k : Nat} {v : Int64} (hi : i < 96) (h : shp i = .inl (2, n)) : (wd a tc x).set i (a i, .inl (tc 2, n, .inr (.inl (vp_updL (x.2.2 i) k v)))) = wd a tc (x.1, x.2.1, u2 x.2.2 i k v) :=
  wd_set hi (by rw [ent_l h, show (x.1, x.2.1, u2 x.2.2 i k v).2.2 i = vf_upd (x.2.2 i) k v from u2_self]; rfl) (fun j hj => ent_congr rfl rfl (u2_ne hj))
theorem wd_setFI {a : Nat → Nat} {tc : Nat → ClassId} {x : Hp} {i ci k : Nat} {ks : List Nat} {v : Int32} (hi : i < 96) (h : shp i = .inr (ci, ks)) (hk : ks[k]? = some 0) : (wd a tc x).set i (a i, .inr (ci, (ks.mapIdx (fun k r => fkv a x i k r)).set k (.int v))) = wd a tc (u2 x.1 i k v, x.2) := by
  refine wd_set hi ?_ (fun j hj => ent_congr (u2_ne hj) rfl rfl)
  rw [ent_o h]
  refine congrArg (fun z => Sum.inr (ci, z)) ?_
  apply List.ext_getElem?
  intro j
  by_cases hj : j = k
  · subst hj
    have hl : j < ks.length := (List.getElem?_eq_some_iff.mp hk).1
    rw [List.getElem?_set_self (by simpa using hl), List.getElem?_mapIdx, hk]
    show some (Value.int (u2 x.1 i j v i j)) = _
    rw [u2_self]
    show some (Value.int (if j = j then v else _)) = _
    rw [if_pos rfl]
  · rw [List.getElem?_set_ne (fun q => hj q.symm), List.getElem?_mapIdx, List.getElem?_mapIdx]
    cases hq : ks[j]? with
    | none => rfl
    | some r =>
      show some (fkv a (u2 x.1 i k v, x.2) i j r) = some (fkv a x i j r)
      match r with
      | 0 =>
        show some (Value.int (u2 x.1 i k v i j)) = some (Value.int (x.1 i j))
        rw [u2_self]
        show some (Value.int (if j = k then v else x.1 i j)) = _
        rw [if_neg hj]
      | 1 => rfl
      | r + 2 => rfl
theorem wd_setFD {a : Nat → Nat} {tc : Nat → ClassId} {x : Hp} {i ci k : Nat} {ks : List Nat} {v : UInt64} (hi : i < 96) (h : shp i = .inr (ci, ks)) (hk : ks[k]? = some 1) : (wd a tc x).set i (a i, .inr (ci, (ks.mapIdx (fun k r => fkv a x i k r)).set k (.double v))) = wd a tc (x.1, u2 x.2.1 i k v, x.2.2) := by
  refine wd_set hi ?_ (fun j hj => ent_congr rfl (u2_ne hj) rfl)
  rw [ent_o h]
  refine congrArg (fun z => Sum.inr (ci, z)) ?_
  apply List.ext_getElem?
  intro j
  by_cases hj : j = k
  · subst hj
    have hl : j < ks.length := (List.getElem?_eq_some_iff.mp hk).1
    rw [List.getElem?_set_self (by simpa using hl), List.getElem?_mapIdx, hk]
    show some (Value.double (u2 x.2.1 i j v i j)) = _
    rw [u2_self]
    show some (Value.double (if j = j then v else _)) = _
    rw [if_pos rfl]
  · rw [List.getElem?_set_ne (fun q => hj q.symm), List.getElem?_mapIdx, List.getElem?_mapIdx]
    cases hq : ks[j]? with
    | none => rfl
    | some r =>
      show some (fkv a (x.1, u2 x.2.1 i k v, x.2.2) i j r) = some (fkv a x i j r)
      match r with
      | 0 => rfl
      | 1 =>
        show some (Value.double (u2 x.2.1 i k v i j)) = some (Value.double (x.2.1 i j))
        rw [u2_self]
        show some (Value.double (if j = k then v else x.2.1 i j)) = _
        rw [if_neg hj]
      | r + 2 => rfl
theorem fs_get {a : Nat → Nat} {x : Hp} {i k r : Nat} {ks : List Nat} (hk : ks[k]? = some r) : (ks.mapIdx (fun k r => fkv a x i k r))[k]? = some (fkv a x i k r) := by
  rw [List.getElem?_mapIdx, hk]; rfl
/-- the words of the tables that a method may hand on -/
def gw : List Cond := lw_tbl.filter goodWord
theorem gw_of {w : Cond} (h : w ∈ lw_tbl) (g : goodWord w = true) : w ∈ gw := List.mem_filter.mpr ⟨h, g⟩
theorem gw_good {w : Cond} (h : w ∈ gw) : goodWord w = true := (List.mem_filter.mp h).2
theorem gw_tbl {w : Cond} (h : w ∈ gw) : w ∈ lw_tbl := (List.mem_filter.mp h).1
theorem gw_in {ws : List Cond} (h : ∀ w ∈ ws, w ∈ gw) : GoodIn gw ws := fun w hw => ⟨h w hw, good_of_word (gw_good (h w hw))⟩
/-! THE CONTEXT OF A WALK, as one thing; a method: its name, code, locals, answer, depth -/
abbrev MI : Type := MethodName × ByteArray × Nat × Option FieldType × Nat
abbrev Ctx : Type := Program × Launch × Env × Room × State × MethodId × Array Value × List Frame × Method × Code × va_G × (Nat → Nat) × (Nat → ClassId) × (Nat → Prop) × Heap × Nat × Nat × (State → Prop)
def tysOf (tc : Nat → ClassId) : List (ClassId × FieldType) := [(tc 0, .int), (tc 1, .double), (tc 2, .long), (tc 3, .object RX4)]
def nw3 (U : State) : Prop := va_Nw (.methodLinkNest RX2 48 yX6_infinity RX6) U ∧ va_Nw (.methodLinkNest RX3 80 yX6_infinity RX6) U ∧ va_Nw (.methodLinkNest RX4 60 yX6_infinity RX6) U
def wK (G : va_G) (tc : Nat → ClassId) (U : State) : Prop := va_K G vwCl (tysOf tc) U ∧ nw3 U
def lm (a : Nat → Nat) (ls : Lo) : Lo := ls.map (fun q => (q.1, rv a q.2))
def SW (X : Ctx) (M : MI) (pc : Nat) (ls : Lo) (st : List Value) (x : Hp) : Prop := match X with
  | (p, l, e, R, s, m, args, below, meth, c, G, a, tc, A, H0, cells, slots, Q) => ∀ (Lx : Array Slot) (H : Heap) (locs : List Loc), lv_has Lx M.2.2.1 (lm a ls) → va_P G vwCl (wd a tc x) H → va_D A (wd a tc x) → va_S A H0 H locs → W p l e R s m args below meth c H locs cells slots Q (F0 m pc Lx (st.map (rv a)))
def sCx (X : Ctx) (M : MI) : Prop := match X with
  | (p, l, e, R, s, m, args, below, meth, c, G, a, tc, A, H0, cells, slots, Q) => p.tables.exec = Jvm.exec ∧ c.code = M.2.1 ∧ c.maxLocals = M.2.2.1 ∧ s.vm.findClass M.1.cls = some m.cls ∧ (∀ w ∈ gw, w.before args s = true) ∧ wK G tc s ∧ (∀ q, H0.size ≤ q → A q) ∧ cells ≤ R.cells ∧ slots ≤ R.slots ∧ R.frames = M.2.2.2.2 ∧ R.locals = 38 * M.2.2.2.2 ∧ meth.locks = false ∧ meth.sig.returnType = M.2.2.2.1
/-- one straight instruction -/
def Stq (X : Ctx) (M : MI) (pc pc' : Nat) (f : F1) : Prop := ∀ (ls : Lo) (st : List Value) (x : Hp) (ls' : Lo) (st' : List Value) (x' : Hp), f ls st x = some (ls', st', x') → SW X M pc' ls' st' x' → SW X M pc ls st x
abbrev B1 : Type := List Value → Option (Prop × List Value)
def Brn (X : Ctx) (M : MI) (pc tgt nxt : Nat) (b : B1) : Prop := ∀ (ls : Lo) (st : List Value) (x : Hp) (P : Prop) (r : List Value), b st = some (P, r) → (P → SW X M tgt ls r x) → (¬ P → SW X M nxt ls r x) → SW X M pc ls st x
def lset1 (ls : Lo) (i : Nat) (v : Value) : Lo := (i, v) :: ls.filter (fun q => !(q.1 == i) && !(q.1 + 1 == i && q.2.category == 2))
def lset2 (ls : Lo) (i : Nat) (v : Value) : Lo := (i, v) :: ls.filter (fun q => !(q.1 == i) && (!(q.1 == i + 1) && !(q.1 + 1 == i && q.2.category == 2)))
theorem rv_cat (a : Nat → Nat) (v : Value) : (rv a v).category = v.category := by cases v <;> rfl
theorem lm_set1 (a : Nat → Nat) (ls : Lo) (i : Nat) (v : Value) : (i, rv a v) :: (lm a ls).filter (fun q => !(q.1 == i) && !(q.1 + 1 == i && q.2.category == 2)) = lm a (lset1 ls i v) := by
  simp only [lset1, lm, List.map_cons, List.filter_map]
  congr 2
  apply List.filter_congr
  intro q _
  simp only [Function.comp, rv_cat]
theorem lm_set2 (a : Nat → Nat) (ls : Lo) (i : Nat) (v : Value) : (i, rv a v) :: (lm a ls).filter (fun q => !(q.1 == i) && (!(q.1 == i + 1) && !(q.1 + 1 == i && q.2.category == 2))) = lm a (lset2 ls i v) := by
  simp only [lset2, lm, List.map_cons, List.filter_map]
  congr 2
  apply List.filter_congr
  intro q _
  simp only [Function.comp, rv_cat]
theorem lk_mem : ∀ {ls : Lo} {i : Nat} {v : Value}, ls.lookup i = some v → (i, v) ∈ ls
  | [], _, _, h => by simp at h
  | (j, u) :: t, i, v, h => by
    rw [List.lookup_cons] at h
    split at h
    · next hq => cases h; have : i = j := by simpa using hq
                 subst this; exact List.mem_cons_self
    · exact List.mem_cons_of_mem _ (lk_mem h)
theorem lk_at {a : Nat → Nat} {Lx : Array Slot} {n : Nat} {ls : Lo} {i : Nat} {v : Value} (hl : lv_has Lx n (lm a ls)) (h : ls.lookup i = some v) : Lx[i]? = some (.val (rv a v)) :=
  hl.2.2 (i, rv a v) (List.mem_map.mpr ⟨(i, v), lk_mem h, rfl⟩)
theorem lk_ix {a : Nat → Nat} {ls : Lo} {i : Nat} {v : Value} (h : ls.lookup i = some v) : ∃ k : Nat, (lm a ls)[k]? = some (i, rv a v) := by
  obtain ⟨k, hk⟩ := List.getElem?_of_mem (List.mem_map.mpr ⟨(i, v), lk_mem h, rfl⟩ : (i, rv a v) ∈ lm a ls)
  exact ⟨k, hk⟩
def f_iadd : F1 := fun ls st x => match st with
  | .int y :: .int z :: r => some (ls, .int (z + y) :: r, x)
  | _ => none
theorem st_iadd {X : Ctx} {M : MI} (h : sCx X M) {pc : Nat} (hd : decode M.2.1 pc = .ok (.iadd, 1)) : Stq X M pc (pc + 1) f_iadd := by
  obtain ⟨p, l, e, R, s, m, args, below, meth, c, G, a, tc, A, H0, cells, slots, Q⟩ := X
  obtain ⟨hx, hb, hml, hown, hts, ⟨hK, hN⟩, hA, hc1, hs1, hf1, hl1, hlk, hrt⟩ := h
  intro ls st x ls' st' x' hf k Lx H locs hl hP hD hS
  unfold f_iadd at hf
  split at hf
  · cases hf
    exact lv_iadd hx hb hd (k Lx H locs hl hP hD hS)
  · cases hf
def f_isub : F1 := fun ls st x => match st with
  | .int y :: .int z :: r => some (ls, .int (z - y) :: r, x)
  | _ => none
theorem st_isub {X : Ctx} {M : MI} (h : sCx X M) {pc : Nat} (hd : decode M.2.1 pc = .ok (.isub, 1)) : Stq X M pc (pc + 1) f_isub := by
  obtain ⟨p, l, e, R, s, m, args, below, meth, c, G, a, tc, A, H0, cells, slots, Q⟩ := X
  obtain ⟨hx, hb, hml, hown, hts, ⟨hK, hN⟩, hA, hc1, hs1, hf1, hl1, hlk, hrt⟩ := h
  intro ls st x ls' st' x' hf k Lx H locs hl hP hD hS
  unfold f_isub at hf
  split at hf
  · cases hf
    exact lv_isub hx hb hd (k Lx H locs hl hP hD hS)
  · cases hf
def f_imul : F1 := fun ls st x => match st with
  | .int y :: .int z :: r => some (ls, .int (z * y) :: r, x)
  | _ => none
theorem st_imul {X : Ctx} {M : MI} (h : sCx X M) {pc : Nat} (hd : decode M.2.1 pc = .ok (.imul, 1)) : Stq X M pc (pc + 1) f_imul := by
  obtain ⟨p, l, e, R, s, m, args, below, meth, c, G, a, tc, A, H0, cells, slots, Q⟩ := X
  obtain ⟨hx, hb, hml, hown, hts, ⟨hK, hN⟩, hA, hc1, hs1, hf1, hl1, hlk, hrt⟩ := h
  intro ls st x ls' st' x' hf k Lx H locs hl hP hD hS
  unfold f_imul at hf
  split at hf
  · cases hf
    exact lv_imul hx hb hd (k Lx H locs hl hP hD hS)
  · cases hf
def f_iand : F1 := fun ls st x => match st with
  | .int y :: .int z :: r => some (ls, .int (z &&& y) :: r, x)
  | _ => none
theorem st_iand {X : Ctx} {M : MI} (h : sCx X M) {pc : Nat} (hd : decode M.2.1 pc = .ok (.iand, 1)) : Stq X M pc (pc + 1) f_iand := by
  obtain ⟨p, l, e, R, s, m, args, below, meth, c, G, a, tc, A, H0, cells, slots, Q⟩ := X
  obtain ⟨hx, hb, hml, hown, hts, ⟨hK, hN⟩, hA, hc1, hs1, hf1, hl1, hlk, hrt⟩ := h
  intro ls st x ls' st' x' hf k Lx H locs hl hP hD hS
  unfold f_iand at hf
  split at hf
  · cases hf
    exact lv_iand hx hb hd (k Lx H locs hl hP hD hS)
  · cases hf
def f_ior : F1 := fun ls st x => match st with
  | .int y :: .int z :: r => some (ls, .int (z ||| y) :: r, x)
  | _ => none
theorem st_ior {X : Ctx} {M : MI} (h : sCx X M) {pc : Nat} (hd : decode M.2.1 pc = .ok (.ior, 1)) : Stq X M pc (pc + 1) f_ior := by
  obtain ⟨p, l, e, R, s, m, args, below, meth, c, G, a, tc, A, H0, cells, slots, Q⟩ := X
  obtain ⟨hx, hb, hml, hown, hts, ⟨hK, hN⟩, hA, hc1, hs1, hf1, hl1, hlk, hrt⟩ := h
  intro ls st x ls' st' x' hf k Lx H locs hl hP hD hS
  unfold f_ior at hf
  split at hf
  · cases hf
    exact lv_ior hx hb hd (k Lx H locs hl hP hD hS)
  · cases hf
def f_ixor : F1 := fun ls st x => match st with
  | .int y :: .int z :: r => some (ls, .int (z ^^^ y) :: r, x)
  | _ => none
theorem st_ixor {X : Ctx} {M : MI} (h : sCx X M) {pc : Nat} (hd : decode M.2.1 pc = .ok (.ixor, 1)) : Stq X M pc (pc + 1) f_ixor := by
  obtain ⟨p, l, e, R, s, m, args, below, meth, c, G, a, tc, A, H0, cells, slots, Q⟩ := X
  obtain ⟨hx, hb, hml, hown, hts, ⟨hK, hN⟩, hA, hc1, hs1, hf1, hl1, hlk, hrt⟩ := h
  intro ls st x ls' st' x' hf k Lx H locs hl hP hD hS
  unfold f_ixor at hf
  split at hf
  · cases hf
    exact lv_ixor hx hb hd (k Lx H locs hl hP hD hS)
  · cases hf
def f_ishl : F1 := fun ls st x => match st with
  | .int y :: .int z :: r => some (ls, .int (z <<< (y &&& 31)) :: r, x)
  | _ => none
theorem st_ishl {X : Ctx} {M : MI} (h : sCx X M) {pc : Nat} (hd : decode M.2.1 pc = .ok (.ishl, 1)) : Stq X M pc (pc + 1) f_ishl := by
  obtain ⟨p, l, e, R, s, m, args, below, meth, c, G, a, tc, A, H0, cells, slots, Q⟩ := X
  obtain ⟨hx, hb, hml, hown, hts, ⟨hK, hN⟩, hA, hc1, hs1, hf1, hl1, hlk, hrt⟩ := h
  intro ls st x ls' st' x' hf k Lx H locs hl hP hD hS
  unfold f_ishl at hf
  split at hf
  · cases hf
    exact lv_ishl hx hb hd (k Lx H locs hl hP hD hS)
  · cases hf
def f_ishr : F1 := fun ls st x => match st with
  | .int y :: .int z :: r => some (ls, .int (z >>> (y &&& 31)) :: r, x)
  | _ => none
theorem st_ishr {X : Ctx} {M : MI} (h : sCx X M) {pc : Nat} (hd : decode M.2.1 pc = .ok (.ishr, 1)) : Stq X M pc (pc + 1) f_ishr := by
  obtain ⟨p, l, e, R, s, m, args, below, meth, c, G, a, tc, A, H0, cells, slots, Q⟩ := X
  obtain ⟨hx, hb, hml, hown, hts, ⟨hK, hN⟩, hA, hc1, hs1, hf1, hl1, hlk, hrt⟩ := h
  intro ls st x ls' st' x' hf k Lx H locs hl hP hD hS
  unfold f_ishr at hf
  split at hf
  · cases hf
    exact lv_ishr hx hb hd (k Lx H locs hl hP hD hS)
  · cases hf
def f_ladd : F1 := fun ls st x => match st with
  | .long y :: .long z :: r => some (ls, .long (z + y) :: r, x)
  | _ => none
theorem st_ladd {X : Ctx} {M : MI} (h : sCx X M) {pc : Nat} (hd : decode M.2.1 pc = .ok (.ladd, 1)) : Stq X M pc (pc + 1) f_ladd := by
  obtain ⟨p, l, e, R, s, m, args, below, meth, c, G, a, tc, A, H0, cells, slots, Q⟩ := X
  obtain ⟨hx, hb, hml, hown, hts, ⟨hK, hN⟩, hA, hc1, hs1, hf1, hl1, hlk, hrt⟩ := h
  intro ls st x ls' st' x' hf k Lx H locs hl hP hD hS
  unfold f_ladd at hf
  split at hf
  · cases hf
    exact lv_ladd hx hb hd (k Lx H locs hl hP hD hS)
  · cases hf
def f_lsub : F1 := fun ls st x => match st with
  | .long y :: .long z :: r => some (ls, .long (z - y) :: r, x)
  | _ => none
theorem st_lsub {X : Ctx} {M : MI} (h : sCx X M) {pc : Nat} (hd : decode M.2.1 pc = .ok (.lsub, 1)) : Stq X M pc (pc + 1) f_lsub := by
  obtain ⟨p, l, e, R, s, m, args, below, meth, c, G, a, tc, A, H0, cells, slots, Q⟩ := X
  obtain ⟨hx, hb, hml, hown, hts, ⟨hK, hN⟩, hA, hc1, hs1, hf1, hl1, hlk, hrt⟩ := h
  intro ls st x ls' st' x' hf k Lx H locs hl hP hD hS
  unfold f_lsub at hf
  split at hf
  · cases hf
    exact lv_lsub hx hb hd (k Lx H locs hl hP hD hS)
  · cases hf
def f_lmul : F1 := fun ls st x => match st with
  | .long y :: .long z :: r => some (ls, .long (z * y) :: r, x)
  | _ => none
theorem st_lmul {X : Ctx} {M : MI} (h : sCx X M) {pc : Nat} (hd : decode M.2.1 pc = .ok (.lmul, 1)) : Stq X M pc (pc + 1) f_lmul := by
  obtain ⟨p, l, e, R, s, m, args, below, meth, c, G, a, tc, A, H0, cells, slots, Q⟩ := X
  obtain ⟨hx, hb, hml, hown, hts, ⟨hK, hN⟩, hA, hc1, hs1, hf1, hl1, hlk, hrt⟩ := h
  intro ls st x ls' st' x' hf k Lx H locs hl hP hD hS
  unfold f_lmul at hf
  split at hf
  · cases hf
    exact lv_lmul hx hb hd (k Lx H locs hl hP hD hS)
  · cases hf
def f_lshl : F1 := fun ls st x => match st with
  | .int y :: .long z :: r => some (ls, .long (z <<< (y.toInt64 &&& 63)) :: r, x)
  | _ => none
theorem st_lshl {X : Ctx} {M : MI} (h : sCx X M) {pc : Nat} (hd : decode M.2.1 pc = .ok (.lshl, 1)) : Stq X M pc (pc + 1) f_lshl := by
  obtain ⟨p, l, e, R, s, m, args, below, meth, c, G, a, tc, A, H0, cells, slots, Q⟩ := X
  obtain ⟨hx, hb, hml, hown, hts, ⟨hK, hN⟩, hA, hc1, hs1, hf1, hl1, hlk, hrt⟩ := h
  intro ls st x ls' st' x' hf k Lx H locs hl hP hD hS
  unfold f_lshl at hf
  split at hf
  · cases hf
    exact lv_lshl hx hb hd rfl (k Lx H locs hl hP hD hS)
  · cases hf
def f_i2l : F1 := fun ls st x => match st with
  | .int y :: r => some (ls, .long y.toInt64 :: r, x)
  | _ => none
theorem st_i2l {X : Ctx} {M : MI} (h : sCx X M) {pc : Nat} (hd : decode M.2.1 pc = .ok (.i2l, 1)) : Stq X M pc (pc + 1) f_i2l := by
  obtain ⟨p, l, e, R, s, m, args, below, meth, c, G, a, tc, A, H0, cells, slots, Q⟩ := X
  obtain ⟨hx, hb, hml, hown, hts, ⟨hK, hN⟩, hA, hc1, hs1, hf1, hl1, hlk, hrt⟩ := h
  intro ls st x ls' st' x' hf k Lx H locs hl hP hD hS
  unfold f_i2l at hf
  split at hf
  · cases hf
    exact lv_i2l hx hb hd rfl (k Lx H locs hl hP hD hS)
  · cases hf
def f_i2d : F1 := fun ls st x => match st with
  | .int y :: r => some (ls, .double (FP.i2d y) :: r, x)
  | _ => none
theorem st_i2d {X : Ctx} {M : MI} (h : sCx X M) {pc : Nat} (hd : decode M.2.1 pc = .ok (.i2d, 1)) : Stq X M pc (pc + 1) f_i2d := by
  obtain ⟨p, l, e, R, s, m, args, below, meth, c, G, a, tc, A, H0, cells, slots, Q⟩ := X
  obtain ⟨hx, hb, hml, hown, hts, ⟨hK, hN⟩, hA, hc1, hs1, hf1, hl1, hlk, hrt⟩ := h
  intro ls st x ls' st' x' hf k Lx H locs hl hP hD hS
  unfold f_i2d at hf
  split at hf
  · cases hf
    exact lv_i2d hx hb hd (k Lx H locs hl hP hD hS)
  · cases hf
def f_d2l : F1 := fun ls st x => match st with
  | .double y :: r => some (ls, .long (FP.d2l y) :: r, x)
  | _ => none
theorem st_d2l {X : Ctx} {M : MI} (h : sCx X M) {pc : Nat} (hd : decode M.2.1 pc = .ok (.d2l, 1)) : Stq X M pc (pc + 1) f_d2l := by
  obtain ⟨p, l, e, R, s, m, args, below, meth, c, G, a, tc, A, H0, cells, slots, Q⟩ := X
  obtain ⟨hx, hb, hml, hown, hts, ⟨hK, hN⟩, hA, hc1, hs1, hf1, hl1, hlk, hrt⟩ := h
  intro ls st x ls' st' x' hf k Lx H locs hl hP hD hS
  unfold f_d2l at hf
  split at hf
  · cases hf
    exact lv_d2l hx hb hd (k Lx H locs hl hP hD hS)
  · cases hf
def f_lcmp : F1 := fun ls st x => match st with
  | .long y :: .long z :: r => some (ls, .int (lg_cmp z y) :: r, x)
  | _ => none
theorem st_lcmp {X : Ctx} {M : MI} (h : sCx X M) {pc : Nat} (hd : decode M.2.1 pc = .ok (.lcmp, 1)) : Stq X M pc (pc + 1) f_lcmp := by
  obtain ⟨p, l, e, R, s, m, args, below, meth, c, G, a, tc, A, H0, cells, slots, Q⟩ := X
  obtain ⟨hx, hb, hml, hown, hts, ⟨hK, hN⟩, hA, hc1, hs1, hf1, hl1, hlk, hrt⟩ := h
  intro ls st x ls' st' x' hf k Lx H locs hl hP hD hS
  unfold f_lcmp at hf
  split at hf
  · cases hf
    exact W.lcmp hx hb hd (k Lx H locs hl hP hD hS)
  · cases hf
def f_dcmpl : F1 := fun ls st x => match st with
  | .double y :: .double z :: r => some (ls, .int (Op.cmpValue (FP.dcmp z y) .l) :: r, x)
  | _ => none
theorem st_dcmpl {X : Ctx} {M : MI} (h : sCx X M) {pc : Nat} (hd : decode M.2.1 pc = .ok (.dcmp .l, 1)) : Stq X M pc (pc + 1) f_dcmpl := by
  obtain ⟨p, l, e, R, s, m, args, below, meth, c, G, a, tc, A, H0, cells, slots, Q⟩ := X
  obtain ⟨hx, hb, hml, hown, hts, ⟨hK, hN⟩, hA, hc1, hs1, hf1, hl1, hlk, hrt⟩ := h
  intro ls st x ls' st' x' hf k Lx H locs hl hP hD hS
  unfold f_dcmpl at hf
  split at hf
  · cases hf
    exact lv_dcmp hx hb hd (k Lx H locs hl hP hD hS)
  · cases hf
def f_dcmpg : F1 := fun ls st x => match st with
  | .double y :: .double z :: r => some (ls, .int (Op.cmpValue (FP.dcmp z y) .g) :: r, x)
  | _ => none
theorem st_dcmpg {X : Ctx} {M : MI} (h : sCx X M) {pc : Nat} (hd : decode M.2.1 pc = .ok (.dcmp .g, 1)) : Stq X M pc (pc + 1) f_dcmpg := by
  obtain ⟨p, l, e, R, s, m, args, below, meth, c, G, a, tc, A, H0, cells, slots, Q⟩ := X
  obtain ⟨hx, hb, hml, hown, hts, ⟨hK, hN⟩, hA, hc1, hs1, hf1, hl1, hlk, hrt⟩ := h
  intro ls st x ls' st' x' hf k Lx H locs hl hP hD hS
  unfold f_dcmpg at hf
  split at hf
  · cases hf
    exact lv_dcmp hx hb hd (k Lx H locs hl hP hD hS)
  · cases hf
def f_dup : F1 := fun ls st x => match st with
  | v :: r => if v.category = 1 then some (ls, v :: v :: r, x) else none
  | _ => none
theorem st_dup {X : Ctx} {M : MI} (h : sCx X M) {pc : Nat} (hd : decode M.2.1 pc = .ok (.dup, 1)) : Stq X M pc (pc + 1) f_dup := by
  obtain ⟨p, l, e, R, s, m, args, below, meth, c, G, a, tc, A, H0, cells, slots, Q⟩ := X
  obtain ⟨hx, hb, hml, hown, hts, ⟨hK, hN⟩, hA, hc1, hs1, hf1, hl1, hlk, hrt⟩ := h
  intro ls st x ls' st' x' hf k Lx H locs hl hP hD hS
  unfold f_dup at hf
  split at hf
  · split at hf
    · next hv =>
      cases hf
      exact lv_dup hx hb hd (by rw [rv_cat]; exact hv) (k Lx H locs hl hP hD hS)
    · cases hf
  · cases hf
def f_dup2 : F1 := fun ls st x => match st with
  | v :: u :: r => if v.category = 1 then if u.category = 1 then some (ls, v :: u :: v :: u :: r, x) else none else none
  | _ => none
theorem st_dup2 {X : Ctx} {M : MI} (h : sCx X M) {pc : Nat} (hd : decode M.2.1 pc = .ok (.dup2, 1)) : Stq X M pc (pc + 1) f_dup2 := by
  obtain ⟨p, l, e, R, s, m, args, below, meth, c, G, a, tc, A, H0, cells, slots, Q⟩ := X
  obtain ⟨hx, hb, hml, hown, hts, ⟨hK, hN⟩, hA, hc1, hs1, hf1, hl1, hlk, hrt⟩ := h
  intro ls st x ls' st' x' hf k Lx H locs hl hP hD hS
  unfold f_dup2 at hf
  split at hf
  · split at hf
    · next hv =>
      split at hf
      · next hu =>
        cases hf
        exact lv_dup2_11 hx hb hd (by rw [rv_cat]; exact hv) (by rw [rv_cat]; exact hu) (k Lx H locs hl hP hD hS)
      · cases hf
    · cases hf
  · cases hf
def f_ci (v : Int32) : F1 := fun ls st x => some (ls, .int v :: st, x)
def f_cd (v : UInt64) : F1 := fun ls st x => some (ls, .double v :: st, x)
def f_cl (v : Int64) : F1 := fun ls st x => some (ls, .long v :: st, x)
theorem st_iconst {X : Ctx} {M : MI} (h : sCx X M) {pc : Nat} {v : Int32} {n : Int} (hv : Int32.ofInt n = v) (hd : decode M.2.1 pc = .ok (.iconst n, 1)) : Stq X M pc (pc + 1) (f_ci v) := by
  obtain ⟨p, l, e, R, s, m, args, below, meth, c, G, a, tc, A, H0, cells, slots, Q⟩ := X
  obtain ⟨hx, hb, hml, hown, hts, ⟨hK, hN⟩, hA, hc1, hs1, hf1, hl1, hlk, hrt⟩ := h
  intro ls st x ls' st' x' hf k Lx H locs hl hP hD hS
  cases hf
  exact lv_iconst hx hb hd hv (k Lx H locs hl hP hD hS)
theorem st_bipush {X : Ctx} {M : MI} (h : sCx X M) {pc : Nat} {v : Int32} {n : Int} (hv : (Int8.ofInt n).toInt32 = v) (hd : decode M.2.1 pc = .ok (.bipush n, 2)) : Stq X M pc (pc + 2) (f_ci v) := by
  obtain ⟨p, l, e, R, s, m, args, below, meth, c, G, a, tc, A, H0, cells, slots, Q⟩ := X
  obtain ⟨hx, hb, hml, hown, hts, ⟨hK, hN⟩, hA, hc1, hs1, hf1, hl1, hlk, hrt⟩ := h
  intro ls st x ls' st' x' hf k Lx H locs hl hP hD hS
  cases hf
  exact lv_bipush hx hb hd hv (k Lx H locs hl hP hD hS)
theorem st_sipush {X : Ctx} {M : MI} (h : sCx X M) {pc : Nat} {v : Int32} {n : Int} (hv : (Int16.ofInt n).toInt32 = v) (hd : decode M.2.1 pc = .ok (.sipush n, 3)) : Stq X M pc (pc + 3) (f_ci v) := by
  obtain ⟨p, l, e, R, s, m, args, below, meth, c, G, a, tc, A, H0, cells, slots, Q⟩ := X
  obtain ⟨hx, hb, hml, hown, hts, ⟨hK, hN⟩, hA, hc1, hs1, hf1, hl1, hlk, hrt⟩ := h
  intro ls st x ls' st' x' hf k Lx H locs hl hP hD hS
  cases hf
  exact lv_sipush hx hb hd hv (k Lx H locs hl hP hD hS)
theorem st_lconst {X : Ctx} {M : MI} (h : sCx X M) {pc : Nat} {v : Int64} {n : Fin 2} (hv : Int64.ofNat (n : Nat) = v) (hd : decode M.2.1 pc = .ok (.lconst n, 1)) : Stq X M pc (pc + 1) (f_cl v) := by
  obtain ⟨p, l, e, R, s, m, args, below, meth, c, G, a, tc, A, H0, cells, slots, Q⟩ := X
  obtain ⟨hx, hb, hml, hown, hts, ⟨hK, hN⟩, hA, hc1, hs1, hf1, hl1, hlk, hrt⟩ := h
  intro ls st x ls' st' x' hf k Lx H locs hl hP hD hS
  cases hf
  exact lv_lconst hx hb hd hv (k Lx H locs hl hP hD hS)
theorem st_dconst0 {X : Ctx} {M : MI} (h : sCx X M) {pc : Nat} {v : UInt64} (hv : FP.dconst0 = v) (hd : decode M.2.1 pc = .ok (.dconst 0, 1)) : Stq X M pc (pc + 1) (f_cd v) := by
  obtain ⟨p, l, e, R, s, m, args, below, meth, c, G, a, tc, A, H0, cells, slots, Q⟩ := X
  obtain ⟨hx, hb, hml, hown, hts, ⟨hK, hN⟩, hA, hc1, hs1, hf1, hl1, hlk, hrt⟩ := h
  intro ls st x ls' st' x' hf k Lx H locs hl hP hD hS
  cases hf
  exact lv_dconst0 hx hb hd (hv ▸ (k Lx H locs hl hP hD hS))
theorem st_dconst1 {X : Ctx} {M : MI} (h : sCx X M) {pc : Nat} {v : UInt64} (hv : FP.dconst1 = v) (hd : decode M.2.1 pc = .ok (.dconst 1, 1)) : Stq X M pc (pc + 1) (f_cd v) := by
  obtain ⟨p, l, e, R, s, m, args, below, meth, c, G, a, tc, A, H0, cells, slots, Q⟩ := X
  obtain ⟨hx, hb, hml, hown, hts, ⟨hK, hN⟩, hA, hc1, hs1, hf1, hl1, hlk, hrt⟩ := h
  intro ls st x ls' st' x' hf k Lx H locs hl hP hD hS
  cases hf
  exact lv_dconst1 hx hb hd (hv ▸ (k Lx H locs hl hP hD hS))
theorem st_ldc {X : Ctx} {M : MI} (h : sCx X M) {pc : Nat} {v : Int32} {i : Nat} (hw : Cond.constant M.1.cls i v ∈ gw) (hd : decode M.2.1 pc = .ok (.ldc i, 2)) : Stq X M pc (pc + 2) (f_ci v) := by
  obtain ⟨p, l, e, R, s, m, args, below, meth, c, G, a, tc, A, H0, cells, slots, Q⟩ := X
  obtain ⟨hx, hb, hml, hown, hts, ⟨hK, hN⟩, hA, hc1, hs1, hf1, hl1, hlk, hrt⟩ := h
  intro ls st x ls' st' x' hf k Lx H locs hl hP hD hS
  cases hf
  exact lv_ldc hx hb hown (hts _ hw) hd (k Lx H locs hl hP hD hS)
theorem st_ldcw {X : Ctx} {M : MI} (h : sCx X M) {pc : Nat} {v : Int32} {i : Nat} (hw : Cond.constant M.1.cls i v ∈ gw) (hd : decode M.2.1 pc = .ok (.ldc_w i, 3)) : Stq X M pc (pc + 3) (f_ci v) := by
  obtain ⟨p, l, e, R, s, m, args, below, meth, c, G, a, tc, A, H0, cells, slots, Q⟩ := X
  obtain ⟨hx, hb, hml, hown, hts, ⟨hK, hN⟩, hA, hc1, hs1, hf1, hl1, hlk, hrt⟩ := h
  intro ls st x ls' st' x' hf k Lx H locs hl hP hD hS
  cases hf
  exact lv_ldcw hx hb hown (hts _ hw) hd (k Lx H locs hl hP hD hS)
theorem st_ldc2d {X : Ctx} {M : MI} (h : sCx X M) {pc : Nat} {v : UInt64} {i : Nat} (hw : Cond.constantDouble M.1.cls i v ∈ gw) (hd : decode M.2.1 pc = .ok (.ldc2_w i, 3)) : Stq X M pc (pc + 3) (f_cd v) := by
  obtain ⟨p, l, e, R, s, m, args, below, meth, c, G, a, tc, A, H0, cells, slots, Q⟩ := X
  obtain ⟨hx, hb, hml, hown, hts, ⟨hK, hN⟩, hA, hc1, hs1, hf1, hl1, hlk, hrt⟩ := h
  intro ls st x ls' st' x' hf k Lx H locs hl hP hD hS
  cases hf
  exact lv_ldc2d hx hb hown (hts _ hw) hd (k Lx H locs hl hP hD hS)
theorem st_ldc2l {X : Ctx} {M : MI} (h : sCx X M) {pc : Nat} {v : Int64} {i : Nat} (hw : Cond.constantLong M.1.cls i v ∈ gw) (hd : decode M.2.1 pc = .ok (.ldc2_w i, 3)) : Stq X M pc (pc + 3) (f_cl v) := by
  obtain ⟨p, l, e, R, s, m, args, below, meth, c, G, a, tc, A, H0, cells, slots, Q⟩ := X
  obtain ⟨hx, hb, hml, hown, hts, ⟨hK, hN⟩, hA, hc1, hs1, hf1, hl1, hlk, hrt⟩ := h
  intro ls st x ls' st' x' hf k Lx H locs hl hP hD hS
  cases hf
  exact lv_ldc2 hx hb hown (hts _ hw) hd (k Lx H locs hl hP hD hS)
def f_iload (i : Nat) : F1 := fun ls st x => match ls.lookup i with
  | some (.int v) => some (ls, .int v :: st, x)
  | _ => none
theorem st_iload {X : Ctx} {M : MI} (h : sCx X M) {pc i : Nat} (hd : decode M.2.1 pc = .ok (.iload i, 2)) : Stq X M pc (pc + 2) (f_iload i) := by
  obtain ⟨p, l, e, R, s, m, args, below, meth, c, G, a, tc, A, H0, cells, slots, Q⟩ := X
  obtain ⟨hx, hb, hml, hown, hts, ⟨hK, hN⟩, hA, hc1, hs1, hf1, hl1, hlk, hrt⟩ := h
  intro ls st x ls' st' x' hf k Lx H locs hl hP hD hS
  unfold f_iload at hf
  split at hf
  · next v hq =>
    cases hf
    exact lv_iload hx hb hd (lk_at hl hq) (k Lx H locs hl hP hD hS)
  · cases hf
theorem st_iloadn {X : Ctx} {M : MI} (h : sCx X M) {pc i : Nat} {kk : Fin 4} (hk : (kk : Nat) = i) (hd : decode M.2.1 pc = .ok (.iload_n kk, 1)) : Stq X M pc (pc + 1) (f_iload i) := by
  obtain ⟨p, l, e, R, s, m, args, below, meth, c, G, a, tc, A, H0, cells, slots, Q⟩ := X
  obtain ⟨hx, hb, hml, hown, hts, ⟨hK, hN⟩, hA, hc1, hs1, hf1, hl1, hlk, hrt⟩ := h
  intro ls st x ls' st' x' hf k Lx H locs hl hP hD hS
  unfold f_iload at hf
  split at hf
  · next v hq =>
    cases hf
    exact lv_iload_n hx hb hd hk (lk_at hl hq) (k Lx H locs hl hP hD hS)
  · cases hf
def f_dload (i : Nat) : F1 := fun ls st x => match ls.lookup i with
  | some (.double v) => some (ls, .double v :: st, x)
  | _ => none
theorem st_dload {X : Ctx} {M : MI} (h : sCx X M) {pc i : Nat} (hd : decode M.2.1 pc = .ok (.dload i, 2)) : Stq X M pc (pc + 2) (f_dload i) := by
  obtain ⟨p, l, e, R, s, m, args, below, meth, c, G, a, tc, A, H0, cells, slots, Q⟩ := X
  obtain ⟨hx, hb, hml, hown, hts, ⟨hK, hN⟩, hA, hc1, hs1, hf1, hl1, hlk, hrt⟩ := h
  intro ls st x ls' st' x' hf k Lx H locs hl hP hD hS
  unfold f_dload at hf
  split at hf
  · next v hq =>
    cases hf
    exact lv_dload hx hb hd (lk_at hl hq) (k Lx H locs hl hP hD hS)
  · cases hf
theorem st_dloadn {X : Ctx} {M : MI} (h : sCx X M) {pc i : Nat} {kk : Fin 4} (hk : (kk : Nat) = i) (hd : decode M.2.1 pc = .ok (.dload_n kk, 1)) : Stq X M pc (pc + 1) (f_dload i) := by
  obtain ⟨p, l, e, R, s, m, args, below, meth, c, G, a, tc, A, H0, cells, slots, Q⟩ := X
  obtain ⟨hx, hb, hml, hown, hts, ⟨hK, hN⟩, hA, hc1, hs1, hf1, hl1, hlk, hrt⟩ := h
  intro ls st x ls' st' x' hf k Lx H locs hl hP hD hS
  unfold f_dload at hf
  split at hf
  · next v hq =>
    cases hf
    exact lv_dload_n hx hb hd hk (lk_at hl hq) (k Lx H locs hl hP hD hS)
  · cases hf
def f_lload (i : Nat) : F1 := fun ls st x => match ls.lookup i with
  | some (.long v) => some (ls, .long v :: st, x)
  | _ => none
theorem st_lload {X : Ctx} {M : MI} (h : sCx X M) {pc i : Nat} (hd : decode M.2.1 pc = .ok (.lload i, 2)) : Stq X M pc (pc + 2) (f_lload i) := by
  obtain ⟨p, l, e, R, s, m, args, below, meth, c, G, a, tc, A, H0, cells, slots, Q⟩ := X
  obtain ⟨hx, hb, hml, hown, hts, ⟨hK, hN⟩, hA, hc1, hs1, hf1, hl1, hlk, hrt⟩ := h
  intro ls st x ls' st' x' hf k Lx H locs hl hP hD hS
  unfold f_lload at hf
  split at hf
  · next v hq =>
    cases hf
    exact lv_lload hx hb hd (lk_at hl hq) (k Lx H locs hl hP hD hS)
  · cases hf
theorem st_lloadn {X : Ctx} {M : MI} (h : sCx X M) {pc i : Nat} {kk : Fin 4} (hk : (kk : Nat) = i) (hd : decode M.2.1 pc = .ok (.lload_n kk, 1)) : Stq X M pc (pc + 1) (f_lload i) := by
  obtain ⟨p, l, e, R, s, m, args, below, meth, c, G, a, tc, A, H0, cells, slots, Q⟩ := X
  obtain ⟨hx, hb, hml, hown, hts, ⟨hK, hN⟩, hA, hc1, hs1, hf1, hl1, hlk, hrt⟩ := h
  intro ls st x ls' st' x' hf k Lx H locs hl hP hD hS
  unfold f_lload at hf
  split at hf
  · next v hq =>
    cases hf
    exact lv_lload_n hx hb hd hk (lk_at hl hq) (k Lx H locs hl hP hD hS)
  · cases hf
def f_aload (i : Nat) : F1 := fun ls st x => match ls.lookup i with
  | some (.ref v) => some (ls, .ref v :: st, x)
  | _ => none
theorem st_aload {X : Ctx} {M : MI} (h : sCx X M) {pc i : Nat} (hd : decode M.2.1 pc = .ok (.aload i, 2)) : Stq X M pc (pc + 2) (f_aload i) := by
  obtain ⟨p, l, e, R, s, m, args, below, meth, c, G, a, tc, A, H0, cells, slots, Q⟩ := X
  obtain ⟨hx, hb, hml, hown, hts, ⟨hK, hN⟩, hA, hc1, hs1, hf1, hl1, hlk, hrt⟩ := h
  intro ls st x ls' st' x' hf k Lx H locs hl hP hD hS
  unfold f_aload at hf
  split at hf
  · next v hq =>
    cases hf
    exact lv_aload hx hb hd (lk_at hl hq) (k Lx H locs hl hP hD hS)
  · cases hf
theorem st_aloadn {X : Ctx} {M : MI} (h : sCx X M) {pc i : Nat} {kk : Fin 4} (hk : (kk : Nat) = i) (hd : decode M.2.1 pc = .ok (.aload_n kk, 1)) : Stq X M pc (pc + 1) (f_aload i) := by
  obtain ⟨p, l, e, R, s, m, args, below, meth, c, G, a, tc, A, H0, cells, slots, Q⟩ := X
  obtain ⟨hx, hb, hml, hown, hts, ⟨hK, hN⟩, hA, hc1, hs1, hf1, hl1, hlk, hrt⟩ := h
  intro ls st x ls' st' x' hf k Lx H locs hl hP hD hS
  unfold f_aload at hf
  split at hf
  · next v hq =>
    cases hf
    exact lv_aload_n hx hb hd hk (lk_at hl hq) (k Lx H locs hl hP hD hS)
  · cases hf
def f_istore (n i : Nat) : F1 := fun ls st x => match st with
  | .int v :: r => if i < n then some (lset1 ls i (.int v), r, x) else none
  | _ => none
theorem st_istore {X : Ctx} {M : MI} (h : sCx X M) {pc i : Nat} (hd : decode M.2.1 pc = .ok (.istore i, 2)) : Stq X M pc (pc + 2) (f_istore M.2.2.1 i) := by
  obtain ⟨p, l, e, R, s, m, args, below, meth, c, G, a, tc, A, H0, cells, slots, Q⟩ := X
  obtain ⟨hx, hb, hml, hown, hts, ⟨hK, hN⟩, hA, hc1, hs1, hf1, hl1, hlk, hrt⟩ := h
  intro ls st x ls' st' x' hf k Lx H locs hl hP hD hS
  unfold f_istore at hf
  split at hf
  · next v r =>
    split at hf
    · next hi =>
      cases hf
      exact lv_istore hx hb hd hl hi (lm_set1 a ls i (.int v)) (fun Lx hl => k Lx H locs hl hP hD hS)
    · cases hf
  · cases hf
theorem st_istoren {X : Ctx} {M : MI} (h : sCx X M) {pc i : Nat} {kk : Fin 4} (hk : (kk : Nat) = i) (hd : decode M.2.1 pc = .ok (.istore_n kk, 1)) : Stq X M pc (pc + 1) (f_istore M.2.2.1 i) := by
  obtain ⟨p, l, e, R, s, m, args, below, meth, c, G, a, tc, A, H0, cells, slots, Q⟩ := X
  obtain ⟨hx, hb, hml, hown, hts, ⟨hK, hN⟩, hA, hc1, hs1, hf1, hl1, hlk, hrt⟩ := h
  intro ls st x ls' st' x' hf k Lx H locs hl hP hD hS
  unfold f_istore at hf
  split at hf
  · next v r =>
    split at hf
    · next hi =>
      cases hf
      exact lv_istore_n hx hb hd hk hl hi (lm_set1 a ls i (.int v)) (fun Lx hl => k Lx H locs hl hP hD hS)
    · cases hf
  · cases hf
def f_astore (n i : Nat) : F1 := fun ls st x => match st with
  | .ref v :: r => if i < n then some (lset1 ls i (.ref v), r, x) else none
  | _ => none
theorem st_astore {X : Ctx} {M : MI} (h : sCx X M) {pc i : Nat} (hd : decode M.2.1 pc = .ok (.astore i, 2)) : Stq X M pc (pc + 2) (f_astore M.2.2.1 i) := by
  obtain ⟨p, l, e, R, s, m, args, below, meth, c, G, a, tc, A, H0, cells, slots, Q⟩ := X
  obtain ⟨hx, hb, hml, hown, hts, ⟨hK, hN⟩, hA, hc1, hs1, hf1, hl1, hlk, hrt⟩ := h
  intro ls st x ls' st' x' hf k Lx H locs hl hP hD hS
  unfold f_astore at hf
  split at hf
  · next v r =>
    split at hf
    · next hi =>
      cases hf
      exact lv_astore hx hb hd hl hi (lm_set1 a ls i (.ref v)) (fun Lx hl => k Lx H locs hl hP hD hS)
    · cases hf
  · cases hf
theorem st_astoren {X : Ctx} {M : MI} (h : sCx X M) {pc i : Nat} {kk : Fin 4} (hk : (kk : Nat) = i) (hd : decode M.2.1 pc = .ok (.astore_n kk, 1)) : Stq X M pc (pc + 1) (f_astore M.2.2.1 i) := by
  obtain ⟨p, l, e, R, s, m, args, below, meth, c, G, a, tc, A, H0, cells, slots, Q⟩ := X
  obtain ⟨hx, hb, hml, hown, hts, ⟨hK, hN⟩, hA, hc1, hs1, hf1, hl1, hlk, hrt⟩ := h
  intro ls st x ls' st' x' hf k Lx H locs hl hP hD hS
  unfold f_astore at hf
  split at hf
  · next v r =>
    split at hf
    · next hi =>
      cases hf
      exact lv_astore_n hx hb hd hk hl hi (lm_set1 a ls i (.ref v)) (fun Lx hl => k Lx H locs hl hP hD hS)
    · cases hf
  · cases hf
def f_dstore (n i : Nat) : F1 := fun ls st x => match st with
  | .double v :: r => if i + 1 < n then some (lset2 ls i (.double v), r, x) else none
  | _ => none
theorem st_dstore {X : Ctx} {M : MI} (h : sCx X M) {pc i : Nat} (hd : decode M.2.1 pc = .ok (.dstore i, 2)) : Stq X M pc (pc + 2) (f_dstore M.2.2.1 i) := by
  obtain ⟨p, l, e, R, s, m, args, below, meth, c, G, a, tc, A, H0, cells, slots, Q⟩ := X
  obtain ⟨hx, hb, hml, hown, hts, ⟨hK, hN⟩, hA, hc1, hs1, hf1, hl1, hlk, hrt⟩ := h
  intro ls st x ls' st' x' hf k Lx H locs hl hP hD hS
  unfold f_dstore at hf
  split at hf
  · next v r =>
    split at hf
    · next hi =>
      cases hf
      exact lv_dstore hx hb hd hl hi (lm_set2 a ls i (.double v)) (fun Lx hl => k Lx H locs hl hP hD hS)
    · cases hf
  · cases hf
theorem st_dstoren {X : Ctx} {M : MI} (h : sCx X M) {pc i : Nat} {kk : Fin 4} (hk : (kk : Nat) = i) (hd : decode M.2.1 pc = .ok (.dstore_n kk, 1)) : Stq X M pc (pc + 1) (f_dstore M.2.2.1 i) := by
  obtain ⟨p, l, e, R, s, m, args, below, meth, c, G, a, tc, A, H0, cells, slots, Q⟩ := X
  obtain ⟨hx, hb, hml, hown, hts, ⟨hK, hN⟩, hA, hc1, hs1, hf1, hl1, hlk, hrt⟩ := h
  intro ls st x ls' st' x' hf k Lx H locs hl hP hD hS
  unfold f_dstore at hf
  split at hf
  · next v r =>
    split at hf
    · next hi =>
      cases hf
      exact lv_dstore_n hx hb hd hk hl hi (lm_set2 a ls i (.double v)) (fun Lx hl => k Lx H locs hl hP hD hS)
    · cases hf
  · cases hf
def f_lstore (n i : Nat) : F1 := fun ls st x => match st with
  | .long v :: r => if i + 1 < n then some (lset2 ls i (.long v), r, x) else none
  | _ => none
theorem st_lstore {X : Ctx} {M : MI} (h : sCx X M) {pc i : Nat} (hd : decode M.2.1 pc = .ok (.lstore i, 2)) : Stq X M pc (pc + 2) (f_lstore M.2.2.1 i) := by
  obtain ⟨p, l, e, R, s, m, args, below, meth, c, G, a, tc, A, H0, cells, slots, Q⟩ := X
  obtain ⟨hx, hb, hml, hown, hts, ⟨hK, hN⟩, hA, hc1, hs1, hf1, hl1, hlk, hrt⟩ := h
  intro ls st x ls' st' x' hf k Lx H locs hl hP hD hS
  unfold f_lstore at hf
  split at hf
  · next v r =>
    split at hf
    · next hi =>
      cases hf
      exact lv_lstore hx hb hd hl hi (lm_set2 a ls i (.long v)) (fun Lx hl => k Lx H locs hl hP hD hS)
    · cases hf
  · cases hf
theorem st_lstoren {X : Ctx} {M : MI} (h : sCx X M) {pc i : Nat} {kk : Fin 4} (hk : (kk : Nat) = i) (hd : decode M.2.1 pc = .ok (.lstore_n kk, 1)) : Stq X M pc (pc + 1) (f_lstore M.2.2.1 i) := by
  obtain ⟨p, l, e, R, s, m, args, below, meth, c, G, a, tc, A, H0, cells, slots, Q⟩ := X
  obtain ⟨hx, hb, hml, hown, hts, ⟨hK, hN⟩, hA, hc1, hs1, hf1, hl1, hlk, hrt⟩ := h
  intro ls st x ls' st' x' hf k Lx H locs hl hP hD hS
  unfold f_lstore at hf
  split at hf
  · next v r =>
    split at hf
    · next hi =>
      cases hf
      exact lv_lstore_n hx hb hd hk hl hi (lm_set2 a ls i (.long v)) (fun Lx hl => k Lx H locs hl hP hD hS)
    · cases hf
  · cases hf
def f_iinc (n i : Nat) (d : Int32) : F1 := fun ls st x => match ls.lookup i with
  | some (.int v) => if i < n then some (lset1 ls i (.int (v + d)), st, x) else none
  | _ => none
theorem st_iinc {X : Ctx} {M : MI} (h : sCx X M) {pc i : Nat} {d : Int} {v : Int32} (hv : Int32.ofInt d = v) (hd : decode M.2.1 pc = .ok (.iinc i d, 3)) : Stq X M pc (pc + 3) (f_iinc M.2.2.1 i v) := by
  obtain ⟨p, l, e, R, s, m, args, below, meth, c, G, a, tc, A, H0, cells, slots, Q⟩ := X
  obtain ⟨hx, hb, hml, hown, hts, ⟨hK, hN⟩, hA, hc1, hs1, hf1, hl1, hlk, hrt⟩ := h
  intro ls st x ls' st' x' hf k Lx H locs hl hP hD hS
  unfold f_iinc at hf
  split at hf
  · next z hq =>
    split at hf
    · next hi =>
      cases hf
      obtain ⟨j, hj⟩ := lk_ix (a := a) hq
      exact lv_iinc hx hb hd hl hj (by rw [hv]) hi (lm_set1 a ls i (.int (z + v))) (fun Lx hl => k Lx H locs hl hP hD hS)
    · cases hf
  · cases hf
def f_id : F1 := fun ls st x => some (ls, st, x)
theorem st_goto {X : Ctx} {M : MI} (h : sCx X M) {pc tgt : Nat} {off : Int} (hd : decode M.2.1 pc = .ok (.goto off, 3)) (ht : (pc : Int) + off = (tgt : Int)) : Stq X M pc tgt f_id := by
  obtain ⟨p, l, e, R, s, m, args, below, meth, c, G, a, tc, A, H0, cells, slots, Q⟩ := X
  obtain ⟨hx, hb, hml, hown, hts, ⟨hK, hN⟩, hA, hc1, hs1, hf1, hl1, hlk, hrt⟩ := h
  intro ls st x ls' st' x' hf k Lx H locs hl hP hD hS
  cases hf
  exact lv_goto hx hb hd ht (k Lx H locs hl hP hD hS)
def f_get (ci k : Nat) : F1 := fun ls st x => match st with
  | .ref i :: r => match shp i with
    | .inr (cj, ks) => if cj = ci then match ks[k]? with
      | some kd => some (ls, fkv id x i k kd :: r, x)
      | none => none else none
    | .inl _ => none
  | _ => none
theorem fkv_rv {a : Nat → Nat} {x : Hp} {i k r : Nat} : fkv a x i k r = rv a (fkv id x i k r) := by
  match r with
  | 0 => rfl
  | 1 => rfl
  | r + 2 => rfl
theorem st_get {X : Ctx} {M : MI} (h : sCx X M) {pc ci ix k N : Nat} {C ref : String} {T : u_T} (hc : vwCl[ci]? = some (C, T, N)) (hin : ∀ w ∈ u_ws C T N, w ∈ gw) (hk : k < N) (hr : ref = (T k).1) (hw : Cond.fieldLink M.1.cls ix ref (T k).2.1 (T k).2.2.1 ∈ gw) (hd : decode M.2.1 pc = .ok (.getfield ix, 3)) : Stq X M pc (pc + 3) (f_get ci k) := by
  obtain ⟨p, l, e, R, s, m, args, below, meth, c, G, a, tc, A, H0, cells, slots, Q⟩ := X
  obtain ⟨hx, hb, hml, hown, hts, ⟨hK, hN⟩, hA, hc1, hs1, hf1, hl1, hlk, hrt⟩ := h
  intro ls st x ls' st' x' hf k_ Lx H locs hl hP hD hS
  unfold f_get at hf
  split at hf
  · next i r =>
    split at hf
    · next cj ks hsh =>
      split at hf
      · next hcj =>
        split at hf
        · next kd hkd =>
          cases hf
          subst hcj
          have hi : i < 96 := shp_ltR hsh
          have he : (wd a tc x)[i]? = some (a i, .inr (cj, ks.mapIdx (fun k r => fkv a x i k r))) := by rw [wd_get hi, ent_o hsh]
          refine va_get (D := G) (ci := cj) (v := rv a (fkv id x i k kd)) (C := C) (T := T) (N := N) hx hb hts hin hown hK hP i he hc k hk (hts _ hw) (fun y h9 => by rw [hr]; exact h9) ?_ hd (k_ Lx H locs hl hP hD hS)
          rw [fs_get hkd, fkv_rv]
        · cases hf
      · cases hf
    · cases hf
  · cases hf
def f_putI (ci k : Nat) : F1 := fun ls st x => match st with
  | .int v :: .ref i :: r => match shp i with
    | .inr (cj, ks) => if cj = ci then if ks[k]? = some 0 then some (ls, r, (u2 x.1 i k v, x.2)) else none else none
    | .inl _ => none
  | _ => none
theorem st_putI {X : Ctx} {M : MI} (h : sCx X M) {pc ci ix k N : Nat} {C ref : String} {T : u_T} (ty0 : Nat → FieldType) (hty : ∀ k, k < N → parseFieldDescriptor (T k).2.2.1 = some (ty0 k)) (hnm : ∀ a, a < N → ∀ b, b < N → a ≠ b → (T a).2.1 ≠ (T b).2.1) (hc : vwCl[ci]? = some (C, T, N)) (hin : ∀ w ∈ u_ws C T N, w ∈ gw) (hk : k < N) (hr : ref = (T k).1) (hfin : (T k).2.2.2 = false) (hdd : parseFieldDescriptor (T k).2.2.1 = some .int) (hw : Cond.fieldLink M.1.cls ix ref (T k).2.1 (T k).2.2.1 ∈ gw) (hd : decode M.2.1 pc = .ok (.putfield ix, 3)) : Stq X M pc (pc + 3) (f_putI ci k) := by
  obtain ⟨p, l, e, R, s, m, args, below, meth, c, G, a, tc, A, H0, cells, slots, Q⟩ := X
  obtain ⟨hx, hb, hml, hown, hts, ⟨hK, hN⟩, hA, hc1, hs1, hf1, hl1, hlk, hrt⟩ := h
  intro ls st x ls' st' x' hf k_ Lx H locs hl hP hD hS
  unfold f_putI at hf
  split at hf
  · next v i r =>
    split at hf
    · next cj ks hsh =>
      split at hf
      · next hcj =>
        split at hf
        · next hkd =>
          cases hf
          subst hcj
          have hi : i < 96 := shp_ltR hsh
          have he : (wd a tc x)[i]? = some (a i, .inr (cj, ks.mapIdx (fun k r => fkv a x i k r))) := by rw [wd_get hi, ent_o hsh]
          have hle : k < (ks.mapIdx (fun k r => fkv a x i k r)).length := by simpa using (List.getElem?_eq_some_iff.mp hkd).1
          refine va_put (D := G) (ci := cj) (v := .int v) (ty := .int) (C := C) (T := T) (N := N) hx hb hts hin ty0 hty hnm hown hK hP hD hS i he hc k hk (hts _ hw) (fun y h9 => by rw [hr]; exact h9) hfin hdd rfl rfl hle hd (fun H1 locs1 hP1 hD1 hS1 => ?_)
          rw [wd_setFI hi hsh hkd] at hP1 hD1
          exact k_ Lx H1 locs1 hl hP1 hD1 hS1
        · cases hf
      · cases hf
    · cases hf
  · cases hf
def f_putD (ci k : Nat) : F1 := fun ls st x => match st with
  | .double v :: .ref i :: r => match shp i with
    | .inr (cj, ks) => if cj = ci then if ks[k]? = some 1 then some (ls, r, (x.1, u2 x.2.1 i k v, x.2.2)) else none else none
    | .inl _ => none
  | _ => none
theorem st_putD {X : Ctx} {M : MI} (h : sCx X M) {pc ci ix k N : Nat} {C ref : String} {T : u_T} (ty0 : Nat → FieldType) (hty : ∀ k, k < N → parseFieldDescriptor (T k).2.2.1 = some (ty0 k)) (hnm : ∀ a, a < N → ∀ b, b < N → a ≠ b → (T a).2.1 ≠ (T b).2.1) (hc : vwCl[ci]? = some (C, T, N)) (hin : ∀ w ∈ u_ws C T N, w ∈ gw) (hk : k < N) (hr : ref = (T k).1) (hfin : (T k).2.2.2 = false) (hdd : parseFieldDescriptor (T k).2.2.1 = some .double) (hw : Cond.fieldLink M.1.cls ix ref (T k).2.1 (T k).2.2.1 ∈ gw) (hd : decode M.2.1 pc = .ok (.putfield ix, 3)) : Stq X M pc (pc + 3) (f_putD ci k) := by
  obtain ⟨p, l, e, R, s, m, args, below, meth, c, G, a, tc, A, H0, cells, slots, Q⟩ := X
  obtain ⟨hx, hb, hml, hown, hts, ⟨hK, hN⟩, hA, hc1, hs1, hf1, hl1, hlk, hrt⟩ := h
  intro ls st x ls' st' x' hf k_ Lx H locs hl hP hD hS
  unfold f_putD at hf
  split at hf
  · next v i r =>
    split at hf
    · next cj ks hsh =>
      split at hf
      · next hcj =>
        split at hf
        · next hkd =>
          cases hf
          subst hcj
          have hi : i < 96 := shp_ltR hsh
          have he : (wd a tc x)[i]? = some (a i, .inr (cj, ks.mapIdx (fun k r => fkv a x i k r))) := by rw [wd_get hi, ent_o hsh]
          have hle : k < (ks.mapIdx (fun k r => fkv a x i k r)).length := by simpa using (List.getElem?_eq_some_iff.mp hkd).1
          refine va_put (D := G) (ci := cj) (v := .double v) (ty := .double) (C := C) (T := T) (N := N) hx hb hts hin ty0 hty hnm hown hK hP hD hS i he hc k hk (hts _ hw) (fun y h9 => by rw [hr]; exact h9) hfin hdd rfl rfl hle hd (fun H1 locs1 hP1 hD1 hS1 => ?_)
          rw [wd_setFD hi hsh hkd] at hP1 hD1
          exact k_ Lx H1 locs1 hl hP1 hD1 hS1
        · cases hf
      · cases hf
    · cases hf
  · cases hf
def f_alen : F1 := fun ls st x => match st with
  | .ref i :: r => match shp i with
    | .inl (t, n) => if t < 4 ∧ n ≠ 0 then some (ls, .int (Int32.ofNat n) :: r, x) else none
    | .inr _ => none
  | _ => none
theorem st_alen {X : Ctx} {M : MI} (h : sCx X M) {pc : Nat} (hd : decode M.2.1 pc = .ok (.arraylength, 1)) : Stq X M pc (pc + 1) f_alen := by
  obtain ⟨p, l, e, R, s, m, args, below, meth, c, G, a, tc, A, H0, cells, slots, Q⟩ := X
  obtain ⟨hx, hb, hml, hown, hts, ⟨hK, hN⟩, hA, hc1, hs1, hf1, hl1, hlk, hrt⟩ := h
  intro ls st x ls' st' x' hf k Lx H locs hl hP hD hS
  unfold f_alen at hf
  split at hf
  · next i r =>
    split at hf
    · next t n hsh =>
      split at hf
      · next ht =>
        cases hf
        have hi : i < 96 := shp_lt hsh ht.2
        have hw := wd_get (a := a) (tc := tc) (x := x) hi
        match t, ht.1 with
        | 0, _ => rw [ent_i hsh] at hw; exact va_alen hx hb hK hP i 0 hw rfl rfl hd (k Lx H locs hl hP hD hS)
        | 1, _ => rw [ent_d hsh] at hw; exact va_alen hx hb hK hP i 1 hw rfl rfl hd (k Lx H locs hl hP hD hS)
        | 2, _ => rw [ent_l hsh] at hw; exact va_alen hx hb hK hP i 2 hw rfl rfl hd (k Lx H locs hl hP hD hS)
        | 3, _ => rw [ent_q hsh] at hw; exact va_alen hx hb hK hP i 3 hw rfl rfl hd (k Lx H locs hl hP hD hS)
      · cases hf
    · cases hf
  · cases hf
def b_icmp_ge : B1 := fun st => match st with
  | .int y :: .int z :: r => some (y ≤ z, r)
  | _ => none
theorem sb_icmp_ge {X : Ctx} {M : MI} (h : sCx X M) {pc tgt : Nat} {off : Int} (hd : decode M.2.1 pc = .ok (.if_icmp .ge off, 3)) (ht : (pc : Int) + off = (tgt : Int)) : Brn X M pc tgt (pc + 3) b_icmp_ge := by
  obtain ⟨p, l, e, R, s, m, args, below, meth, c, G, a, tc, A, H0, cells, slots, Q⟩ := X
  obtain ⟨hx, hb, hml, hown, hts, ⟨hK, hN⟩, hA, hc1, hs1, hf1, hl1, hlk, hrt⟩ := h
  intro ls st x P r hf kt kf Lx H locs hl hP hD hS
  unfold b_icmp_ge at hf
  split at hf
  · cases hf
    exact lv_icmp_ge hx hb hd ht (fun q => kt q Lx H locs hl hP hD hS) (fun q => kf q Lx H locs hl hP hD hS)
  · cases hf
def b_icmp_gt : B1 := fun st => match st with
  | .int y :: .int z :: r => some (y < z, r)
  | _ => none
theorem sb_icmp_gt {X : Ctx} {M : MI} (h : sCx X M) {pc tgt : Nat} {off : Int} (hd : decode M.2.1 pc = .ok (.if_icmp .gt off, 3)) (ht : (pc : Int) + off = (tgt : Int)) : Brn X M pc tgt (pc + 3) b_icmp_gt := by
  obtain ⟨p, l, e, R, s, m, args, below, meth, c, G, a, tc, A, H0, cells, slots, Q⟩ := X
  obtain ⟨hx, hb, hml, hown, hts, ⟨hK, hN⟩, hA, hc1, hs1, hf1, hl1, hlk, hrt⟩ := h
  intro ls st x P r hf kt kf Lx H locs hl hP hD hS
  unfold b_icmp_gt at hf
  split at hf
  · cases hf
    exact lv_icmp_gt hx hb hd ht (fun q => kt q Lx H locs hl hP hD hS) (fun q => kf q Lx H locs hl hP hD hS)
  · cases hf
def b_icmp_le : B1 := fun st => match st with
  | .int y :: .int z :: r => some (z ≤ y, r)
  | _ => none
theorem sb_icmp_le {X : Ctx} {M : MI} (h : sCx X M) {pc tgt : Nat} {off : Int} (hd : decode M.2.1 pc = .ok (.if_icmp .le off, 3)) (ht : (pc : Int) + off = (tgt : Int)) : Brn X M pc tgt (pc + 3) b_icmp_le := by
  obtain ⟨p, l, e, R, s, m, args, below, meth, c, G, a, tc, A, H0, cells, slots, Q⟩ := X
  obtain ⟨hx, hb, hml, hown, hts, ⟨hK, hN⟩, hA, hc1, hs1, hf1, hl1, hlk, hrt⟩ := h
  intro ls st x P r hf kt kf Lx H locs hl hP hD hS
  unfold b_icmp_le at hf
  split at hf
  · cases hf
    exact lv_icmp_le hx hb hd ht (fun q => kt q Lx H locs hl hP hD hS) (fun q => kf q Lx H locs hl hP hD hS)
  · cases hf
def b_icmp_lt : B1 := fun st => match st with
  | .int y :: .int z :: r => some (z < y, r)
  | _ => none
theorem sb_icmp_lt {X : Ctx} {M : MI} (h : sCx X M) {pc tgt : Nat} {off : Int} (hd : decode M.2.1 pc = .ok (.if_icmp .lt off, 3)) (ht : (pc : Int) + off = (tgt : Int)) : Brn X M pc tgt (pc + 3) b_icmp_lt := by
  obtain ⟨p, l, e, R, s, m, args, below, meth, c, G, a, tc, A, H0, cells, slots, Q⟩ := X
  obtain ⟨hx, hb, hml, hown, hts, ⟨hK, hN⟩, hA, hc1, hs1, hf1, hl1, hlk, hrt⟩ := h
  intro ls st x P r hf kt kf Lx H locs hl hP hD hS
  unfold b_icmp_lt at hf
  split at hf
  · cases hf
    exact lv_icmp_lt hx hb hd ht (fun q => kt q Lx H locs hl hP hD hS) (fun q => kf q Lx H locs hl hP hD hS)
  · cases hf
def b_icmp_eq : B1 := fun st => match st with
  | .int y :: .int z :: r => some (z = y, r)
  | _ => none
theorem sb_icmp_eq {X : Ctx} {M : MI} (h : sCx X M) {pc tgt : Nat} {off : Int} (hd : decode M.2.1 pc = .ok (.if_icmp .eq off, 3)) (ht : (pc : Int) + off = (tgt : Int)) : Brn X M pc tgt (pc + 3) b_icmp_eq := by
  obtain ⟨p, l, e, R, s, m, args, below, meth, c, G, a, tc, A, H0, cells, slots, Q⟩ := X
  obtain ⟨hx, hb, hml, hown, hts, ⟨hK, hN⟩, hA, hc1, hs1, hf1, hl1, hlk, hrt⟩ := h
  intro ls st x P r hf kt kf Lx H locs hl hP hD hS
  unfold b_icmp_eq at hf
  split at hf
  · cases hf
    exact lv_icmp_eq hx hb hd ht (fun q => kt q Lx H locs hl hP hD hS) (fun q => kf q Lx H locs hl hP hD hS)
  · cases hf
def b_if_ge : B1 := fun st => match st with
  | .int z :: r => some (0 ≤ z, r)
  | _ => none
theorem sb_if_ge {X : Ctx} {M : MI} (h : sCx X M) {pc tgt : Nat} {off : Int} (hd : decode M.2.1 pc = .ok (.ifCond .ge off, 3)) (ht : (pc : Int) + off = (tgt : Int)) : Brn X M pc tgt (pc + 3) b_if_ge := by
  obtain ⟨p, l, e, R, s, m, args, below, meth, c, G, a, tc, A, H0, cells, slots, Q⟩ := X
  obtain ⟨hx, hb, hml, hown, hts, ⟨hK, hN⟩, hA, hc1, hs1, hf1, hl1, hlk, hrt⟩ := h
  intro ls st x P r hf kt kf Lx H locs hl hP hD hS
  unfold b_if_ge at hf
  split at hf
  · cases hf
    exact lv_if_ge hx hb hd ht (fun q => kt q Lx H locs hl hP hD hS) (fun q => kf q Lx H locs hl hP hD hS)
  · cases hf
def b_if_gt : B1 := fun st => match st with
  | .int z :: r => some (0 < z, r)
  | _ => none
theorem sb_if_gt {X : Ctx} {M : MI} (h : sCx X M) {pc tgt : Nat} {off : Int} (hd : decode M.2.1 pc = .ok (.ifCond .gt off, 3)) (ht : (pc : Int) + off = (tgt : Int)) : Brn X M pc tgt (pc + 3) b_if_gt := by
  obtain ⟨p, l, e, R, s, m, args, below, meth, c, G, a, tc, A, H0, cells, slots, Q⟩ := X
  obtain ⟨hx, hb, hml, hown, hts, ⟨hK, hN⟩, hA, hc1, hs1, hf1, hl1, hlk, hrt⟩ := h
  intro ls st x P r hf kt kf Lx H locs hl hP hD hS
  unfold b_if_gt at hf
  split at hf
  · cases hf
    exact lv_if_gt hx hb hd ht (fun q => kt q Lx H locs hl hP hD hS) (fun q => kf q Lx H locs hl hP hD hS)
  · cases hf
def b_if_le : B1 := fun st => match st with
  | .int z :: r => some (z ≤ 0, r)
  | _ => none
theorem sb_if_le {X : Ctx} {M : MI} (h : sCx X M) {pc tgt : Nat} {off : Int} (hd : decode M.2.1 pc = .ok (.ifCond .le off, 3)) (ht : (pc : Int) + off = (tgt : Int)) : Brn X M pc tgt (pc + 3) b_if_le := by
  obtain ⟨p, l, e, R, s, m, args, below, meth, c, G, a, tc, A, H0, cells, slots, Q⟩ := X
  obtain ⟨hx, hb, hml, hown, hts, ⟨hK, hN⟩, hA, hc1, hs1, hf1, hl1, hlk, hrt⟩ := h
  intro ls st x P r hf kt kf Lx H locs hl hP hD hS
  unfold b_if_le at hf
  split at hf
  · cases hf
    exact lv_if_le hx hb hd ht (fun q => kt q Lx H locs hl hP hD hS) (fun q => kf q Lx H locs hl hP hD hS)
  · cases hf
def b_if_lt : B1 := fun st => match st with
  | .int z :: r => some (z < 0, r)
  | _ => none
theorem sb_if_lt {X : Ctx} {M : MI} (h : sCx X M) {pc tgt : Nat} {off : Int} (hd : decode M.2.1 pc = .ok (.ifCond .lt off, 3)) (ht : (pc : Int) + off = (tgt : Int)) : Brn X M pc tgt (pc + 3) b_if_lt := by
  obtain ⟨p, l, e, R, s, m, args, below, meth, c, G, a, tc, A, H0, cells, slots, Q⟩ := X
  obtain ⟨hx, hb, hml, hown, hts, ⟨hK, hN⟩, hA, hc1, hs1, hf1, hl1, hlk, hrt⟩ := h
  intro ls st x P r hf kt kf Lx H locs hl hP hD hS
  unfold b_if_lt at hf
  split at hf
  · cases hf
    exact lv_if_lt hx hb hd ht (fun q => kt q Lx H locs hl hP hD hS) (fun q => kf q Lx H locs hl hP hD hS)
  · cases hf
def b_if_eq : B1 := fun st => match st with
  | .int z :: r => some (z = 0, r)
  | _ => none
theorem sb_if_eq {X : Ctx} {M : MI} (h : sCx X M) {pc tgt : Nat} {off : Int} (hd : decode M.2.1 pc = .ok (.ifCond .eq off, 3)) (ht : (pc : Int) + off = (tgt : Int)) : Brn X M pc tgt (pc + 3) b_if_eq := by
  obtain ⟨p, l, e, R, s, m, args, below, meth, c, G, a, tc, A, H0, cells, slots, Q⟩ := X
  obtain ⟨hx, hb, hml, hown, hts, ⟨hK, hN⟩, hA, hc1, hs1, hf1, hl1, hlk, hrt⟩ := h
  intro ls st x P r hf kt kf Lx H locs hl hP hD hS
  unfold b_if_eq at hf
  split at hf
  · cases hf
    exact lv_if_eq hx hb hd ht (fun q => kt q Lx H locs hl hP hD hS) (fun q => kf q Lx H locs hl hP hD hS)
  · cases hf
theorem sb_icmp_ne {X : Ctx} {M : MI} (h : sCx X M) {pc tgt : Nat} {off : Int} (hd : decode M.2.1 pc = .ok (.if_icmp .ne off, 3)) (ht : (pc : Int) + off = (tgt : Int)) : Brn X M pc (pc + 3) tgt b_icmp_eq := by
  obtain ⟨p, l, e, R, s, m, args, below, meth, c, G, a, tc, A, H0, cells, slots, Q⟩ := X
  obtain ⟨hx, hb, hml, hown, hts, ⟨hK, hN⟩, hA, hc1, hs1, hf1, hl1, hlk, hrt⟩ := h
  intro ls st x P r hf kt kf Lx H locs hl hP hD hS
  unfold b_icmp_eq at hf
  split at hf
  · cases hf
    exact lv_icmp_ne hx hb hd ht (fun q => kf q Lx H locs hl hP hD hS) (fun q => kt q Lx H locs hl hP hD hS)
  · cases hf
theorem sb_if_ne {X : Ctx} {M : MI} (h : sCx X M) {pc tgt : Nat} {off : Int} (hd : decode M.2.1 pc = .ok (.ifCond .ne off, 3)) (ht : (pc : Int) + off = (tgt : Int)) : Brn X M pc (pc + 3) tgt b_if_eq := by
  obtain ⟨p, l, e, R, s, m, args, below, meth, c, G, a, tc, A, H0, cells, slots, Q⟩ := X
  obtain ⟨hx, hb, hml, hown, hts, ⟨hK, hN⟩, hA, hc1, hs1, hf1, hl1, hlk, hrt⟩ := h
  intro ls st x P r hf kt kf Lx H locs hl hP hD hS
  unfold b_if_eq at hf
  split at hf
  · cases hf
    exact lv_if_ne hx hb hd ht (fun q => kf q Lx H locs hl hP hD hS) (fun q => kt q Lx H locs hl hP hD hS)
  · cases hf
end
section
/-! rows with a condition: places of arrays, numbers that are no NaN, divisors; calls; ends -/
abbrev E1 : Type := (F1 × Nat) ⊕ (B1 × Nat × Nat) ⊕ (Nat × Nat × Nat × MI) ⊕ (Int × List Nat × Nat)
abbrev Kx : Type := Launch × va_G × (Nat → Nat) × (Nat → ClassId)
def xk (X : Ctx) : Kx := match X with
  | (p, l, e, R, s, m, args, below, meth, c, G, a, tc, A, H0, cells, slots, Q) => (l, G, a, tc)
def ok_iaload (X : Ctx) (M : MI) (pc pc' : Nat) : Prop := ∀ (ls : Lo) (r : List Value) (x : Hp) (i n : Nat) (j : Int32), shp i = .inl (0, n) → vp_in j n → SW X M pc' ls (.int (x.1 i j.toNatClampNeg) :: r) x → SW X M pc ls (.int j :: .ref i :: r) x
theorem so_iaload {X : Ctx} {M : MI} (h : sCx X M) {pc : Nat} (hd : decode M.2.1 pc = .ok (.iaload, 1)) : ok_iaload X M pc (pc + 1) := by
  obtain ⟨p, l, e, R, s, m, args, below, meth, c, G, a, tc, A, H0, cells, slots, Q⟩ := X
  obtain ⟨hx, hb, hml, hown, hts, ⟨hK, hN⟩, hA, hc1, hs1, hf1, hl1, hlk, hrt⟩ := h
  intro ls r x i n j hsh hj k Lx H locs hl hP hD hS
  have hi : i < 96 := shp_lt hsh (by rintro rfl; exact hj (Or.inr (Nat.zero_le _)))
  have hw := wd_get (a := a) (tc := tc) (x := x) hi
  rw [ent_i hsh] at hw
  exact va_iald hx hb hK hP i 0 hw rfl hj hd (k Lx H locs hl hP hD hS)
def ok_daload (X : Ctx) (M : MI) (pc pc' : Nat) : Prop := ∀ (ls : Lo) (r : List Value) (x : Hp) (i n : Nat) (j : Int32), shp i = .inl (1, n) → vp_in j n → SW X M pc' ls (.double (x.2.1 i j.toNatClampNeg) :: r) x → SW X M pc ls (.int j :: .ref i :: r) x
theorem so_daload {X : Ctx} {M : MI} (h : sCx X M) {pc : Nat} (hd : decode M.2.1 pc = .ok (.daload, 1)) : ok_daload X M pc (pc + 1) := by
  obtain ⟨p, l, e, R, s, m, args, below, meth, c, G, a, tc, A, H0, cells, slots, Q⟩ := X
  obtain ⟨hx, hb, hml, hown, hts, ⟨hK, hN⟩, hA, hc1, hs1, hf1, hl1, hlk, hrt⟩ := h
  intro ls r x i n j hsh hj k Lx H locs hl hP hD hS
  have hi : i < 96 := shp_lt hsh (by rintro rfl; exact hj (Or.inr (Nat.zero_le _)))
  have hw := wd_get (a := a) (tc := tc) (x := x) hi
  rw [ent_d hsh] at hw
  exact va_dald hx hb hK hP i 1 hw rfl hj hd (k Lx H locs hl hP hD hS)
def ok_laload (X : Ctx) (M : MI) (pc pc' : Nat) : Prop := ∀ (ls : Lo) (r : List Value) (x : Hp) (i n : Nat) (j : Int32), shp i = .inl (2, n) → vp_in j n → SW X M pc' ls (.long (x.2.2 i j.toNatClampNeg) :: r) x → SW X M pc ls (.int j :: .ref i :: r) x
theorem so_laload {X : Ctx} {M : MI} (h : sCx X M) {pc : Nat} (hd : decode M.2.1 pc = .ok (.laload, 1)) : ok_laload X M pc (pc + 1) := by
  obtain ⟨p, l, e, R, s, m, args, below, meth, c, G, a, tc, A, H0, cells, slots, Q⟩ := X
  obtain ⟨hx, hb, hml, hown, hts, ⟨hK, hN⟩, hA, hc1, hs1, hf1, hl1, hlk, hrt⟩ := h
  intro ls r x i n j hsh hj k Lx H locs hl hP hD hS
  have hi : i < 96 := shp_lt hsh (by rintro rfl; exact hj (Or.inr (Nat.zero_le _)))
  have hw := wd_get (a := a) (tc := tc) (x := x) hi
  rw [ent_l hsh] at hw
  exact va_lald hx hb hK hP i 2 hw rfl hj hd (k Lx H locs hl hP hD hS)
def ok_aaload (X : Ctx) (M : MI) (pc pc' : Nat) : Prop := ∀ (ls : Lo) (r : List Value) (x : Hp) (i n : Nat) (j : Int32), shp i = .inl (3, n) → vp_in j n → SW X M pc' ls (.ref (16 + 15 * j.toNatClampNeg) :: r) x → SW X M pc ls (.int j :: .ref i :: r) x
theorem so_aaload {X : Ctx} {M : MI} (h : sCx X M) {pc : Nat} (hd : decode M.2.1 pc = .ok (.aaload, 1)) : ok_aaload X M pc (pc + 1) := by
  obtain ⟨p, l, e, R, s, m, args, below, meth, c, G, a, tc, A, H0, cells, slots, Q⟩ := X
  obtain ⟨hx, hb, hml, hown, hts, ⟨hK, hN⟩, hA, hc1, hs1, hf1, hl1, hlk, hrt⟩ := h
  intro ls r x i n j hsh hj k Lx H locs hl hP hD hS
  have hi : i < 96 := shp_lt hsh (by rintro rfl; exact hj (Or.inr (Nat.zero_le _)))
  have hw := wd_get (a := a) (tc := tc) (x := x) hi
  rw [ent_q hsh] at hw
  exact va_aldq hx hb hK hP i 3 hw rfl hj hd (k Lx H locs hl hP hD hS)
def ok_iastore (X : Ctx) (M : MI) (pc pc' : Nat) : Prop := ∀ (ls : Lo) (r : List Value) (x : Hp) (i n : Nat) (j : Int32) (v : Int32), shp i = .inl (0, n) → vp_in j n → SW X M pc' ls r (u2 x.1 i j.toNatClampNeg v, x.2) → SW X M pc ls (.int v :: .int j :: .ref i :: r) x
theorem so_iastore {X : Ctx} {M : MI} (h : sCx X M) {pc : Nat} (hd : decode M.2.1 pc = .ok (.iastore, 1)) : ok_iastore X M pc (pc + 1) := by
  obtain ⟨p, l, e, R, s, m, args, below, meth, c, G, a, tc, A, H0, cells, slots, Q⟩ := X
  obtain ⟨hx, hb, hml, hown, hts, ⟨hK, hN⟩, hA, hc1, hs1, hf1, hl1, hlk, hrt⟩ := h
  intro ls r x i n j v hsh hj k Lx H locs hl hP hD hS
  have hi : i < 96 := shp_lt hsh (by rintro rfl; exact hj (Or.inr (Nat.zero_le _)))
  have hw := wd_get (a := a) (tc := tc) (x := x) hi
  rw [ent_i hsh] at hw
  refine va_iast hx hb hK hP hD hS i 0 hw rfl hj hd (fun H1 locs1 hP1 hD1 hS1 => ?_)
  rw [wd_setI hi hsh] at hP1 hD1
  exact k Lx H1 locs1 hl hP1 hD1 hS1
def ok_dastore (X : Ctx) (M : MI) (pc pc' : Nat) : Prop := ∀ (ls : Lo) (r : List Value) (x : Hp) (i n : Nat) (j : Int32) (v : UInt64), shp i = .inl (1, n) → vp_in j n → SW X M pc' ls r (x.1, u2 x.2.1 i j.toNatClampNeg v, x.2.2) → SW X M pc ls (.double v :: .int j :: .ref i :: r) x
theorem so_dastore {X : Ctx} {M : MI} (h : sCx X M) {pc : Nat} (hd : decode M.2.1 pc = .ok (.dastore, 1)) : ok_dastore X M pc (pc + 1) := by
  obtain ⟨p, l, e, R, s, m, args, below, meth, c, G, a, tc, A, H0, cells, slots, Q⟩ := X
  obtain ⟨hx, hb, hml, hown, hts, ⟨hK, hN⟩, hA, hc1, hs1, hf1, hl1, hlk, hrt⟩ := h
  intro ls r x i n j v hsh hj k Lx H locs hl hP hD hS
  have hi : i < 96 := shp_lt hsh (by rintro rfl; exact hj (Or.inr (Nat.zero_le _)))
  have hw := wd_get (a := a) (tc := tc) (x := x) hi
  rw [ent_d hsh] at hw
  refine va_dast hx hb hK hP hD hS i 1 hw rfl hj hd (fun H1 locs1 hP1 hD1 hS1 => ?_)
  rw [wd_setD hi hsh] at hP1 hD1
  exact k Lx H1 locs1 hl hP1 hD1 hS1
def ok_lastore (X : Ctx) (M : MI) (pc pc' : Nat) : Prop := ∀ (ls : Lo) (r : List Value) (x : Hp) (i n : Nat) (j : Int32) (v : Int64), shp i = .inl (2, n) → vp_in j n → SW X M pc' ls r (x.1, x.2.1, u2 x.2.2 i j.toNatClampNeg v) → SW X M pc ls (.long v :: .int j :: .ref i :: r) x
theorem so_lastore {X : Ctx} {M : MI} (h : sCx X M) {pc : Nat} (hd : decode M.2.1 pc = .ok (.lastore, 1)) : ok_lastore X M pc (pc + 1) := by
  obtain ⟨p, l, e, R, s, m, args, below, meth, c, G, a, tc, A, H0, cells, slots, Q⟩ := X
  obtain ⟨hx, hb, hml, hown, hts, ⟨hK, hN⟩, hA, hc1, hs1, hf1, hl1, hlk, hrt⟩ := h
  intro ls r x i n j v hsh hj k Lx H locs hl hP hD hS
  have hi : i < 96 := shp_lt hsh (by rintro rfl; exact hj (Or.inr (Nat.zero_le _)))
  have hw := wd_get (a := a) (tc := tc) (x := x) hi
  rw [ent_l hsh] at hw
  refine va_last hx hb hK hP hD hS i 2 hw rfl hj hd (fun H1 locs1 hP1 hD1 hS1 => ?_)
  rw [wd_setL hi hsh] at hP1 hD1
  exact k Lx H1 locs1 hl hP1 hD1 hS1
def ok_dadd (X : Ctx) (M : MI) (pc pc' : Nat) : Prop := ∀ (ls : Lo) (r : List Value) (x : Hp) (y z : UInt64), vf_n64 (FP.dadd z y) → SW X M pc' ls (.double (FP.dadd z y) :: r) x → SW X M pc ls (.double y :: .double z :: r) x
theorem so_dadd {X : Ctx} {M : MI} (h : sCx X M) {pc : Nat} (hd : decode M.2.1 pc = .ok (.dadd, 1)) : ok_dadd X M pc (pc + 1) := by
  obtain ⟨p, l, e, R, s, m, args, below, meth, c, G, a, tc, A, H0, cells, slots, Q⟩ := X
  obtain ⟨hx, hb, hml, hown, hts, ⟨hK, hN⟩, hA, hc1, hs1, hf1, hl1, hlk, hrt⟩ := h
  intro ls r x y z hn k Lx H locs hl hP hD hS
  exact lv_dadd hx hb hd hn (k Lx H locs hl hP hD hS)
def ok_dsub (X : Ctx) (M : MI) (pc pc' : Nat) : Prop := ∀ (ls : Lo) (r : List Value) (x : Hp) (y z : UInt64), vf_n64 (FP.dsub z y) → SW X M pc' ls (.double (FP.dsub z y) :: r) x → SW X M pc ls (.double y :: .double z :: r) x
theorem so_dsub {X : Ctx} {M : MI} (h : sCx X M) {pc : Nat} (hd : decode M.2.1 pc = .ok (.dsub, 1)) : ok_dsub X M pc (pc + 1) := by
  obtain ⟨p, l, e, R, s, m, args, below, meth, c, G, a, tc, A, H0, cells, slots, Q⟩ := X
  obtain ⟨hx, hb, hml, hown, hts, ⟨hK, hN⟩, hA, hc1, hs1, hf1, hl1, hlk, hrt⟩ := h
  intro ls r x y z hn k Lx H locs hl hP hD hS
  exact lv_dsub hx hb hd hn (k Lx H locs hl hP hD hS)
def ok_dmul (X : Ctx) (M : MI) (pc pc' : Nat) : Prop := ∀ (ls : Lo) (r : List Value) (x : Hp) (y z : UInt64), vf_n64 (FP.dmul z y) → SW X M pc' ls (.double (FP.dmul z y) :: r) x → SW X M pc ls (.double y :: .double z :: r) x
theorem so_dmul {X : Ctx} {M : MI} (h : sCx X M) {pc : Nat} (hd : decode M.2.1 pc = .ok (.dmul, 1)) : ok_dmul X M pc (pc + 1) := by
  obtain ⟨p, l, e, R, s, m, args, below, meth, c, G, a, tc, A, H0, cells, slots, Q⟩ := X
  obtain ⟨hx, hb, hml, hown, hts, ⟨hK, hN⟩, hA, hc1, hs1, hf1, hl1, hlk, hrt⟩ := h
  intro ls r x y z hn k Lx H locs hl hP hD hS
  exact lv_dmul hx hb hd hn (k Lx H locs hl hP hD hS)
def ok_ddiv (X : Ctx) (M : MI) (pc pc' : Nat) : Prop := ∀ (ls : Lo) (r : List Value) (x : Hp) (y z : UInt64), vf_n64 (FP.ddiv z y) → SW X M pc' ls (.double (FP.ddiv z y) :: r) x → SW X M pc ls (.double y :: .double z :: r) x
theorem so_ddiv {X : Ctx} {M : MI} (h : sCx X M) {pc : Nat} (hd : decode M.2.1 pc = .ok (.ddiv, 1)) : ok_ddiv X M pc (pc + 1) := by
  obtain ⟨p, l, e, R, s, m, args, below, meth, c, G, a, tc, A, H0, cells, slots, Q⟩ := X
  obtain ⟨hx, hb, hml, hown, hts, ⟨hK, hN⟩, hA, hc1, hs1, hf1, hl1, hlk, hrt⟩ := h
  intro ls r x y z hn k Lx H locs hl hP hD hS
  exact lv_ddiv hx hb hd hn (k Lx H locs hl hP hD hS)
def ok_idiv (X : Ctx) (M : MI) (pc pc' : Nat) : Prop := ∀ (ls : Lo) (r : List Value) (x : Hp) (y z : Int32), ¬ y = 0 → SW X M pc' ls (.int (z / y) :: r) x → SW X M pc ls (.int y :: .int z :: r) x
theorem so_idiv {X : Ctx} {M : MI} (h : sCx X M) {pc : Nat} (hd : decode M.2.1 pc = .ok (.idiv, 1)) : ok_idiv X M pc (pc + 1) := by
  obtain ⟨p, l, e, R, s, m, args, below, meth, c, G, a, tc, A, H0, cells, slots, Q⟩ := X
  obtain ⟨hx, hb, hml, hown, hts, ⟨hK, hN⟩, hA, hc1, hs1, hf1, hl1, hlk, hrt⟩ := h
  intro ls r x y z hn k Lx H locs hl hP hD hS
  exact lv_idiv hx hb hd hn (k Lx H locs hl hP hD hS)
def ok_irem (X : Ctx) (M : MI) (pc pc' : Nat) : Prop := ∀ (ls : Lo) (r : List Value) (x : Hp) (y z : Int32), ¬ y = 0 → SW X M pc' ls (.int (z - z / y * y) :: r) x → SW X M pc ls (.int y :: .int z :: r) x
theorem so_irem {X : Ctx} {M : MI} (h : sCx X M) {pc : Nat} (hd : decode M.2.1 pc = .ok (.irem, 1)) : ok_irem X M pc (pc + 1) := by
  obtain ⟨p, l, e, R, s, m, args, below, meth, c, G, a, tc, A, H0, cells, slots, Q⟩ := X
  obtain ⟨hx, hb, hml, hown, hts, ⟨hK, hN⟩, hA, hc1, hs1, hf1, hl1, hlk, hrt⟩ := h
  intro ls r x y z hn k Lx H locs hl hP hD hS
  exact lv_irem hx hb hd hn (k Lx H locs hl hP hD hS)
/-! contracts -/
def wsN (M : MI) : List Cond := .code M.1 M.2.1 M.2.2.1 M.2.2.2.1 :: gw
def rmN (d : Nat) : Room := { frames := d, cells := 0, slots := 0, locals := 38 * d }
def sQ (Y : Kx) (A : Nat → Prop) (r : Option Value) (x : Hp) : Array Value → State → Outcome → State → Prop := fun _ st o t => o = .returned (r.map (rv Y.2.2.1)) ∧ (va_P Y.2.1 vwCl (wd Y.2.2.1 Y.2.2.2 x) t.heap ∧ va_D A (wd Y.2.2.1 Y.2.2.2 x)) ∧ va_F A st t
def sP (Y : Kx) (args : List Value) (x : Hp) (sz : Nat) : Array Value → State → Prop := va_Pc (args.map (rv Y.2.2.1)) (fun U => U.heap.size = sz ∧ va_P Y.2.1 vwCl (wd Y.2.2.1 Y.2.2.2 x) U.heap ∧ wK Y.2.1 Y.2.2.2 U ∧ va_D (fun _ => True) (wd Y.2.2.1 Y.2.2.2 x))
/-- from x with these arguments the method answers r, and x' is behind it -/
def sM (Y : Kx) (M : MI) (args : List Value) (x : Hp) (r : Option Value) (x' : Hp) : Prop := ∀ sz : Nat, Met Y.1 M.1 (wsN M) (rmN M.2.2.2.2) (sP Y args x sz) (sQ Y (va_A (wd Y.2.2.1 Y.2.2.2 x) sz) r x') 0 0 (va_A (wd Y.2.2.1 Y.2.2.2 x) sz)
theorem sP_blind {Y : Kx} {args : List Value} {x : Hp} {sz : Nat} : FrameBlind (sP Y args x sz) := by
  intro av U g mk q
  obtain ⟨q0, q1, qP, ⟨qK, qN⟩, qD⟩ := q
  exact ⟨q0, q1, qP, ⟨va_K.moved (u := U) (U := U.calling g mk av) (Vm.Alike.refl U.vm) qK, va_Nw.same rfl (rfl : U.vm = (U.calling g mk av).vm) qN.1, va_Nw.same rfl (rfl : U.vm = (U.calling g mk av).vm) qN.2.1, va_Nw.same rfl (rfl : U.vm = (U.calling g mk av).vm) qN.2.2⟩, qD⟩
theorem wK_warm {G : va_G} {tc : Nat → ClassId} {s U : State} (hW : s.WarmedH U.vm) (h : wK G tc s) : wK G tc U :=
  ⟨va_K.moved hW.alike h.1, va_Nw.warmM hW h.2.1, va_Nw.warmM hW h.2.2.1, va_Nw.warmM hW h.2.2.2⟩
theorem wd_A {a : Nat → Nat} {tc : Nat → ClassId} {x x' : Hp} {sz : Nat} {q : Nat} (h : va_A (wd a tc x) sz q) : va_A (wd a tc x') sz q := by
  rcases h with ⟨k, E, hk⟩ | h
  · obtain ⟨h1, h2⟩ := wd_some hk
    exact Or.inl ⟨k, ent a tc x' k, by rw [wd_get h1]; exact congrArg (fun z => some (z, ent a tc x' k)) (congrArg Prod.fst h2 : q = a k).symm⟩
  · exact Or.inr h
def retOK (X : Ctx) (r : Option Value) (x' : Hp) : Prop := match X with
  | (p, l, e, R, s, m, args, below, meth, c, G, a, tc, A, H0, cells, slots, Q) => H0 = s.heap ∧ Q = MQ below (sQ (l, G, a, tc) A r x') args s cells slots A
theorem lm_args (a : Nat → Nat) : ∀ (i : Nat) (vs : List Value), lv_args i (vs.map (rv a)) = lm a (lv_args i vs)
  | _, [] => rfl
  | i, v :: vs => by
    show (i, rv a v) :: lv_args (if (rv a v).category = 2 then i + 2 else i + 1) (vs.map (rv a)) = lm a ((i, v) :: lv_args (if v.category = 2 then i + 2 else i + 1) vs)
    rw [rv_cat, lm_args a _ vs]
    rfl
theorem sl_len (a : Nat → Nat) : ∀ (vs : List Value), (lg_sl (vs.map (rv a))).length = (lg_sl vs).length
  | [] => rfl
  | v :: vs => by
    have h := sl_len a vs
    unfold lg_sl at h ⊢
    simp only [List.map_cons, List.flatMap_cons, List.length_append, rv_cat, h]
    by_cases hv : v.category = 2
    · simp only [hv, if_true]; rfl
    · simp only [hv, if_false]; rfl
set_option maxHeartbeats 1000000 in
theorem sM_of {Y : Kx} {M : MI} {as : List Value} {x : Hp} {r : Option Value} {x' : Hp} (hy : plainName M.1.cls = true) (hn : (lg_sl as).length ≤ M.2.2.1)
    (body : ∀ X : Ctx, sCx X M → xk X = Y → retOK X r x' → SW X M 0 (lv_args 0 as) [] x) : sM Y M as x r x' := by
  intro sz
  obtain ⟨l, G, a, tc⟩ := Y
  refine Met.ofW (cc := M.2.1) (maxL := M.2.2.1) (ret := M.2.2.2.1) hy rfl ?_
  intro p e s m args below meth c s₁ B hml hv
  obtain ⟨rfl, hsz, hP, hK, hD0⟩ := hv
  have hts := atoms_spec (ws := wsN M) B.pre
  subst hsz
  have hD := hD0.self (sz := s.heap.size)
  have hcx : sCx (p, l, e, rmN M.2.2.2.2, s, m, (as.map (rv a)).toArray, below, meth, c, G, a, tc, va_A (wd a tc x) s.heap.size, s.heap, 0, 0, MQ below (sQ (l, G, a, tc) (va_A (wd a tc x) s.heap.size) r x') (as.map (rv a)).toArray s 0 0 (va_A (wd a tc x) s.heap.size)) M :=
    ⟨B.exec, B.bytes, hml, findClass_of_methodNamed B.named, fun w hw => hts w (List.mem_cons_of_mem _ hw), hK, fun q h => Or.inr h, Nat.zero_le _, Nat.zero_le _, rfl, rfl, B.notSynchronized, B.returns⟩
  have hl := lv_entry (as.map (rv a)) (n := M.2.2.1) (by rw [sl_len]; exact hn)
  rw [lm_args] at hl
  show W p l e (rmN M.2.2.2.2) s m _ below meth c s.heap [] 0 0 _ (entryFrame m (as.map (rv a)).toArray M.2.2.1)
  rw [lg_entry_eq]
  exact body _ hcx rfl ⟨rfl, rfl⟩ _ s.heap [] hl hP hD va_S.rf
/-- a call's answer, seen from the caller -/
def okCall (X : Ctx) (M : MI) (pc pc' n : Nat) (M2 : MI) (C : String) : Prop := ∀ (ls : Lo) (as st rest : List Value) (x : Hp) (r : Option Value) (x' : Hp), sM (xk X) M2 as x r x' → st = as.reverse ++ rest → as.length = n → (C = "" ∨ ∃ (i : Nat) (bs : List Value) (ci : Nat) (ks : List Nat) (T : u_T) (N : Nat), as = .ref i :: bs ∧ shp i = .inr (ci, ks) ∧ vwCl[ci]? = some (C, T, N)) → (rest.map Value.category).sum ≤ 8 → SW X M pc' ls (r.toList ++ rest) x' → SW X M pc ls st x
theorem cat_rv (a : Nat → Nat) (l : List Value) : ((l.map (rv a)).map Value.category).sum = (l.map Value.category).sum := by
  rw [List.map_map]
  congr 1
  apply List.map_congr_left
  intro v _
  exact rv_cat a v
theorem tl_rv (a : Nat → Nat) (r : Option Value) (rest : List Value) : (r.map (rv a)).toList ++ rest.map (rv a) = (r.toList ++ rest).map (rv a) := by cases r <;> simp
/-- behind a run of the callee -/
theorem call_on {p : Program} {l : Launch} {e : Env} {R : Room} {s : State} {m : MethodId} {args : Array Value} {below : List Frame} {meth : Method} {c : Code} {G : va_G} {a : Nat → Nat} {tc : Nat → ClassId} {A : Nat → Prop} {H0 H : Heap} {cells slots : Nat} {Q : State → Prop} {M : MI} {pc : Nat} {ls : Lo} {rest : List Value} {x x' : Hp} {r : Option Value} {Lx : Array Slot} {locs : List Loc} {st0 : List Value} {av : Array Value}
    (hA : ∀ q, H0.size ≤ q → A q) (hl : lv_has Lx M.2.2.1 (lm a ls)) (hD : va_D A (wd a tc x)) (hS : va_S A H0 H locs)
    (hr : va_Run p l e R s m args below meth c H locs cells slots 0 0 (F0 m pc Lx st0) (rest.map (rv a)) (sQ (l, G, a, tc) (va_A (wd a tc x) H.size) r x' av) (va_A (wd a tc x) H.size))
    (k : SW (p, l, e, R, s, m, args, below, meth, c, G, a, tc, A, H0, cells, slots, Q) M (pc + 3) ls (r.toList ++ rest) x') : W p l e R s m args below meth c H locs cells slots Q (F0 m pc Lx st0) := by
  have hf : ∀ q, va_A (wd a tc x) H.size q → A q := by
    intro q h
    rcases h with ⟨i, E, h⟩ | h
    · exact hD.2 i (q, E) h
    · exact hA q (Nat.le_trans hS.1 h)
  intro T hT X
  obtain ⟨v, st₀, t, T', L, h0, X', hL, e1, e2, ⟨hv, ⟨hP1, hD1⟩, hz, hk⟩, st⟩ := hr T hT X
  cases hv
  rw [h0] at hz hk
  dsimp only at hP1 hD1
  have k2 := k Lx T'.heap (locs ++ L) hl (by rw [e1]; exact hP1) (hD1.weaken (fun _ q _ h => hf q.1 h))
    ⟨Nat.le_trans hS.1 (by rw [e1]; exact hz), fun q h1 h2 => by rw [e1, hk q (Nat.lt_of_lt_of_le h1 hS.1) (fun z => h2 (hf q z))]; exact hS.2.1 q h1 h2, fun q hq => by
      rcases List.mem_append.mp hq with h | h
      · exact hS.2.2 q h
      · exact hf _ (hL q h)⟩
  obtain ⟨t2, a1, b1⟩ := k2 T' rfl X'
  refine ⟨t2, st t2 ?_, b1⟩
  have e5 : (Option.map (rv a) r).toList ++ rest.map (rv a) = (r.toList ++ rest).map (rv a) := tl_rv a r rest
  show Steps p.tables e below (T'.setTop (F0 m (pc + 3) Lx ((Option.map (rv a) r).toList ++ rest.map (rv a)))) t2
  rw [e5]
  exact a1
theorem so_callV {X : Ctx} {M M2 : MI} (h : sCx X M) {pc ix n : Nat} (w1 : Cond.methodLink M.1.cls ix M2.1 ∈ gw) (w2 : Cond.instanceMethod M2.1 ∈ gw) (w3 : Cond.selects M2.1.cls M2.1 M2.1 ∈ gw) (w4 : Cond.initialized M2.1.cls ∈ gw) (w5 : Cond.code M2.1 M2.2.1 M2.2.2.1 M2.2.2.2.1 ∈ gw)
    (hy : M2.1.cls ≠ "java/lang/invoke/MethodHandle" ∧ M2.1.cls ≠ "java/lang/invoke/VarHandle" ∧ (parseMethodDescriptor M2.1.desc).map (fun d => d.parameters.length) = some n ∧ M2.1.cls ≠ "") (hR : M2.2.2.2.2 + 1 ≤ M.2.2.2.2 ∧ 19 + M2.2.2.1 + 38 * M2.2.2.2.2 ≤ 38 * M.2.2.2.2)
    (hd : decode M.2.1 pc = .ok (.invokevirtual ix, 3)) : okCall X M pc (pc + 3) (n + 1) M2 M2.1.cls := by
  obtain ⟨p, l, e, R, s, m, args, below, meth, c, G, a, tc, A, H0, cells, slots, Q⟩ := X
  obtain ⟨hx, hb, hml, hown, hts, ⟨hK, hN⟩, hA, hc1, hs1, hf1, hl1, hlk, hrt⟩ := h
  intro ls as st rest x r x' hM hst hlen hrc hcat k Lx H locs hl hP hD hS
  rcases hrc with hrc | ⟨i, bs, ci, ks, T, N, rfl, hsh, hci⟩
  · exact absurd hrc hy.2.2.2
  subst hst
  have hi : i < 96 := shp_ltR hsh
  have he : (wd a tc x)[i]? = some (a i, .inr (ci, ks.mapIdx (fun k r => fkv a x i k r))) := by rw [wd_get hi, ent_o hsh]
  have hGd : GoodIn gw (wsV M.1.cls ix M2.1.cls M2.1 (wsN M2)) := by
    apply gw_in
    intro w hw
    simp only [wsV, wsN, List.cons_append, List.nil_append, List.mem_cons] at hw
    rcases hw with rfl | rfl | rfl | rfl | rfl | hw
    · exact w1
    · exact w2
    · exact w3
    · exact w4
    · exact w5
    · exact hw
  refine call_on (G := G) (tc := tc) (x := x) (x' := x') (r := r) (rest := rest) (M := M) (av := (Value.ref (a i) :: bs.map (rv a)).toArray) hA hl hD hS ?_ k
  refine va_runV (Ts := gw) (own := M.1.cls) (C := M2.1.cls) (b := a i) (As := bs.map (rv a)) (index := ix) (nL := M.2.2.1) (bytes := M2.2.1) (maxL := M2.2.2.1) (ret := M2.2.2.2.1) (n := n) ⟨hx, hb, hml, hown, hts⟩ (hM H.size) (cwV n hts hGd rfl rfl rfl ⟨rfl, hy.1, hy.2.1, hy.2.2.1⟩ ⟨by rw [hf1]; exact hR.1, by rw [hl1]; have := hR.2; show 8 + (M2.2.2.1 + 11) + 38 * M2.2.2.2.2 ≤ _; omega⟩) ⟨sP_blind, va_recv hK hP hci he, fun U hU hW => ⟨rfl, by rw [hU], by rw [hU]; exact hP, wK_warm hW ⟨hK, hN⟩, hD.weaken (fun _ _ _ _ => trivial)⟩⟩ rfl (by simpa using hlen) hl.1 ?_ ?_ hd ⟨hc1, hs1⟩
  · show ((Value.ref i :: bs).reverse ++ rest).map (rv a) = _
    simp [rv]
  · exact lv_room (by rw [cat_rv]; exact hcat)
theorem so_callS {X : Ctx} {M M2 : MI} (h : sCx X M) {pc ix n : Nat} (w1 : Cond.methodLink M.1.cls ix M2.1 ∈ gw) (w2 : Cond.static M2.1 ∈ gw) (w4 : Cond.initialized M2.1.cls ∈ gw) (w5 : Cond.code M2.1 M2.2.1 M2.2.2.1 M2.2.2.2.1 ∈ gw)
    (hy : M2.1.cls ≠ "java/lang/invoke/MethodHandle" ∧ M2.1.cls ≠ "java/lang/invoke/VarHandle" ∧ (parseMethodDescriptor M2.1.desc).map (fun d => d.parameters.length) = some n) (hR : M2.2.2.2.2 + 1 ≤ M.2.2.2.2 ∧ 19 + M2.2.2.1 + 38 * M2.2.2.2.2 ≤ 38 * M.2.2.2.2)
    (hd : decode M.2.1 pc = .ok (.invokestatic ix, 3)) : okCall X M pc (pc + 3) n M2 "" := by
  obtain ⟨p, l, e, R, s, m, args, below, meth, c, G, a, tc, A, H0, cells, slots, Q⟩ := X
  obtain ⟨hx, hb, hml, hown, hts, ⟨hK, hN⟩, hA, hc1, hs1, hf1, hl1, hlk, hrt⟩ := h
  intro ls as st rest x r x' hM hst hlen _ hcat k Lx H locs hl hP hD hS
  subst hst
  have hGd : GoodIn gw (va_wsS M.1.cls ix M2.1 (wsN M2)) := by
    apply gw_in
    intro w hw
    simp only [va_wsS, wsN, List.cons_append, List.nil_append, List.mem_cons] at hw
    rcases hw with rfl | rfl | rfl | rfl | hw
    · exact w1
    · exact w2
    · exact w4
    · exact w5
    · exact hw
  refine call_on (G := G) (tc := tc) (x := x) (x' := x') (r := r) (rest := rest) (M := M) (av := (as.map (rv a)).toArray) hA hl hD hS ?_ k
  refine va_runS (Ts := gw) (own := M.1.cls) (As := as.map (rv a)) (index := ix) (nL := M.2.2.1) (bytes := M2.2.1) (maxL := M2.2.2.1) (ret := M2.2.2.2.1) (n := n) ⟨hx, hb, hml, hown, hts⟩ (hM H.size) (va_cwS n hts hGd rfl rfl rfl ⟨hy.1, hy.2.1, hy.2.2⟩ ⟨by rw [hf1]; exact hR.1, by rw [hl1]; have := hR.2; show 8 + (M2.2.2.1 + 11) + 38 * M2.2.2.2.2 ≤ _; omega⟩) ⟨sP_blind, fun U hU hW => ⟨rfl, by rw [hU], by rw [hU]; exact hP, wK_warm hW ⟨hK, hN⟩, hD.weaken (fun _ _ _ _ => trivial)⟩⟩ rfl (by simpa using hlen) hl.1 ?_ ?_ hd ⟨hc1, hs1⟩
  · show (as.reverse ++ rest).map (rv a) = _
    simp
  · exact lv_room (by rw [cat_rv]; exact hcat)
theorem so_callN {X : Ctx} {M M2 : MI} (h : sCx X M) {pc ix n : Nat} {host : String} (w1 : ∀ s, nw3 s → va_Nw (.methodLinkNest M.1.cls ix M2.1 host) s) (w2 : Cond.static M2.1 ∈ gw) (w4 : Cond.initialized M2.1.cls ∈ gw) (w5 : Cond.code M2.1 M2.2.1 M2.2.2.1 M2.2.2.2.1 ∈ gw)
    (hy : M2.1.cls ≠ "java/lang/invoke/MethodHandle" ∧ M2.1.cls ≠ "java/lang/invoke/VarHandle" ∧ (parseMethodDescriptor M2.1.desc).map (fun d => d.parameters.length) = some n) (hR : M2.2.2.2.2 + 1 ≤ M.2.2.2.2 ∧ 19 + M2.2.2.1 + 38 * M2.2.2.2.2 ≤ 38 * M.2.2.2.2)
    (hd : decode M.2.1 pc = .ok (.invokestatic ix, 3)) : okCall X M pc (pc + 3) n M2 "" := by
  obtain ⟨p, l, e, R, s, m, args, below, meth, c, G, a, tc, A, H0, cells, slots, Q⟩ := X
  obtain ⟨hx, hb, hml, hown, hts, ⟨hK, hN⟩, hA, hc1, hs1, hf1, hl1, hlk, hrt⟩ := h
  intro ls as st rest x r x' hM hst hlen _ hcat k Lx H locs hl hP hD hS
  subst hst
  have hGd : GoodIn gw (wsN M2) := by
    apply gw_in
    intro w hw
    simp only [wsN, List.mem_cons] at hw
    rcases hw with rfl | hw
    · exact w5
    · exact hw
  refine call_on (G := G) (tc := tc) (x := x) (x' := x') (r := r) (rest := rest) (M := M) (av := (as.map (rv a)).toArray) hA hl hD hS ?_ k
  refine va_runSN (Ts := gw) (own := M.1.cls) (host := host) (As := as.map (rv a)) (index := ix) (nL := M.2.2.1) (bytes := M2.2.1) (maxL := M2.2.2.1) (ret := M2.2.2.2.1) (n := n) ⟨hx, hb, hml, hown, hts⟩ (hM H.size) ⟨va_cnB n hts hGd rfl rfl rfl (w1 s hN) (hts _ w4) ⟨hy.1, hy.2.1, hy.2.2⟩ ⟨by rw [hf1]; exact hR.1, by rw [hl1]; have := hR.2; show 8 + (M2.2.2.1 + 11) + 38 * M2.2.2.2.2 ≤ _; omega⟩, hts _ w2, trivial⟩ ⟨sP_blind, fun U hU hW => ⟨rfl, by rw [hU], by rw [hU]; exact hP, wK_warm hW ⟨hK, hN⟩, hD.weaken (fun _ _ _ _ => trivial)⟩⟩ rfl (by simpa using hlen) hl.1 ?_ ?_ hd ⟨hc1, hs1⟩
  · show (as.reverse ++ rest).map (rv a) = _
    simp
  · exact lv_room (by rw [cat_rv]; exact hcat)
/-! ends -/
def ok_dreturn (X : Ctx) (M : MI) (pc : Nat) : Prop := ∀ (ls : Lo) (x : Hp) (v : UInt64), M.2.2.2.1 = some .double → retOK X (some (.double v)) x → SW X M pc ls [.double v] x
theorem so_dreturn {X : Ctx} {M : MI} (h : sCx X M) {pc : Nat} (hd : decode M.2.1 pc = .ok (.dreturn, 1)) : ok_dreturn X M pc := by
  obtain ⟨p, l, e, R, s, m, args, below, meth, c, G, a, tc, A, H0, cells, slots, Q⟩ := X
  obtain ⟨hx, hb, hml, hown, hts, ⟨hK, hN⟩, hA, hc1, hs1, hf1, hl1, hlk, hrt⟩ := h
  intro ls x v hh hR Lx H locs hl hP hD hS
  obtain ⟨rfl, rfl⟩ := hR
  exact W.dret (v := v) hx hb (hrt.trans hh) (fun t ht hW => ⟨rfl, ⟨by rw [ht]; exact hP, hD⟩, hS.F ht⟩) hS.2.2 hd hlk
def ok_lreturn (X : Ctx) (M : MI) (pc : Nat) : Prop := ∀ (ls : Lo) (x : Hp) (v : Int64), M.2.2.2.1 = some .long → retOK X (some (.long v)) x → SW X M pc ls [.long v] x
theorem so_lreturn {X : Ctx} {M : MI} (h : sCx X M) {pc : Nat} (hd : decode M.2.1 pc = .ok (.lreturn, 1)) : ok_lreturn X M pc := by
  obtain ⟨p, l, e, R, s, m, args, below, meth, c, G, a, tc, A, H0, cells, slots, Q⟩ := X
  obtain ⟨hx, hb, hml, hown, hts, ⟨hK, hN⟩, hA, hc1, hs1, hf1, hl1, hlk, hrt⟩ := h
  intro ls x v hh hR Lx H locs hl hP hD hS
  obtain ⟨rfl, rfl⟩ := hR
  exact W.lret (v := v) hx hb (hrt.trans hh) (fun t ht hW => ⟨rfl, ⟨by rw [ht]; exact hP, hD⟩, hS.F ht⟩) hS.2.2 hd hlk
def ok_ireturn (X : Ctx) (M : MI) (pc : Nat) : Prop := ∀ (ls : Lo) (x : Hp) (v : Int32), (∃ ty, M.2.2.2.1 = some ty ∧ narrow ty (.int v) = .int v) → retOK X (some (.int v)) x → SW X M pc ls [.int v] x
theorem so_ireturn {X : Ctx} {M : MI} (h : sCx X M) {pc : Nat} (hd : decode M.2.1 pc = .ok (.ireturn, 1)) : ok_ireturn X M pc := by
  obtain ⟨p, l, e, R, s, m, args, below, meth, c, G, a, tc, A, H0, cells, slots, Q⟩ := X
  obtain ⟨hx, hb, hml, hown, hts, ⟨hK, hN⟩, hA, hc1, hs1, hf1, hl1, hlk, hrt⟩ := h
  intro ls x v hh hR Lx H locs hl hP hD hS
  obtain ⟨rfl, rfl⟩ := hR
  obtain ⟨ty, h1, h2⟩ := hh
  exact W.zret (v := v) hx hb (hrt.trans h1) h2 (fun t ht hW => ⟨rfl, ⟨by rw [ht]; exact hP, hD⟩, hS.F ht⟩) hS.2.2 hd hlk
def ok_return (X : Ctx) (M : MI) (pc : Nat) : Prop := ∀ (ls : Lo) (x : Hp), M.2.2.2.1 = none → retOK X none x → SW X M pc ls [] x
theorem so_return {X : Ctx} {M : MI} (h : sCx X M) {pc : Nat} (hd : decode M.2.1 pc = .ok (.return_, 1)) : ok_return X M pc := by
  obtain ⟨p, l, e, R, s, m, args, below, meth, c, G, a, tc, A, H0, cells, slots, Q⟩ := X
  obtain ⟨hx, hb, hml, hown, hts, ⟨hK, hN⟩, hA, hc1, hs1, hf1, hl1, hlk, hrt⟩ := h
  intro ls x hh hR Lx H locs hl hP hD hS
  obtain ⟨rfl, rfl⟩ := hR
  exact W.vret hx hb (hrt.trans hh) (fun t ht hW => ⟨rfl, ⟨by rw [ht]; exact hP, hD⟩, hS.F ht⟩) hS.2.2 hd hlk
/-- a switch over a table: its targets from lo on, and the other one -/
def okTsw (X : Ctx) (M : MI) (pc : Nat) (lo : Int) (tg : List Nat) (df : Nat) : Prop := ∀ (ls : Lo) (r : List Value) (x : Hp) (v : Int32), (∀ (k q : Nat), v.toInt = lo + k → tg[k]? = some q → SW X M q ls r x) → ((v.toInt < lo ∨ lo + tg.length ≤ v.toInt) → SW X M df ls r x) → SW X M pc ls (.int v :: r) x
theorem so_tsw {X : Ctx} {M : MI} (h : sCx X M) {pc len df : Nat} {dflt lo hi : Int} {offs : Array Int} {tg : List Nat} (hh : hi + 1 = lo + tg.length) (ho : offs.toList.map (fun o => (pc : Int) + o) = tg.map (fun (q : Nat) => (q : Int))) (ht : (pc : Int) + dflt = (df : Int)) (hd : decode M.2.1 pc = .ok (.tableswitch dflt lo hi offs, len)) : okTsw X M pc lo tg df := by
  obtain ⟨p, l, e, R, s, m, args, below, meth, c, G, a, tc, A, H0, cells, slots, Q⟩ := X
  obtain ⟨hx, hb, hml, hown, hts, ⟨hK, hN⟩, hA, hc1, hs1, hf1, hl1, hlk, hrt⟩ := h
  intro ls r x v k1 k2 Lx H locs hl hP hD hS
  by_cases hv : v.toInt < lo ∨ hi < v.toInt
  · exact lv_tableOut hx hb hd hv ht (k2 (by omega) Lx H locs hl hP hD hS)
  · obtain ⟨j, hj⟩ : ∃ j : Nat, v.toInt = lo + j := ⟨(v.toInt - lo).toNat, by omega⟩
    have hjl : j < tg.length := by omega
    have e1 : (offs.toList.map (fun o => (pc : Int) + o))[j]? = some ((tg[j] : Nat) : Int) := by rw [ho, List.getElem?_map, List.getElem?_eq_getElem hjl]; rfl
    rw [List.getElem?_map] at e1
    cases e2 : offs.toList[j]? with
    | none => rw [e2] at e1; cases e1
    | some off =>
      rw [e2] at e1
      refine lv_tableIn hx hb hd (fun q => hv (Or.inl q)) (fun q => hv (Or.inr q)) (off := off) ?_ (Option.some.inj e1) (k1 j tg[j] hj (List.getElem?_eq_getElem hjl) Lx H locs hl hP hD hS)
      rw [show (v.toInt - lo).toNat = j by omega, ← Array.getElem?_toList]
      exact e2
/-- a row of an array as a whole -/
def uR {α : Type} (f : Nat → Nat → α) (i : Nat) (g : Nat → α) : Nat → Nat → α := fun a => if a = i then g else f a
theorem uR_self {α : Type} {f : Nat → Nat → α} {i : Nat} {g : Nat → α} : uR f i g i = g := if_pos rfl
theorem uR_ne {α : Type} {f : Nat → Nat → α} {i j : Nat} {g : Nat → α} (h : j ≠ i) : uR f i g j = f j := if_neg h
theorem wd_setRI {a : Nat → Nat} {tc : Nat → ClassId} {x : Hp} {i n : Nat} {g : Nat → Int32} (hi : i < 96) (h : shp i = .inl (0, n)) : (wd a tc x).set i (a i, .inl (tc 0, n, .inl g)) = wd a tc (uR x.1 i g, x.2) :=
  wd_set hi (by rw [ent_i h, show (uR x.1 i g, x.2).1 i = g from uR_self]) (fun j hj => ent_congr (uR_ne hj) rfl rfl)
theorem wd_setRD {a : Nat → Nat} {tc : Nat → ClassId} {x : Hp} {i n : Nat} {g : Nat → UInt64} (hi : i < 96) (h : shp i = .inl (1, n)) : (wd a tc x).set i (a i, .inl (tc 1, n, .inr (.inr (.inr (.inl g))))) = wd a tc (x.1, uR x.2.1 i g, x.2.2) :=
  wd_set hi (by rw [ent_d h, show (x.1, uR x.2.1 i g, x.2.2).2.1 i = g from uR_self]) (fun j hj => ent_congr rfl (uR_ne hj) rfl)
def okCpI (X : Ctx) (M : MI) (pc pc' : Nat) : Prop := ∀ (ls : Lo) (x : Hp) (i j n1 n2 : Nat) (sp dp n : Int32), shp i = .inl (0, n1) → shp j = .inl (0, n2) → n1 ≠ 0 → n2 ≠ 0 → ¬ sp < 0 → ¬ dp < 0 → ¬ n < 0 → sp.toNatClampNeg + n.toNatClampNeg ≤ n1 → dp.toNatClampNeg + n.toNatClampNeg ≤ n2 → SW X M pc' ls [] (uR x.1 j (va_cpy (x.1 i) (x.1 j) sp.toNatClampNeg dp.toNatClampNeg n.toNatClampNeg), x.2) → SW X M pc ls [.int n, .int dp, .ref j, .int sp, .ref i] x
def okCpD (X : Ctx) (M : MI) (pc pc' : Nat) : Prop := ∀ (ls : Lo) (x : Hp) (i j n1 n2 : Nat) (sp dp n : Int32), shp i = .inl (1, n1) → shp j = .inl (1, n2) → n1 ≠ 0 → n2 ≠ 0 → ¬ sp < 0 → ¬ dp < 0 → ¬ n < 0 → sp.toNatClampNeg + n.toNatClampNeg ≤ n1 → dp.toNatClampNeg + n.toNatClampNeg ≤ n2 → SW X M pc' ls [] (x.1, uR x.2.1 j (va_cpy (x.2.1 i) (x.2.1 j) sp.toNatClampNeg dp.toNatClampNeg n.toNatClampNeg), x.2.2) → SW X M pc ls [.int n, .int dp, .ref j, .int sp, .ref i] x
theorem so_cp {X : Ctx} {M : MI} (h : sCx X M) {pc ix : Nat} (w1 : Cond.methodLink M.1.cls ix arraycopyName ∈ gw) (w2 : Cond.native arraycopyName ∈ gw) (w3 : Cond.static arraycopyName ∈ gw) (w4 : Cond.initialized "java/lang/System" ∈ gw) (hR : 1 ≤ M.2.2.2.2) (hd : decode M.2.1 pc = .ok (.invokestatic ix, 3)) : okCpI X M pc (pc + 3) ∧ okCpD X M pc (pc + 3) := by
  obtain ⟨p, l, e, R, s, m, args, below, meth, c, G, a, tc, A, H0, cells, slots, Q⟩ := X
  obtain ⟨hx, hb, hml, hown, hts, ⟨hK, hN⟩, hA, hc1, hs1, hf1, hl1, hlk, hrt⟩ := h
  constructor
  · intro ls x i j n1 n2 sp dp n hi hj z1 z2 h1 h2 h3 h4 h5 k Lx H locs hl hP hD hS
    have hi9 := shp_lt hi z1
    have hj9 := shp_lt hj z2
    have e1 := wd_get (a := a) (tc := tc) (x := x) hi9
    have e2 := wd_get (a := a) (tc := tc) (x := x) hj9
    rw [ent_i hi] at e1
    rw [ent_i hj] at e2
    refine va_copyi (rest := []) hx hb (hml.trans hl.1.symm) hown (hts _ w1) (hts _ w2) (hts _ w3) (hts _ w4) hK hP hD hS i j 0 0 e1 e2 rfl rfl rfl h1 h2 h3 h4 h5 (fun _ _ => rfl) (by rw [hf1]; exact hR) ?_ hd (fun H1 locs1 hP1 hD1 hS1 => ?_)
    · rw [hl1]
      have : nativeFrameWords "java/lang/System" "arraycopy" 5 + 11 ≤ 38 := by decide +kernel
      show 0 + _ ≤ _
      omega
    · rw [wd_setRI hj9 hj] at hP1 hD1
      exact k Lx H1 locs1 hl hP1 hD1 hS1
  · intro ls x i j n1 n2 sp dp n hi hj z1 z2 h1 h2 h3 h4 h5 k Lx H locs hl hP hD hS
    have hi9 := shp_lt hi z1
    have hj9 := shp_lt hj z2
    have e1 := wd_get (a := a) (tc := tc) (x := x) hi9
    have e2 := wd_get (a := a) (tc := tc) (x := x) hj9
    rw [ent_d hi] at e1
    rw [ent_d hj] at e2
    refine va_copyd (rest := []) hx hb (hml.trans hl.1.symm) hown (hts _ w1) (hts _ w2) (hts _ w3) (hts _ w4) hK hP hD hS i j 1 1 e1 e2 rfl rfl rfl h1 h2 h3 h4 h5 (fun _ _ => rfl) (by rw [hf1]; exact hR) ?_ hd (fun H1 locs1 hP1 hD1 hS1 => ?_)
    · rw [hl1]
      have : nativeFrameWords "java/lang/System" "arraycopy" 5 + 11 ≤ 38 := by decide +kernel
      show 0 + _ ≤ _
      omega
    · rw [wd_setRD hj9 hj] at hP1 hD1
      exact k Lx H1 locs1 hl hP1 hD1 hS1
/-! the table of a method -/
def okO (X : Ctx) (M : MI) (pc op pc' n : Nat) (M2 : MI) : Prop := match op with
  | 0 => ok_iaload X M pc pc'
  | 1 => ok_daload X M pc pc'
  | 2 => ok_laload X M pc pc'
  | 3 => ok_aaload X M pc pc'
  | 4 => ok_iastore X M pc pc'
  | 5 => ok_dastore X M pc pc'
  | 6 => ok_lastore X M pc pc'
  | 7 => ok_dadd X M pc pc'
  | 8 => ok_dsub X M pc pc'
  | 9 => ok_dmul X M pc pc'
  | 10 => ok_ddiv X M pc pc'
  | 11 => ok_idiv X M pc pc'
  | 12 => ok_irem X M pc pc'
  | 13 => okCall X M pc pc' n M2 M2.1.cls
  | 14 => okCall X M pc pc' n M2 ""
  | 15 => ok_ireturn X M pc
  | 16 => ok_dreturn X M pc
  | 17 => ok_lreturn X M pc
  | 18 => ok_return X M pc
  | 19 => okCpI X M pc pc' ∧ okCpD X M pc pc'
  | _ => True
def okE (X : Ctx) (M : MI) (pc : Nat) (q : E1) : Prop := match q with
  | .inl (f, pc') => Stq X M pc pc' f
  | .inr (.inl (b, tgt, nxt)) => Brn X M pc tgt nxt b
  | .inr (.inr (.inl (op, pc', n, M2))) => okO X M pc op pc' n M2
  | .inr (.inr (.inr (lo, tg, df))) => okTsw X M pc lo tg df
abbrev Tb : Type := List (Nat × E1)
def tab (X : Ctx) (M : MI) (cd : Tb) : Prop := ∀ q ∈ cd, okE X M q.1 q.2
theorem tb_mem : ∀ {cd : Tb} {pc : Nat} {q : E1}, cd.lookup pc = some q → (pc, q) ∈ cd
  | [], _, _, h => by simp at h
  | (j, u) :: t, i, v, h => by
    rw [List.lookup_cons] at h
    split at h
    · next hq => cases h; have : i = j := by simpa using hq
                 subst this; exact List.mem_cons_self
    · exact List.mem_cons_of_mem _ (tb_mem h)
theorem tb_at {X : Ctx} {M : MI} {cd : Tb} (hT : tab X M cd) {pc : Nat} {q : E1} (h : cd.lookup pc = some q) : okE X M pc q := hT _ (tb_mem h)
section Rows
variable {X : Ctx} {M M2 : MI} {cd : Tb} {pc pc' n : Nat} {ls : Lo} {r rest st as : List Value} {x x' : Hp}
/-- one straight instruction -/
theorem sw_s {f : F1} {ls' : Lo} {st' : List Value} (hT : tab X M cd) (hc : cd.lookup pc = some (.inl (f, pc'))) (hf : f ls st x = some (ls', st', x')) (k : SW X M pc' ls' st' x') : SW X M pc ls st x := tb_at hT hc ls st x ls' st' x' hf k
theorem sw_b {b : B1} {tgt nxt : Nat} {P : Prop} (hT : tab X M cd) (hc : cd.lookup pc = some (.inr (.inl (b, tgt, nxt)))) (hf : b st = some (P, r)) (kt : P → SW X M tgt ls r x) (kf : ¬ P → SW X M nxt ls r x) : SW X M pc ls st x := tb_at hT hc ls st x P r hf kt kf
theorem sw_iald {i m : Nat} {j : Int32} (hT : tab X M cd) (hc : cd.lookup pc = some (.inr (.inr (.inl (0, pc', n, M2))))) (hs : shp i = .inl (0, m)) (hj : vp_in j m) (k : SW X M pc' ls (.int (x.1 i j.toNatClampNeg) :: r) x) : SW X M pc ls (.int j :: .ref i :: r) x := tb_at hT hc ls r x i m j hs hj k
theorem sw_dald {i m : Nat} {j : Int32} (hT : tab X M cd) (hc : cd.lookup pc = some (.inr (.inr (.inl (1, pc', n, M2))))) (hs : shp i = .inl (1, m)) (hj : vp_in j m) (k : SW X M pc' ls (.double (x.2.1 i j.toNatClampNeg) :: r) x) : SW X M pc ls (.int j :: .ref i :: r) x := tb_at hT hc ls r x i m j hs hj k
theorem sw_lald {i m : Nat} {j : Int32} (hT : tab X M cd) (hc : cd.lookup pc = some (.inr (.inr (.inl (2, pc', n, M2))))) (hs : shp i = .inl (2, m)) (hj : vp_in j m) (k : SW X M pc' ls (.long (x.2.2 i j.toNatClampNeg) :: r) x) : SW X M pc ls (.int j :: .ref i :: r) x := tb_at hT hc ls r x i m j hs hj k
theorem sw_aald {i m : Nat} {j : Int32} (hT : tab X M cd) (hc : cd.lookup pc = some (.inr (.inr (.inl (3, pc', n, M2))))) (hs : shp i = .inl (3, m)) (hj : vp_in j m) (k : SW X M pc' ls (.ref (16 + 15 * j.toNatClampNeg) :: r) x) : SW X M pc ls (.int j :: .ref i :: r) x := tb_at hT hc ls r x i m j hs hj k
theorem sw_iast {i m : Nat} {j v : Int32} (hT : tab X M cd) (hc : cd.lookup pc = some (.inr (.inr (.inl (4, pc', n, M2))))) (hs : shp i = .inl (0, m)) (hj : vp_in j m) (k : SW X M pc' ls r (u2 x.1 i j.toNatClampNeg v, x.2)) : SW X M pc ls (.int v :: .int j :: .ref i :: r) x := tb_at hT hc ls r x i m j v hs hj k
theorem sw_dast {i m : Nat} {j : Int32} {v : UInt64} (hT : tab X M cd) (hc : cd.lookup pc = some (.inr (.inr (.inl (5, pc', n, M2))))) (hs : shp i = .inl (1, m)) (hj : vp_in j m) (k : SW X M pc' ls r (x.1, u2 x.2.1 i j.toNatClampNeg v, x.2.2)) : SW X M pc ls (.double v :: .int j :: .ref i :: r) x := tb_at hT hc ls r x i m j v hs hj k
theorem sw_last {i m : Nat} {j : Int32} {v : Int64} (hT : tab X M cd) (hc : cd.lookup pc = some (.inr (.inr (.inl (6, pc', n, M2))))) (hs : shp i = .inl (2, m)) (hj : vp_in j m) (k : SW X M pc' ls r (x.1, x.2.1, u2 x.2.2 i j.toNatClampNeg v)) : SW X M pc ls (.long v :: .int j :: .ref i :: r) x := tb_at hT hc ls r x i m j v hs hj k
theorem sw_dadd {y z : UInt64} (hT : tab X M cd) (hc : cd.lookup pc = some (.inr (.inr (.inl (7, pc', n, M2))))) (hn : vf_n64 (FP.dadd z y)) (k : SW X M pc' ls (.double (FP.dadd z y) :: r) x) : SW X M pc ls (.double y :: .double z :: r) x := tb_at hT hc ls r x y z hn k
theorem sw_dsub {y z : UInt64} (hT : tab X M cd) (hc : cd.lookup pc = some (.inr (.inr (.inl (8, pc', n, M2))))) (hn : vf_n64 (FP.dsub z y)) (k : SW X M pc' ls (.double (FP.dsub z y) :: r) x) : SW X M pc ls (.double y :: .double z :: r) x := tb_at hT hc ls r x y z hn k
theorem sw_dmul {y z : UInt64} (hT : tab X M cd) (hc : cd.lookup pc = some (.inr (.inr (.inl (9, pc', n, M2))))) (hn : vf_n64 (FP.dmul z y)) (k : SW X M pc' ls (.double (FP.dmul z y) :: r) x) : SW X M pc ls (.double y :: .double z :: r) x := tb_at hT hc ls r x y z hn k
theorem sw_ddiv {y z : UInt64} (hT : tab X M cd) (hc : cd.lookup pc = some (.inr (.inr (.inl (10, pc', n, M2))))) (hn : vf_n64 (FP.ddiv z y)) (k : SW X M pc' ls (.double (FP.ddiv z y) :: r) x) : SW X M pc ls (.double y :: .double z :: r) x := tb_at hT hc ls r x y z hn k
theorem sw_idiv {y z : Int32} (hT : tab X M cd) (hc : cd.lookup pc = some (.inr (.inr (.inl (11, pc', n, M2))))) (hn : ¬ y = 0) (k : SW X M pc' ls (.int (z / y) :: r) x) : SW X M pc ls (.int y :: .int z :: r) x := tb_at hT hc ls r x y z hn k
theorem sw_irem {y z : Int32} (hT : tab X M cd) (hc : cd.lookup pc = some (.inr (.inr (.inl (12, pc', n, M2))))) (hn : ¬ y = 0) (k : SW X M pc' ls (.int (z - z / y * y) :: r) x) : SW X M pc ls (.int y :: .int z :: r) x := tb_at hT hc ls r x y z hn k
theorem sw_cv {rr : Option Value} {i ci N : Nat} {bs : List Value} {ks : List Nat} {T : u_T} (hT : tab X M cd) (hc : cd.lookup pc = some (.inr (.inr (.inl (13, pc', n, M2))))) (hM : sM (xk X) M2 (.ref i :: bs) x rr x') (hst : st = (Value.ref i :: bs).reverse ++ rest) (hn : (Value.ref i :: bs).length = n) (hs : shp i = .inr (ci, ks)) (hi : vwCl[ci]? = some (M2.1.cls, T, N)) (hcat : (rest.map Value.category).sum ≤ 8) (k : SW X M pc' ls (rr.toList ++ rest) x') : SW X M pc ls st x := tb_at hT hc ls _ st rest x rr x' hM hst hn (Or.inr ⟨i, bs, ci, ks, T, N, rfl, hs, hi⟩) hcat k
theorem sw_cs {rr : Option Value} (hT : tab X M cd) (hc : cd.lookup pc = some (.inr (.inr (.inl (14, pc', n, M2))))) (hM : sM (xk X) M2 as x rr x') (hst : st = as.reverse ++ rest) (hn : as.length = n) (hcat : (rest.map Value.category).sum ≤ 8) (k : SW X M pc' ls (rr.toList ++ rest) x') : SW X M pc ls st x := tb_at hT hc ls _ st rest x rr x' hM hst hn (Or.inl rfl) hcat k
theorem sw_iret {v : Int32} {ty : FieldType} (hT : tab X M cd) (hc : cd.lookup pc = some (.inr (.inr (.inl (15, pc', n, M2))))) (h1 : M.2.2.2.1 = some ty) (h2 : narrow ty (.int v) = .int v) (hR : retOK X (some (.int v)) x) : SW X M pc ls [.int v] x := tb_at hT hc ls x v ⟨ty, h1, h2⟩ hR
theorem sw_dret {v : UInt64} (hT : tab X M cd) (hc : cd.lookup pc = some (.inr (.inr (.inl (16, pc', n, M2))))) (h1 : M.2.2.2.1 = some .double) (hR : retOK X (some (.double v)) x) : SW X M pc ls [.double v] x := tb_at hT hc ls x v h1 hR
theorem sw_lret {v : Int64} (hT : tab X M cd) (hc : cd.lookup pc = some (.inr (.inr (.inl (17, pc', n, M2))))) (h1 : M.2.2.2.1 = some .long) (hR : retOK X (some (.long v)) x) : SW X M pc ls [.long v] x := tb_at hT hc ls x v h1 hR
theorem sw_vret (hT : tab X M cd) (hc : cd.lookup pc = some (.inr (.inr (.inl (18, pc', n, M2))))) (h1 : M.2.2.2.1 = none) (hR : retOK X none x) : SW X M pc ls [] x := tb_at hT hc ls x h1 hR
theorem sw_cpI {i j n1 n2 : Nat} {sp dp m : Int32} (hT : tab X M cd) (hc : cd.lookup pc = some (.inr (.inr (.inl (19, pc', n, M2))))) (hi : shp i = .inl (0, n1)) (hj : shp j = .inl (0, n2)) (z1 : n1 ≠ 0) (z2 : n2 ≠ 0) (h1 : ¬ sp < 0) (h2 : ¬ dp < 0) (h3 : ¬ m < 0) (h4 : sp.toNatClampNeg + m.toNatClampNeg ≤ n1) (h5 : dp.toNatClampNeg + m.toNatClampNeg ≤ n2) (k : SW X M pc' ls [] (uR x.1 j (va_cpy (x.1 i) (x.1 j) sp.toNatClampNeg dp.toNatClampNeg m.toNatClampNeg), x.2)) : SW X M pc ls [.int m, .int dp, .ref j, .int sp, .ref i] x := (tb_at hT hc).1 ls x i j n1 n2 sp dp m hi hj z1 z2 h1 h2 h3 h4 h5 k
theorem sw_cpD {i j n1 n2 : Nat} {sp dp m : Int32} (hT : tab X M cd) (hc : cd.lookup pc = some (.inr (.inr (.inl (19, pc', n, M2))))) (hi : shp i = .inl (1, n1)) (hj : shp j = .inl (1, n2)) (z1 : n1 ≠ 0) (z2 : n2 ≠ 0) (h1 : ¬ sp < 0) (h2 : ¬ dp < 0) (h3 : ¬ m < 0) (h4 : sp.toNatClampNeg + m.toNatClampNeg ≤ n1) (h5 : dp.toNatClampNeg + m.toNatClampNeg ≤ n2) (k : SW X M pc' ls [] (x.1, uR x.2.1 j (va_cpy (x.2.1 i) (x.2.1 j) sp.toNatClampNeg dp.toNatClampNeg m.toNatClampNeg), x.2.2)) : SW X M pc ls [.int m, .int dp, .ref j, .int sp, .ref i] x := (tb_at hT hc).2 ls x i j n1 n2 sp dp m hi hj z1 z2 h1 h2 h3 h4 h5 k
theorem sw_tsw {lo : Int} {tg : List Nat} {df : Nat} {v : Int32} (hT : tab X M cd) (hc : cd.lookup pc = some (.inr (.inr (.inr (lo, tg, df))))) (k1 : ∀ (k q : Nat), v.toInt = lo + k → tg[k]? = some q → SW X M q ls r x) (k2 : (v.toInt < lo ∨ lo + tg.length ≤ v.toInt) → SW X M df ls r x) : SW X M pc ls (.int v :: r) x := tb_at hT hc ls r x v k1 k2
end Rows
theorem eS {X : Ctx} {M : MI} {pc pc' : Nat} {f : F1} (h : Stq X M pc pc' f) : okE X M pc (.inl (f, pc')) := h
theorem eB {X : Ctx} {M : MI} {pc tgt nxt : Nat} {b : B1} (h : Brn X M pc tgt nxt b) : okE X M pc (.inr (.inl (b, tgt, nxt))) := h
theorem eO {X : Ctx} {M : MI} {pc op pc' n : Nat} {M2 : MI} (h : okO X M pc op pc' n M2) : okE X M pc (.inr (.inr (.inl (op, pc', n, M2)))) := h
theorem eT {X : Ctx} {M : MI} {pc : Nat} {lo : Int} {tg : List Nat} {df : Nat} (h : okTsw X M pc lo tg df) : okE X M pc (.inr (.inr (.inr (lo, tg, df)))) := h
theorem tab_nil {X : Ctx} {M : MI} : tab X M [] := fun _ h => absurd h List.not_mem_nil
theorem tab_cons {X : Ctx} {M : MI} {pc : Nat} {q : E1} {t : Tb} (h : okE X M pc q) (k : tab X M t) : tab X M ((pc, q) :: t) := List.forall_mem_cons.mpr ⟨h, k⟩
theorem tab_app {X : Ctx} {M : MI} {s t : Tb} (h : tab X M s) (k : tab X M t) : tab X M (s ++ t) := List.forall_mem_append.mpr ⟨h, k⟩
def m0 : MI := (⟨"", "", ""⟩, ⟨#[]⟩, 0, none, 0)
end
section
theorem zz_end : True := trivial
end
