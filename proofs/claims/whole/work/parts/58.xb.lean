/-! the law's methods: names, words, tables, contracts -/
def mL_setSource : MI := (yL_setSource, cL_setSource, 7, some .int, 8)
abbrev hL_setSource : List (Nat × Nat × Nat × Nat) := [(0, 10, 13, 13)]
def mL_addLine : MI := (yL_addLine, cL_addLine, 6, some .int, 8)
abbrev hL_addLine : List (Nat × Nat × Nat × Nat) := [(0, 11, 14, 13), (0, 11, 18, 19)]
def mL_setLoad : MI := (yL_setLoad, cL_setLoad, 5, some .int, 8)
abbrev hL_setLoad : List (Nat × Nat × Nat × Nat) := [(0, 10, 13, 13)]
def mL_loadCurrent : MI := (yL_loadCurrent, cL_loadCurrent, 4, some .int, 8)
abbrev hL_loadCurrent : List (Nat × Nat × Nat × Nat) := [(0, 9, 12, 13)]
def mL_faultCurrent : MI := (yL_faultCurrent, cL_faultCurrent, 5, some .int, 8)
abbrev hL_faultCurrent : List (Nat × Nat × Nat × Nat) := [(0, 9, 12, 13)]
def mL_setRelay : MI := (yL_setRelay, cL_setRelay, 7, some .int, 8)
abbrev hL_setRelay : List (Nat × Nat × Nat × Nat) := [(0, 14, 17, 13)]
def mL_setInstantaneous : MI := (yL_setInstantaneous, cL_setInstantaneous, 5, some .int, 8)
abbrev hL_setInstantaneous : List (Nat × Nat × Nat × Nat) := [(0, 10, 13, 13)]
def mL_setShots : MI := (yL_setShots, cL_setShots, 5, some .int, 8)
abbrev hL_setShots : List (Nat × Nat × Nat × Nat) := [(0, 10, 13, 13)]
def mL_setStuck : MI := (yL_setStuck, cL_setStuck, 5, some .int, 8)
abbrev hL_setStuck : List (Nat × Nat × Nat × Nat) := [(0, 17, 20, 13)]
def mL_pickup : MI := (yL_pickup, cL_pickup, 4, some .int, 8)
abbrev hL_pickup : List (Nat × Nat × Nat × Nat) := [(0, 9, 12, 13)]
def mL_steps : MI := (yL_steps, cL_steps, 4, some .int, 8)
abbrev hL_steps : List (Nat × Nat × Nat × Nat) := [(0, 9, 12, 13)]
def mL_upstream : MI := (yL_upstream, cL_upstream, 4, some .int, 8)
abbrev hL_upstream : List (Nat × Nat × Nat × Nat) := [(0, 9, 12, 13)]
def mL_operatingTime : MI := (yL_operatingTime, cL_operatingTime, 6, some .int, 8)
abbrev hL_operatingTime : List (Nat × Nat × Nat × Nat) := [(0, 10, 13, 13)]
def mL_sensitivity : MI := (yL_sensitivity, cL_sensitivity, 4, some .int, 8)
abbrev hL_sensitivity : List (Nat × Nat × Nat × Nat) := [(0, 8, 11, 13)]
def mL_setMargin : MI := (yL_setMargin, cL_setMargin, 5, some .int, 8)
abbrev hL_setMargin : List (Nat × Nat × Nat × Nat) := [(0, 8, 11, 13)]
def mL_margin : MI := (yL_margin, cL_margin, 5, some .int, 8)
abbrev hL_margin : List (Nat × Nat × Nat × Nat) := [(0, 9, 12, 13), (0, 9, 16, 19)]
def mL_violation : MI := (yL_violation, cL_violation, 4, some .int, 8)
abbrev hL_violation : List (Nat × Nat × Nat × Nat) := [(0, 9, 12, 74)]
def mL_autoPickup : MI := (yL_autoPickup, cL_autoPickup, 4, some .int, 8)
abbrev hL_autoPickup : List (Nat × Nat × Nat × Nat) := [(0, 9, 12, 13)]
def mL_simulate : MI := (yL_simulate, cL_simulate, 7, some .int, 8)
abbrev hL_simulate : List (Nat × Nat × Nat × Nat) := [(0, 12, 15, 13)]
def mL_event : MI := (yL_event, cL_event, 4, some .int, 8)
abbrev hL_event : List (Nat × Nat × Nat × Nat) := [(0, 9, 12, 74)]
def mL_eventTime : MI := (yL_eventTime, cL_eventTime, 4, some .int, 8)
abbrev hL_eventTime : List (Nat × Nat × Nat × Nat) := [(0, 8, 11, 74)]
def mL_undo : MI := (yL_undo, cL_undo, 3, some .int, 8)
abbrev hL_undo : List (Nat × Nat × Nat × Nat) := [(0, 8, 11, 19)]
def mL_law : MI := (yL_law, cL_law, 10, ret, 11)
theorem gl_0 : Cond.methodLink RL 7 yX6_setSource ∈ gw := gw_t (List.mem_of_getElem? (i := 362) (by decide +kernel)) (by decide +kernel)
theorem gl_1 : Cond.instanceMethod yX6_setSource ∈ gw := gw_t (List.mem_of_getElem? (i := 363) (by decide +kernel)) (by decide +kernel)
theorem gl_2 : Cond.selects RX6 yX6_setSource yX6_setSource ∈ gw := gw_t (List.mem_of_getElem? (i := 364) (by decide +kernel)) (by decide +kernel)
theorem gl_4 : Cond.code yX6_setSource cX6_setSource 7 (some .double) ∈ gw := gw_t (List.mem_of_getElem? (i := 365) (by decide +kernel)) (by decide +kernel)
theorem gl_5 : Cond.methodLink RL 15 yX6_addLine ∈ gw := gw_t (List.mem_of_getElem? (i := 449) (by decide +kernel)) (by decide +kernel)
theorem gl_6 : Cond.instanceMethod yX6_addLine ∈ gw := gw_t (List.mem_of_getElem? (i := 450) (by decide +kernel)) (by decide +kernel)
theorem gl_7 : Cond.selects RX6 yX6_addLine yX6_addLine ∈ gw := gw_t (List.mem_of_getElem? (i := 451) (by decide +kernel)) (by decide +kernel)
theorem gl_8 : Cond.code yX6_addLine cX6_addLine 4 (some .int) ∈ gw := gw_t (List.mem_of_getElem? (i := 452) (by decide +kernel)) (by decide +kernel)
theorem gl_9 : Cond.methodLink RL 21 yX6_setLoad ∈ gw := gw_t (List.mem_of_getElem? (i := 480) (by decide +kernel)) (by decide +kernel)
theorem gl_10 : Cond.instanceMethod yX6_setLoad ∈ gw := gw_t (List.mem_of_getElem? (i := 481) (by decide +kernel)) (by decide +kernel)
theorem gl_11 : Cond.selects RX6 yX6_setLoad yX6_setLoad ∈ gw := gw_t (List.mem_of_getElem? (i := 482) (by decide +kernel)) (by decide +kernel)
theorem gl_12 : Cond.code yX6_setLoad cX6_setLoad 4 (some .int) ∈ gw := gw_t (List.mem_of_getElem? (i := 483) (by decide +kernel)) (by decide +kernel)
theorem gl_13 : Cond.methodLink RL 25 yX6_loadCurrent ∈ gw := gw_t (List.mem_of_getElem? (i := 489) (by decide +kernel)) (by decide +kernel)
theorem gl_14 : Cond.instanceMethod yX6_loadCurrent ∈ gw := gw_t (List.mem_of_getElem? (i := 490) (by decide +kernel)) (by decide +kernel)
theorem gl_15 : Cond.selects RX6 yX6_loadCurrent yX6_loadCurrent ∈ gw := gw_t (List.mem_of_getElem? (i := 491) (by decide +kernel)) (by decide +kernel)
theorem gl_16 : Cond.code yX6_loadCurrent cX6_loadCurrent 2 (some .int) ∈ gw := gw_t (List.mem_of_getElem? (i := 492) (by decide +kernel)) (by decide +kernel)
theorem gl_17 : Cond.methodLink RL 29 yX6_faultCurrent ∈ gw := gw_t (List.mem_of_getElem? (i := 501) (by decide +kernel)) (by decide +kernel)
theorem gl_18 : Cond.instanceMethod yX6_faultCurrent ∈ gw := gw_t (List.mem_of_getElem? (i := 502) (by decide +kernel)) (by decide +kernel)
theorem gl_19 : Cond.selects RX6 yX6_faultCurrent yX6_faultCurrent ∈ gw := gw_t (List.mem_of_getElem? (i := 503) (by decide +kernel)) (by decide +kernel)
theorem gl_20 : Cond.code yX6_faultCurrent cX6_faultCurrent 3 (some .double) ∈ gw := gw_t (List.mem_of_getElem? (i := 504) (by decide +kernel)) (by decide +kernel)
theorem gl_21 : Cond.methodLink RL 33 yX6_setRelay ∈ gw := gw_t (List.mem_of_getElem? (i := 512) (by decide +kernel)) (by decide +kernel)
theorem gl_22 : Cond.instanceMethod yX6_setRelay ∈ gw := gw_t (List.mem_of_getElem? (i := 513) (by decide +kernel)) (by decide +kernel)
theorem gl_23 : Cond.selects RX6 yX6_setRelay yX6_setRelay ∈ gw := gw_t (List.mem_of_getElem? (i := 514) (by decide +kernel)) (by decide +kernel)
theorem gl_24 : Cond.code yX6_setRelay cX6_setRelay 7 (some .int) ∈ gw := gw_t (List.mem_of_getElem? (i := 515) (by decide +kernel)) (by decide +kernel)
theorem gl_25 : Cond.methodLink RL 37 yX6_setInstantaneous ∈ gw := gw_t (List.mem_of_getElem? (i := 522) (by decide +kernel)) (by decide +kernel)
theorem gl_26 : Cond.instanceMethod yX6_setInstantaneous ∈ gw := gw_t (List.mem_of_getElem? (i := 523) (by decide +kernel)) (by decide +kernel)
theorem gl_27 : Cond.selects RX6 yX6_setInstantaneous yX6_setInstantaneous ∈ gw := gw_t (List.mem_of_getElem? (i := 524) (by decide +kernel)) (by decide +kernel)
theorem gl_28 : Cond.code yX6_setInstantaneous cX6_setInstantaneous 4 (some .int) ∈ gw := gw_t (List.mem_of_getElem? (i := 525) (by decide +kernel)) (by decide +kernel)
theorem gl_29 : Cond.methodLink RL 40 yX6_setShots ∈ gw := gw_t (List.mem_of_getElem? (i := 531) (by decide +kernel)) (by decide +kernel)
theorem gl_30 : Cond.instanceMethod yX6_setShots ∈ gw := gw_t (List.mem_of_getElem? (i := 532) (by decide +kernel)) (by decide +kernel)
theorem gl_31 : Cond.selects RX6 yX6_setShots yX6_setShots ∈ gw := gw_t (List.mem_of_getElem? (i := 533) (by decide +kernel)) (by decide +kernel)
theorem gl_32 : Cond.code yX6_setShots cX6_setShots 4 (some .int) ∈ gw := gw_t (List.mem_of_getElem? (i := 534) (by decide +kernel)) (by decide +kernel)
theorem gl_33 : Cond.methodLink RL 43 yX6_setStuck ∈ gw := gw_t (List.mem_of_getElem? (i := 539) (by decide +kernel)) (by decide +kernel)
theorem gl_34 : Cond.instanceMethod yX6_setStuck ∈ gw := gw_t (List.mem_of_getElem? (i := 540) (by decide +kernel)) (by decide +kernel)
theorem gl_35 : Cond.selects RX6 yX6_setStuck yX6_setStuck ∈ gw := gw_t (List.mem_of_getElem? (i := 541) (by decide +kernel)) (by decide +kernel)
theorem gl_36 : Cond.code yX6_setStuck cX6_setStuck 4 (some .boolean) ∈ gw := gw_t (List.mem_of_getElem? (i := 542) (by decide +kernel)) (by decide +kernel)
theorem gl_37 : Cond.methodLink RL 47 yX6_pickup ∈ gw := gw_t (List.mem_of_getElem? (i := 550) (by decide +kernel)) (by decide +kernel)
theorem gl_38 : Cond.instanceMethod yX6_pickup ∈ gw := gw_t (List.mem_of_getElem? (i := 551) (by decide +kernel)) (by decide +kernel)
theorem gl_39 : Cond.selects RX6 yX6_pickup yX6_pickup ∈ gw := gw_t (List.mem_of_getElem? (i := 552) (by decide +kernel)) (by decide +kernel)
theorem gl_40 : Cond.code yX6_pickup cX6_pickup 2 (some .int) ∈ gw := gw_t (List.mem_of_getElem? (i := 553) (by decide +kernel)) (by decide +kernel)
theorem gl_41 : Cond.methodLink RL 50 yX6_steps ∈ gw := gw_t (List.mem_of_getElem? (i := 557) (by decide +kernel)) (by decide +kernel)
theorem gl_42 : Cond.instanceMethod yX6_steps ∈ gw := gw_t (List.mem_of_getElem? (i := 558) (by decide +kernel)) (by decide +kernel)
theorem gl_43 : Cond.selects RX6 yX6_steps yX6_steps ∈ gw := gw_t (List.mem_of_getElem? (i := 559) (by decide +kernel)) (by decide +kernel)
theorem gl_44 : Cond.code yX6_steps cX6_steps 2 (some .int) ∈ gw := gw_t (List.mem_of_getElem? (i := 560) (by decide +kernel)) (by decide +kernel)
theorem gl_45 : Cond.methodLink RL 53 yX6_upstream ∈ gw := gw_t (List.mem_of_getElem? (i := 564) (by decide +kernel)) (by decide +kernel)
theorem gl_46 : Cond.instanceMethod yX6_upstream ∈ gw := gw_t (List.mem_of_getElem? (i := 565) (by decide +kernel)) (by decide +kernel)
theorem gl_47 : Cond.selects RX6 yX6_upstream yX6_upstream ∈ gw := gw_t (List.mem_of_getElem? (i := 566) (by decide +kernel)) (by decide +kernel)
theorem gl_48 : Cond.code yX6_upstream cX6_upstream 2 (some .int) ∈ gw := gw_t (List.mem_of_getElem? (i := 567) (by decide +kernel)) (by decide +kernel)
theorem gl_49 : Cond.methodLink RL 56 yX6_operatingTime ∈ gw := gw_t (List.mem_of_getElem? (i := 572) (by decide +kernel)) (by decide +kernel)
theorem gl_50 : Cond.instanceMethod yX6_operatingTime ∈ gw := gw_t (List.mem_of_getElem? (i := 573) (by decide +kernel)) (by decide +kernel)
theorem gl_51 : Cond.selects RX6 yX6_operatingTime yX6_operatingTime ∈ gw := gw_t (List.mem_of_getElem? (i := 574) (by decide +kernel)) (by decide +kernel)
theorem gl_52 : Cond.code yX6_operatingTime cX6_operatingTime 4 (some .double) ∈ gw := gw_t (List.mem_of_getElem? (i := 575) (by decide +kernel)) (by decide +kernel)
theorem gl_53 : Cond.methodLink RL 60 yX6_sensitivity ∈ gw := gw_t (List.mem_of_getElem? (i := 582) (by decide +kernel)) (by decide +kernel)
theorem gl_54 : Cond.instanceMethod yX6_sensitivity ∈ gw := gw_t (List.mem_of_getElem? (i := 583) (by decide +kernel)) (by decide +kernel)
theorem gl_55 : Cond.selects RX6 yX6_sensitivity yX6_sensitivity ∈ gw := gw_t (List.mem_of_getElem? (i := 584) (by decide +kernel)) (by decide +kernel)
theorem gl_56 : Cond.code yX6_sensitivity cX6_sensitivity 2 (some .double) ∈ gw := gw_t (List.mem_of_getElem? (i := 585) (by decide +kernel)) (by decide +kernel)
theorem gl_57 : Cond.methodLink RL 64 yX6_setMargin ∈ gw := gw_t (List.mem_of_getElem? (i := 590) (by decide +kernel)) (by decide +kernel)
theorem gl_58 : Cond.instanceMethod yX6_setMargin ∈ gw := gw_t (List.mem_of_getElem? (i := 591) (by decide +kernel)) (by decide +kernel)
theorem gl_59 : Cond.selects RX6 yX6_setMargin yX6_setMargin ∈ gw := gw_t (List.mem_of_getElem? (i := 592) (by decide +kernel)) (by decide +kernel)
theorem gl_60 : Cond.code yX6_setMargin cX6_setMargin 5 (some .double) ∈ gw := gw_t (List.mem_of_getElem? (i := 593) (by decide +kernel)) (by decide +kernel)
theorem gl_61 : Cond.methodLink RL 68 yX6_margin ∈ gw := gw_t (List.mem_of_getElem? (i := 600) (by decide +kernel)) (by decide +kernel)
theorem gl_62 : Cond.instanceMethod yX6_margin ∈ gw := gw_t (List.mem_of_getElem? (i := 601) (by decide +kernel)) (by decide +kernel)
theorem gl_63 : Cond.selects RX6 yX6_margin yX6_margin ∈ gw := gw_t (List.mem_of_getElem? (i := 602) (by decide +kernel)) (by decide +kernel)
theorem gl_64 : Cond.code yX6_margin cX6_margin 3 (some .double) ∈ gw := gw_t (List.mem_of_getElem? (i := 603) (by decide +kernel)) (by decide +kernel)
theorem gl_65 : Cond.methodLink RL 71 yX6_violation ∈ gw := gw_t (List.mem_of_getElem? (i := 610) (by decide +kernel)) (by decide +kernel)
theorem gl_66 : Cond.instanceMethod yX6_violation ∈ gw := gw_t (List.mem_of_getElem? (i := 611) (by decide +kernel)) (by decide +kernel)
theorem gl_67 : Cond.selects RX6 yX6_violation yX6_violation ∈ gw := gw_t (List.mem_of_getElem? (i := 612) (by decide +kernel)) (by decide +kernel)
theorem gl_68 : Cond.code yX6_violation cX6_violation 3 (some .int) ∈ gw := gw_t (List.mem_of_getElem? (i := 613) (by decide +kernel)) (by decide +kernel)
theorem gl_69 : Cond.methodLink RL 76 yX6_autoPickup ∈ gw := gw_t (List.mem_of_getElem? (i := 641) (by decide +kernel)) (by decide +kernel)
theorem gl_70 : Cond.instanceMethod yX6_autoPickup ∈ gw := gw_t (List.mem_of_getElem? (i := 642) (by decide +kernel)) (by decide +kernel)
theorem gl_71 : Cond.selects RX6 yX6_autoPickup yX6_autoPickup ∈ gw := gw_t (List.mem_of_getElem? (i := 643) (by decide +kernel)) (by decide +kernel)
theorem gl_72 : Cond.code yX6_autoPickup cX6_autoPickup 5 (some .int) ∈ gw := gw_t (List.mem_of_getElem? (i := 644) (by decide +kernel)) (by decide +kernel)
theorem gl_73 : Cond.methodLink RL 79 yX6_simulate ∈ gw := gw_t (List.mem_of_getElem? (i := 655) (by decide +kernel)) (by decide +kernel)
theorem gl_74 : Cond.instanceMethod yX6_simulate ∈ gw := gw_t (List.mem_of_getElem? (i := 656) (by decide +kernel)) (by decide +kernel)
theorem gl_75 : Cond.selects RX6 yX6_simulate yX6_simulate ∈ gw := gw_t (List.mem_of_getElem? (i := 657) (by decide +kernel)) (by decide +kernel)
theorem gl_76 : Cond.code yX6_simulate cX6_simulate 5 (some .int) ∈ gw := gw_t (List.mem_of_getElem? (i := 658) (by decide +kernel)) (by decide +kernel)
theorem gl_77 : Cond.methodLink RL 83 yX6_event ∈ gw := gw_t (List.mem_of_getElem? (i := 712) (by decide +kernel)) (by decide +kernel)
theorem gl_78 : Cond.instanceMethod yX6_event ∈ gw := gw_t (List.mem_of_getElem? (i := 713) (by decide +kernel)) (by decide +kernel)
theorem gl_79 : Cond.selects RX6 yX6_event yX6_event ∈ gw := gw_t (List.mem_of_getElem? (i := 714) (by decide +kernel)) (by decide +kernel)
theorem gl_80 : Cond.code yX6_event cX6_event 2 (some .int) ∈ gw := gw_t (List.mem_of_getElem? (i := 715) (by decide +kernel)) (by decide +kernel)
theorem gl_81 : Cond.methodLink RL 86 yX6_eventTime ∈ gw := gw_t (List.mem_of_getElem? (i := 724) (by decide +kernel)) (by decide +kernel)
theorem gl_82 : Cond.instanceMethod yX6_eventTime ∈ gw := gw_t (List.mem_of_getElem? (i := 725) (by decide +kernel)) (by decide +kernel)
theorem gl_83 : Cond.selects RX6 yX6_eventTime yX6_eventTime ∈ gw := gw_t (List.mem_of_getElem? (i := 726) (by decide +kernel)) (by decide +kernel)
theorem gl_84 : Cond.code yX6_eventTime cX6_eventTime 2 (some .double) ∈ gw := gw_t (List.mem_of_getElem? (i := 727) (by decide +kernel)) (by decide +kernel)
theorem gl_85 : Cond.methodLink RL 89 yX6_undo ∈ gw := gw_t (List.mem_of_getElem? (i := 731) (by decide +kernel)) (by decide +kernel)
theorem gl_86 : Cond.instanceMethod yX6_undo ∈ gw := gw_t (List.mem_of_getElem? (i := 732) (by decide +kernel)) (by decide +kernel)
theorem gl_87 : Cond.selects RX6 yX6_undo yX6_undo ∈ gw := gw_t (List.mem_of_getElem? (i := 733) (by decide +kernel)) (by decide +kernel)
theorem gl_88 : Cond.code yX6_undo cX6_undo 1 (some .int) ∈ gw := gw_t (List.mem_of_getElem? (i := 734) (by decide +kernel)) (by decide +kernel)
theorem gl_89 : Cond.classLink RL 13 "java/lang/IllegalArgumentException" ∈ gw := gw_t (List.mem_of_getElem? (i := 361) (by decide +kernel)) (by decide +kernel)
theorem gl_90 : Cond.classLink RL 19 "java/lang/IllegalStateException" ∈ gw := gw_t (List.mem_of_getElem? (i := 448) (by decide +kernel)) (by decide +kernel)
theorem gl_91 : Cond.classLink RL 74 "java/lang/IndexOutOfBoundsException" ∈ gw := gw_t (List.mem_of_getElem? (i := 609) (by decide +kernel)) (by decide +kernel)
theorem gl_92 : Cond.constantDouble RL 97 (4593671619917905920) ∈ gw := gw_t (List.mem_of_getElem? (i := 1052) (by decide +kernel)) (by decide +kernel)
theorem gl_93 : Cond.methodLink RL 104 yX7_setSource ∈ gw := gw_t (List.mem_of_getElem? (i := 798) (by decide +kernel)) (by decide +kernel)
theorem gl_94 : Cond.instanceMethod yX7_setSource ∈ gw := gw_t (List.mem_of_getElem? (i := 799) (by decide +kernel)) (by decide +kernel)
theorem gl_95 : Cond.selects RX7 yX7_setSource yX7_setSource ∈ gw := gw_t (List.mem_of_getElem? (i := 800) (by decide +kernel)) (by decide +kernel)
theorem gl_97 : Cond.code yX7_setSource cX7_setSource 7 (some .double) ∈ gw := gw_t (List.mem_of_getElem? (i := 801) (by decide +kernel)) (by decide +kernel)
theorem gl_98 : Cond.methodLink RL 105 yX7_thrown ∈ gw := gw_t (List.mem_of_getElem? (i := 794) (by decide +kernel)) (by decide +kernel)
theorem gl_99 : Cond.instanceMethod yX7_thrown ∈ gw := gw_t (List.mem_of_getElem? (i := 795) (by decide +kernel)) (by decide +kernel)
theorem gl_100 : Cond.selects RX7 yX7_thrown yX7_thrown ∈ gw := gw_t (List.mem_of_getElem? (i := 796) (by decide +kernel)) (by decide +kernel)
theorem gl_101 : Cond.code yX7_thrown cX7_thrown 1 (some .int) ∈ gw := gw_t (List.mem_of_getElem? (i := 797) (by decide +kernel)) (by decide +kernel)
theorem gl_102 : Cond.methodLink RL 111 yX7_addLine ∈ gw := gw_t (List.mem_of_getElem? (i := 813) (by decide +kernel)) (by decide +kernel)
theorem gl_103 : Cond.instanceMethod yX7_addLine ∈ gw := gw_t (List.mem_of_getElem? (i := 814) (by decide +kernel)) (by decide +kernel)
theorem gl_104 : Cond.selects RX7 yX7_addLine yX7_addLine ∈ gw := gw_t (List.mem_of_getElem? (i := 815) (by decide +kernel)) (by decide +kernel)
theorem gl_105 : Cond.code yX7_addLine cX7_addLine 6 (some .int) ∈ gw := gw_t (List.mem_of_getElem? (i := 816) (by decide +kernel)) (by decide +kernel)
theorem gl_106 : Cond.methodLink RL 115 yX7_setLoad ∈ gw := gw_t (List.mem_of_getElem? (i := 823) (by decide +kernel)) (by decide +kernel)
theorem gl_107 : Cond.instanceMethod yX7_setLoad ∈ gw := gw_t (List.mem_of_getElem? (i := 824) (by decide +kernel)) (by decide +kernel)
theorem gl_108 : Cond.selects RX7 yX7_setLoad yX7_setLoad ∈ gw := gw_t (List.mem_of_getElem? (i := 825) (by decide +kernel)) (by decide +kernel)
theorem gl_109 : Cond.code yX7_setLoad cX7_setLoad 3 (some .int) ∈ gw := gw_t (List.mem_of_getElem? (i := 826) (by decide +kernel)) (by decide +kernel)
theorem gl_110 : Cond.methodLink RL 119 yX7_loadCurrent ∈ gw := gw_t (List.mem_of_getElem? (i := 831) (by decide +kernel)) (by decide +kernel)
theorem gl_111 : Cond.instanceMethod yX7_loadCurrent ∈ gw := gw_t (List.mem_of_getElem? (i := 832) (by decide +kernel)) (by decide +kernel)
theorem gl_112 : Cond.selects RX7 yX7_loadCurrent yX7_loadCurrent ∈ gw := gw_t (List.mem_of_getElem? (i := 833) (by decide +kernel)) (by decide +kernel)
theorem gl_113 : Cond.code yX7_loadCurrent cX7_loadCurrent 2 (some .int) ∈ gw := gw_t (List.mem_of_getElem? (i := 834) (by decide +kernel)) (by decide +kernel)
theorem gl_114 : Cond.methodLink RL 123 yX7_faultCurrent ∈ gw := gw_t (List.mem_of_getElem? (i := 851) (by decide +kernel)) (by decide +kernel)
theorem gl_115 : Cond.instanceMethod yX7_faultCurrent ∈ gw := gw_t (List.mem_of_getElem? (i := 852) (by decide +kernel)) (by decide +kernel)
theorem gl_116 : Cond.selects RX7 yX7_faultCurrent yX7_faultCurrent ∈ gw := gw_t (List.mem_of_getElem? (i := 853) (by decide +kernel)) (by decide +kernel)
theorem gl_117 : Cond.code yX7_faultCurrent cX7_faultCurrent 3 (some .double) ∈ gw := gw_t (List.mem_of_getElem? (i := 854) (by decide +kernel)) (by decide +kernel)
theorem gl_118 : Cond.methodLink RL 127 yX7_setRelay ∈ gw := gw_t (List.mem_of_getElem? (i := 867) (by decide +kernel)) (by decide +kernel)
theorem gl_119 : Cond.instanceMethod yX7_setRelay ∈ gw := gw_t (List.mem_of_getElem? (i := 868) (by decide +kernel)) (by decide +kernel)
theorem gl_120 : Cond.selects RX7 yX7_setRelay yX7_setRelay ∈ gw := gw_t (List.mem_of_getElem? (i := 869) (by decide +kernel)) (by decide +kernel)
theorem gl_121 : Cond.code yX7_setRelay cX7_setRelay 6 (some .int) ∈ gw := gw_t (List.mem_of_getElem? (i := 870) (by decide +kernel)) (by decide +kernel)
theorem gl_122 : Cond.methodLink RL 130 yX7_setInstantaneous ∈ gw := gw_t (List.mem_of_getElem? (i := 871) (by decide +kernel)) (by decide +kernel)
theorem gl_123 : Cond.instanceMethod yX7_setInstantaneous ∈ gw := gw_t (List.mem_of_getElem? (i := 872) (by decide +kernel)) (by decide +kernel)
theorem gl_124 : Cond.selects RX7 yX7_setInstantaneous yX7_setInstantaneous ∈ gw := gw_t (List.mem_of_getElem? (i := 873) (by decide +kernel)) (by decide +kernel)
theorem gl_125 : Cond.code yX7_setInstantaneous cX7_setInstantaneous 3 (some .int) ∈ gw := gw_t (List.mem_of_getElem? (i := 874) (by decide +kernel)) (by decide +kernel)
theorem gl_126 : Cond.methodLink RL 133 yX7_setShots ∈ gw := gw_t (List.mem_of_getElem? (i := 876) (by decide +kernel)) (by decide +kernel)
theorem gl_127 : Cond.instanceMethod yX7_setShots ∈ gw := gw_t (List.mem_of_getElem? (i := 877) (by decide +kernel)) (by decide +kernel)
theorem gl_128 : Cond.selects RX7 yX7_setShots yX7_setShots ∈ gw := gw_t (List.mem_of_getElem? (i := 878) (by decide +kernel)) (by decide +kernel)
theorem gl_129 : Cond.code yX7_setShots cX7_setShots 3 (some .int) ∈ gw := gw_t (List.mem_of_getElem? (i := 879) (by decide +kernel)) (by decide +kernel)
theorem gl_130 : Cond.methodLink RL 137 yX7_setStuck ∈ gw := gw_t (List.mem_of_getElem? (i := 880) (by decide +kernel)) (by decide +kernel)
theorem gl_131 : Cond.instanceMethod yX7_setStuck ∈ gw := gw_t (List.mem_of_getElem? (i := 881) (by decide +kernel)) (by decide +kernel)
theorem gl_132 : Cond.selects RX7 yX7_setStuck yX7_setStuck ∈ gw := gw_t (List.mem_of_getElem? (i := 882) (by decide +kernel)) (by decide +kernel)
theorem gl_133 : Cond.code yX7_setStuck cX7_setStuck 3 (some .boolean) ∈ gw := gw_t (List.mem_of_getElem? (i := 883) (by decide +kernel)) (by decide +kernel)
theorem gl_134 : Cond.methodLink RL 140 yX7_pickup ∈ gw := gw_t (List.mem_of_getElem? (i := 884) (by decide +kernel)) (by decide +kernel)
theorem gl_135 : Cond.instanceMethod yX7_pickup ∈ gw := gw_t (List.mem_of_getElem? (i := 885) (by decide +kernel)) (by decide +kernel)
theorem gl_136 : Cond.selects RX7 yX7_pickup yX7_pickup ∈ gw := gw_t (List.mem_of_getElem? (i := 886) (by decide +kernel)) (by decide +kernel)
theorem gl_137 : Cond.code yX7_pickup cX7_pickup 2 (some .int) ∈ gw := gw_t (List.mem_of_getElem? (i := 887) (by decide +kernel)) (by decide +kernel)
theorem gl_138 : Cond.methodLink RL 143 yX7_steps ∈ gw := gw_t (List.mem_of_getElem? (i := 892) (by decide +kernel)) (by decide +kernel)
theorem gl_139 : Cond.instanceMethod yX7_steps ∈ gw := gw_t (List.mem_of_getElem? (i := 893) (by decide +kernel)) (by decide +kernel)
theorem gl_140 : Cond.selects RX7 yX7_steps yX7_steps ∈ gw := gw_t (List.mem_of_getElem? (i := 894) (by decide +kernel)) (by decide +kernel)
theorem gl_141 : Cond.code yX7_steps cX7_steps 2 (some .int) ∈ gw := gw_t (List.mem_of_getElem? (i := 895) (by decide +kernel)) (by decide +kernel)
theorem gl_142 : Cond.methodLink RL 146 yX7_upstream ∈ gw := gw_t (List.mem_of_getElem? (i := 896) (by decide +kernel)) (by decide +kernel)
theorem gl_143 : Cond.instanceMethod yX7_upstream ∈ gw := gw_t (List.mem_of_getElem? (i := 897) (by decide +kernel)) (by decide +kernel)
theorem gl_144 : Cond.selects RX7 yX7_upstream yX7_upstream ∈ gw := gw_t (List.mem_of_getElem? (i := 898) (by decide +kernel)) (by decide +kernel)
theorem gl_145 : Cond.code yX7_upstream cX7_upstream 3 (some .int) ∈ gw := gw_t (List.mem_of_getElem? (i := 899) (by decide +kernel)) (by decide +kernel)
theorem gl_146 : Cond.methodLink RL 150 yX7_operatingTime ∈ gw := gw_t (List.mem_of_getElem? (i := 900) (by decide +kernel)) (by decide +kernel)
theorem gl_147 : Cond.instanceMethod yX7_operatingTime ∈ gw := gw_t (List.mem_of_getElem? (i := 901) (by decide +kernel)) (by decide +kernel)
theorem gl_148 : Cond.selects RX7 yX7_operatingTime yX7_operatingTime ∈ gw := gw_t (List.mem_of_getElem? (i := 902) (by decide +kernel)) (by decide +kernel)
theorem gl_149 : Cond.code yX7_operatingTime cX7_operatingTime 4 (some .double) ∈ gw := gw_t (List.mem_of_getElem? (i := 903) (by decide +kernel)) (by decide +kernel)
theorem gl_150 : Cond.methodLink RL 154 yX7_sensitivity ∈ gw := gw_t (List.mem_of_getElem? (i := 915) (by decide +kernel)) (by decide +kernel)
theorem gl_151 : Cond.instanceMethod yX7_sensitivity ∈ gw := gw_t (List.mem_of_getElem? (i := 916) (by decide +kernel)) (by decide +kernel)
theorem gl_152 : Cond.selects RX7 yX7_sensitivity yX7_sensitivity ∈ gw := gw_t (List.mem_of_getElem? (i := 917) (by decide +kernel)) (by decide +kernel)
theorem gl_153 : Cond.code yX7_sensitivity cX7_sensitivity 2 (some .double) ∈ gw := gw_t (List.mem_of_getElem? (i := 918) (by decide +kernel)) (by decide +kernel)
theorem gl_154 : Cond.methodLink RL 158 yX7_setMargin ∈ gw := gw_t (List.mem_of_getElem? (i := 920) (by decide +kernel)) (by decide +kernel)
theorem gl_155 : Cond.instanceMethod yX7_setMargin ∈ gw := gw_t (List.mem_of_getElem? (i := 921) (by decide +kernel)) (by decide +kernel)
theorem gl_156 : Cond.selects RX7 yX7_setMargin yX7_setMargin ∈ gw := gw_t (List.mem_of_getElem? (i := 922) (by decide +kernel)) (by decide +kernel)
theorem gl_157 : Cond.code yX7_setMargin cX7_setMargin 5 (some .double) ∈ gw := gw_t (List.mem_of_getElem? (i := 923) (by decide +kernel)) (by decide +kernel)
theorem gl_158 : Cond.methodLink RL 161 yX7_margin ∈ gw := gw_t (List.mem_of_getElem? (i := 925) (by decide +kernel)) (by decide +kernel)
theorem gl_159 : Cond.instanceMethod yX7_margin ∈ gw := gw_t (List.mem_of_getElem? (i := 926) (by decide +kernel)) (by decide +kernel)
theorem gl_160 : Cond.selects RX7 yX7_margin yX7_margin ∈ gw := gw_t (List.mem_of_getElem? (i := 927) (by decide +kernel)) (by decide +kernel)
theorem gl_161 : Cond.code yX7_margin cX7_margin 3 (some .double) ∈ gw := gw_t (List.mem_of_getElem? (i := 928) (by decide +kernel)) (by decide +kernel)
theorem gl_162 : Cond.methodLink RL 162 yX6_violationCount ∈ gw := gw_t (List.mem_of_getElem? (i := 214) (by decide +kernel)) (by decide +kernel)
theorem gl_163 : Cond.instanceMethod yX6_violationCount ∈ gw := gw_t (List.mem_of_getElem? (i := 215) (by decide +kernel)) (by decide +kernel)
theorem gl_164 : Cond.selects RX6 yX6_violationCount yX6_violationCount ∈ gw := gw_t (List.mem_of_getElem? (i := 216) (by decide +kernel)) (by decide +kernel)
theorem gl_165 : Cond.code yX6_violationCount cX6_violationCount 1 (some .int) ∈ gw := gw_t (List.mem_of_getElem? (i := 217) (by decide +kernel)) (by decide +kernel)
theorem gl_166 : Cond.methodLink RL 165 yX7_violationCount ∈ gw := gw_t (List.mem_of_getElem? (i := 934) (by decide +kernel)) (by decide +kernel)
theorem gl_167 : Cond.instanceMethod yX7_violationCount ∈ gw := gw_t (List.mem_of_getElem? (i := 935) (by decide +kernel)) (by decide +kernel)
theorem gl_168 : Cond.selects RX7 yX7_violationCount yX7_violationCount ∈ gw := gw_t (List.mem_of_getElem? (i := 936) (by decide +kernel)) (by decide +kernel)
theorem gl_169 : Cond.code yX7_violationCount cX7_violationCount 1 (some .int) ∈ gw := gw_t (List.mem_of_getElem? (i := 937) (by decide +kernel)) (by decide +kernel)
theorem gl_170 : Cond.methodLink RL 168 yX7_violation ∈ gw := gw_t (List.mem_of_getElem? (i := 950) (by decide +kernel)) (by decide +kernel)
theorem gl_171 : Cond.instanceMethod yX7_violation ∈ gw := gw_t (List.mem_of_getElem? (i := 951) (by decide +kernel)) (by decide +kernel)
theorem gl_172 : Cond.selects RX7 yX7_violation yX7_violation ∈ gw := gw_t (List.mem_of_getElem? (i := 952) (by decide +kernel)) (by decide +kernel)
theorem gl_173 : Cond.code yX7_violation cX7_violation 5 (some .int) ∈ gw := gw_t (List.mem_of_getElem? (i := 953) (by decide +kernel)) (by decide +kernel)
theorem gl_174 : Cond.methodLink RL 171 yX7_autoPickup ∈ gw := gw_t (List.mem_of_getElem? (i := 954) (by decide +kernel)) (by decide +kernel)
theorem gl_175 : Cond.instanceMethod yX7_autoPickup ∈ gw := gw_t (List.mem_of_getElem? (i := 955) (by decide +kernel)) (by decide +kernel)
theorem gl_176 : Cond.selects RX7 yX7_autoPickup yX7_autoPickup ∈ gw := gw_t (List.mem_of_getElem? (i := 956) (by decide +kernel)) (by decide +kernel)
theorem gl_177 : Cond.code yX7_autoPickup cX7_autoPickup 5 (some .int) ∈ gw := gw_t (List.mem_of_getElem? (i := 957) (by decide +kernel)) (by decide +kernel)
theorem gl_178 : Cond.methodLink RL 172 yX6_autoGrade ∈ gw := gw_t (List.mem_of_getElem? (i := 256) (by decide +kernel)) (by decide +kernel)
theorem gl_179 : Cond.instanceMethod yX6_autoGrade ∈ gw := gw_t (List.mem_of_getElem? (i := 257) (by decide +kernel)) (by decide +kernel)
theorem gl_180 : Cond.selects RX6 yX6_autoGrade yX6_autoGrade ∈ gw := gw_t (List.mem_of_getElem? (i := 258) (by decide +kernel)) (by decide +kernel)
theorem gl_181 : Cond.code yX6_autoGrade cX6_autoGrade 3 (some .int) ∈ gw := gw_t (List.mem_of_getElem? (i := 259) (by decide +kernel)) (by decide +kernel)
theorem gl_182 : Cond.methodLink RL 175 yX7_autoGrade ∈ gw := gw_t (List.mem_of_getElem? (i := 958) (by decide +kernel)) (by decide +kernel)
theorem gl_183 : Cond.instanceMethod yX7_autoGrade ∈ gw := gw_t (List.mem_of_getElem? (i := 959) (by decide +kernel)) (by decide +kernel)
theorem gl_184 : Cond.selects RX7 yX7_autoGrade yX7_autoGrade ∈ gw := gw_t (List.mem_of_getElem? (i := 960) (by decide +kernel)) (by decide +kernel)
theorem gl_185 : Cond.code yX7_autoGrade cX7_autoGrade 4 (some .int) ∈ gw := gw_t (List.mem_of_getElem? (i := 961) (by decide +kernel)) (by decide +kernel)
theorem gl_186 : Cond.methodLink RL 179 yX7_simulate ∈ gw := gw_t (List.mem_of_getElem? (i := 966) (by decide +kernel)) (by decide +kernel)
theorem gl_187 : Cond.instanceMethod yX7_simulate ∈ gw := gw_t (List.mem_of_getElem? (i := 967) (by decide +kernel)) (by decide +kernel)
theorem gl_188 : Cond.selects RX7 yX7_simulate yX7_simulate ∈ gw := gw_t (List.mem_of_getElem? (i := 968) (by decide +kernel)) (by decide +kernel)
theorem gl_189 : Cond.code yX7_simulate cX7_simulate 9 (some .int) ∈ gw := gw_t (List.mem_of_getElem? (i := 969) (by decide +kernel)) (by decide +kernel)
theorem gl_190 : Cond.methodLink RL 180 yX6_eventCount ∈ gw := gw_t (List.mem_of_getElem? (i := 296) (by decide +kernel)) (by decide +kernel)
theorem gl_191 : Cond.instanceMethod yX6_eventCount ∈ gw := gw_t (List.mem_of_getElem? (i := 297) (by decide +kernel)) (by decide +kernel)
theorem gl_192 : Cond.selects RX6 yX6_eventCount yX6_eventCount ∈ gw := gw_t (List.mem_of_getElem? (i := 298) (by decide +kernel)) (by decide +kernel)
theorem gl_193 : Cond.code yX6_eventCount cX6_eventCount 1 (some .int) ∈ gw := gw_t (List.mem_of_getElem? (i := 299) (by decide +kernel)) (by decide +kernel)
theorem gl_194 : Cond.methodLink RL 183 yX7_eventCount ∈ gw := gw_t (List.mem_of_getElem? (i := 994) (by decide +kernel)) (by decide +kernel)
theorem gl_195 : Cond.instanceMethod yX7_eventCount ∈ gw := gw_t (List.mem_of_getElem? (i := 995) (by decide +kernel)) (by decide +kernel)
theorem gl_196 : Cond.selects RX7 yX7_eventCount yX7_eventCount ∈ gw := gw_t (List.mem_of_getElem? (i := 996) (by decide +kernel)) (by decide +kernel)
theorem gl_197 : Cond.code yX7_eventCount cX7_eventCount 1 (some .int) ∈ gw := gw_t (List.mem_of_getElem? (i := 997) (by decide +kernel)) (by decide +kernel)
theorem gl_198 : Cond.methodLink RL 186 yX7_event ∈ gw := gw_t (List.mem_of_getElem? (i := 998) (by decide +kernel)) (by decide +kernel)
theorem gl_199 : Cond.instanceMethod yX7_event ∈ gw := gw_t (List.mem_of_getElem? (i := 999) (by decide +kernel)) (by decide +kernel)
theorem gl_200 : Cond.selects RX7 yX7_event yX7_event ∈ gw := gw_t (List.mem_of_getElem? (i := 1000) (by decide +kernel)) (by decide +kernel)
theorem gl_201 : Cond.code yX7_event cX7_event 2 (some .int) ∈ gw := gw_t (List.mem_of_getElem? (i := 1001) (by decide +kernel)) (by decide +kernel)
theorem gl_202 : Cond.methodLink RL 189 yX7_eventTime ∈ gw := gw_t (List.mem_of_getElem? (i := 1002) (by decide +kernel)) (by decide +kernel)
theorem gl_203 : Cond.instanceMethod yX7_eventTime ∈ gw := gw_t (List.mem_of_getElem? (i := 1003) (by decide +kernel)) (by decide +kernel)
theorem gl_204 : Cond.selects RX7 yX7_eventTime yX7_eventTime ∈ gw := gw_t (List.mem_of_getElem? (i := 1004) (by decide +kernel)) (by decide +kernel)
theorem gl_205 : Cond.code yX7_eventTime cX7_eventTime 2 (some .double) ∈ gw := gw_t (List.mem_of_getElem? (i := 1005) (by decide +kernel)) (by decide +kernel)
theorem gl_206 : Cond.methodLink RL 190 yX6_clearedTime ∈ gw := gw_t (List.mem_of_getElem? (i := 300) (by decide +kernel)) (by decide +kernel)
theorem gl_207 : Cond.instanceMethod yX6_clearedTime ∈ gw := gw_t (List.mem_of_getElem? (i := 301) (by decide +kernel)) (by decide +kernel)
theorem gl_208 : Cond.selects RX6 yX6_clearedTime yX6_clearedTime ∈ gw := gw_t (List.mem_of_getElem? (i := 302) (by decide +kernel)) (by decide +kernel)
theorem gl_209 : Cond.code yX6_clearedTime cX6_clearedTime 1 (some .double) ∈ gw := gw_t (List.mem_of_getElem? (i := 303) (by decide +kernel)) (by decide +kernel)
theorem gl_210 : Cond.methodLink RL 194 yX7_clearedTime ∈ gw := gw_t (List.mem_of_getElem? (i := 1006) (by decide +kernel)) (by decide +kernel)
theorem gl_211 : Cond.instanceMethod yX7_clearedTime ∈ gw := gw_t (List.mem_of_getElem? (i := 1007) (by decide +kernel)) (by decide +kernel)
theorem gl_212 : Cond.selects RX7 yX7_clearedTime yX7_clearedTime ∈ gw := gw_t (List.mem_of_getElem? (i := 1008) (by decide +kernel)) (by decide +kernel)
theorem gl_213 : Cond.code yX7_clearedTime cX7_clearedTime 1 (some .double) ∈ gw := gw_t (List.mem_of_getElem? (i := 1009) (by decide +kernel)) (by decide +kernel)
theorem gl_214 : Cond.methodLink RL 195 yX6_openBreakers ∈ gw := gw_t (List.mem_of_getElem? (i := 304) (by decide +kernel)) (by decide +kernel)
theorem gl_215 : Cond.instanceMethod yX6_openBreakers ∈ gw := gw_t (List.mem_of_getElem? (i := 305) (by decide +kernel)) (by decide +kernel)
theorem gl_216 : Cond.selects RX6 yX6_openBreakers yX6_openBreakers ∈ gw := gw_t (List.mem_of_getElem? (i := 306) (by decide +kernel)) (by decide +kernel)
theorem gl_217 : Cond.code yX6_openBreakers cX6_openBreakers 1 (some .int) ∈ gw := gw_t (List.mem_of_getElem? (i := 307) (by decide +kernel)) (by decide +kernel)
theorem gl_218 : Cond.methodLink RL 198 yX7_openBreakers ∈ gw := gw_t (List.mem_of_getElem? (i := 1010) (by decide +kernel)) (by decide +kernel)
theorem gl_219 : Cond.instanceMethod yX7_openBreakers ∈ gw := gw_t (List.mem_of_getElem? (i := 1011) (by decide +kernel)) (by decide +kernel)
theorem gl_220 : Cond.selects RX7 yX7_openBreakers yX7_openBreakers ∈ gw := gw_t (List.mem_of_getElem? (i := 1012) (by decide +kernel)) (by decide +kernel)
theorem gl_221 : Cond.code yX7_openBreakers cX7_openBreakers 1 (some .int) ∈ gw := gw_t (List.mem_of_getElem? (i := 1013) (by decide +kernel)) (by decide +kernel)
theorem gl_222 : Cond.methodLink RL 199 yX6_lostLoad ∈ gw := gw_t (List.mem_of_getElem? (i := 308) (by decide +kernel)) (by decide +kernel)
theorem gl_223 : Cond.instanceMethod yX6_lostLoad ∈ gw := gw_t (List.mem_of_getElem? (i := 309) (by decide +kernel)) (by decide +kernel)
theorem gl_224 : Cond.selects RX6 yX6_lostLoad yX6_lostLoad ∈ gw := gw_t (List.mem_of_getElem? (i := 310) (by decide +kernel)) (by decide +kernel)
theorem gl_225 : Cond.code yX6_lostLoad cX6_lostLoad 1 (some .int) ∈ gw := gw_t (List.mem_of_getElem? (i := 311) (by decide +kernel)) (by decide +kernel)
theorem gl_226 : Cond.methodLink RL 202 yX7_lostLoad ∈ gw := gw_t (List.mem_of_getElem? (i := 1018) (by decide +kernel)) (by decide +kernel)
theorem gl_227 : Cond.instanceMethod yX7_lostLoad ∈ gw := gw_t (List.mem_of_getElem? (i := 1019) (by decide +kernel)) (by decide +kernel)
theorem gl_228 : Cond.selects RX7 yX7_lostLoad yX7_lostLoad ∈ gw := gw_t (List.mem_of_getElem? (i := 1020) (by decide +kernel)) (by decide +kernel)
theorem gl_229 : Cond.code yX7_lostLoad cX7_lostLoad 3 (some .int) ∈ gw := gw_t (List.mem_of_getElem? (i := 1021) (by decide +kernel)) (by decide +kernel)
theorem gl_230 : Cond.methodLink RL 203 yX6_closeAll ∈ gw := gw_t (List.mem_of_getElem? (i := 316) (by decide +kernel)) (by decide +kernel)
theorem gl_231 : Cond.instanceMethod yX6_closeAll ∈ gw := gw_t (List.mem_of_getElem? (i := 317) (by decide +kernel)) (by decide +kernel)
theorem gl_232 : Cond.selects RX6 yX6_closeAll yX6_closeAll ∈ gw := gw_t (List.mem_of_getElem? (i := 318) (by decide +kernel)) (by decide +kernel)
theorem gl_233 : Cond.code yX6_closeAll cX6_closeAll 2 (some .int) ∈ gw := gw_t (List.mem_of_getElem? (i := 319) (by decide +kernel)) (by decide +kernel)
theorem gl_234 : Cond.methodLink RL 206 yX7_closeAll ∈ gw := gw_t (List.mem_of_getElem? (i := 1022) (by decide +kernel)) (by decide +kernel)
theorem gl_235 : Cond.instanceMethod yX7_closeAll ∈ gw := gw_t (List.mem_of_getElem? (i := 1023) (by decide +kernel)) (by decide +kernel)
theorem gl_236 : Cond.selects RX7 yX7_closeAll yX7_closeAll ∈ gw := gw_t (List.mem_of_getElem? (i := 1024) (by decide +kernel)) (by decide +kernel)
theorem gl_237 : Cond.code yX7_closeAll cX7_closeAll 3 (some .int) ∈ gw := gw_t (List.mem_of_getElem? (i := 1025) (by decide +kernel)) (by decide +kernel)
theorem gl_238 : Cond.methodLink RL 210 yX7_undo ∈ gw := gw_t (List.mem_of_getElem? (i := 1026) (by decide +kernel)) (by decide +kernel)
theorem gl_239 : Cond.instanceMethod yX7_undo ∈ gw := gw_t (List.mem_of_getElem? (i := 1027) (by decide +kernel)) (by decide +kernel)
theorem gl_240 : Cond.selects RX7 yX7_undo yX7_undo ∈ gw := gw_t (List.mem_of_getElem? (i := 1028) (by decide +kernel)) (by decide +kernel)
theorem gl_241 : Cond.code yX7_undo cX7_undo 2 (some .int) ∈ gw := gw_t (List.mem_of_getElem? (i := 1029) (by decide +kernel)) (by decide +kernel)
theorem gl_242 : Cond.methodLink RL 211 yX6_digest ∈ gw := gw_t (List.mem_of_getElem? (i := 326) (by decide +kernel)) (by decide +kernel)
theorem gl_243 : Cond.instanceMethod yX6_digest ∈ gw := gw_t (List.mem_of_getElem? (i := 327) (by decide +kernel)) (by decide +kernel)
theorem gl_244 : Cond.selects RX6 yX6_digest yX6_digest ∈ gw := gw_t (List.mem_of_getElem? (i := 328) (by decide +kernel)) (by decide +kernel)
theorem gl_245 : Cond.code yX6_digest cX6_digest 4 (some .long) ∈ gw := gw_t (List.mem_of_getElem? (i := 329) (by decide +kernel)) (by decide +kernel)
theorem gl_246 : Cond.methodLink RL 215 yX7_digest ∈ gw := gw_t (List.mem_of_getElem? (i := 1030) (by decide +kernel)) (by decide +kernel)
theorem gl_247 : Cond.instanceMethod yX7_digest ∈ gw := gw_t (List.mem_of_getElem? (i := 1031) (by decide +kernel)) (by decide +kernel)
theorem gl_248 : Cond.selects RX7 yX7_digest yX7_digest ∈ gw := gw_t (List.mem_of_getElem? (i := 1032) (by decide +kernel)) (by decide +kernel)
theorem gl_249 : Cond.code yX7_digest cX7_digest 5 (some .long) ∈ gw := gw_t (List.mem_of_getElem? (i := 1033) (by decide +kernel)) (by decide +kernel)
theorem gl_250 : Cond.methodLink RL 99 yL_setSource ∈ gw := gw_t (List.mem_of_getElem? (i := 358) (by decide +kernel)) (by decide +kernel)
theorem gl_251 : Cond.static yL_setSource ∈ gw := gw_t (List.mem_of_getElem? (i := 359) (by decide +kernel)) (by decide +kernel)
theorem gl_252 : Cond.initialized RL ∈ gw := gw_t (List.mem_of_getElem? (i := 0) (by decide +kernel)) (by decide +kernel)
theorem gl_253 : Cond.codeWith yL_setSource cL_setSource 7 (some .int) [(0, 10, 13, 13)] ∈ gw := gw_t (List.mem_of_getElem? (i := 360) (by decide +kernel)) (by decide +kernel)
theorem gl_254 : Cond.methodLink RL 108 yL_addLine ∈ gw := gw_t (List.mem_of_getElem? (i := 445) (by decide +kernel)) (by decide +kernel)
theorem gl_255 : Cond.static yL_addLine ∈ gw := gw_t (List.mem_of_getElem? (i := 446) (by decide +kernel)) (by decide +kernel)
theorem gl_256 : Cond.codeWith yL_addLine cL_addLine 6 (some .int) [(0, 11, 14, 13), (0, 11, 18, 19)] ∈ gw := gw_t (List.mem_of_getElem? (i := 447) (by decide +kernel)) (by decide +kernel)
theorem gl_257 : Cond.methodLink RL 112 yL_setLoad ∈ gw := gw_t (List.mem_of_getElem? (i := 477) (by decide +kernel)) (by decide +kernel)
theorem gl_258 : Cond.static yL_setLoad ∈ gw := gw_t (List.mem_of_getElem? (i := 478) (by decide +kernel)) (by decide +kernel)
theorem gl_259 : Cond.codeWith yL_setLoad cL_setLoad 5 (some .int) [(0, 10, 13, 13)] ∈ gw := gw_t (List.mem_of_getElem? (i := 479) (by decide +kernel)) (by decide +kernel)
theorem gl_260 : Cond.methodLink RL 116 yL_loadCurrent ∈ gw := gw_t (List.mem_of_getElem? (i := 486) (by decide +kernel)) (by decide +kernel)
theorem gl_261 : Cond.static yL_loadCurrent ∈ gw := gw_t (List.mem_of_getElem? (i := 487) (by decide +kernel)) (by decide +kernel)
theorem gl_262 : Cond.codeWith yL_loadCurrent cL_loadCurrent 4 (some .int) [(0, 9, 12, 13)] ∈ gw := gw_t (List.mem_of_getElem? (i := 488) (by decide +kernel)) (by decide +kernel)
theorem gl_263 : Cond.methodLink RL 120 yL_faultCurrent ∈ gw := gw_t (List.mem_of_getElem? (i := 498) (by decide +kernel)) (by decide +kernel)
theorem gl_264 : Cond.static yL_faultCurrent ∈ gw := gw_t (List.mem_of_getElem? (i := 499) (by decide +kernel)) (by decide +kernel)
theorem gl_265 : Cond.codeWith yL_faultCurrent cL_faultCurrent 5 (some .int) [(0, 9, 12, 13)] ∈ gw := gw_t (List.mem_of_getElem? (i := 500) (by decide +kernel)) (by decide +kernel)
theorem gl_266 : Cond.methodLink RL 124 yL_setRelay ∈ gw := gw_t (List.mem_of_getElem? (i := 509) (by decide +kernel)) (by decide +kernel)
theorem gl_267 : Cond.static yL_setRelay ∈ gw := gw_t (List.mem_of_getElem? (i := 510) (by decide +kernel)) (by decide +kernel)
theorem gl_268 : Cond.codeWith yL_setRelay cL_setRelay 7 (some .int) [(0, 14, 17, 13)] ∈ gw := gw_t (List.mem_of_getElem? (i := 511) (by decide +kernel)) (by decide +kernel)
theorem gl_269 : Cond.methodLink RL 128 yL_setInstantaneous ∈ gw := gw_t (List.mem_of_getElem? (i := 519) (by decide +kernel)) (by decide +kernel)
theorem gl_270 : Cond.static yL_setInstantaneous ∈ gw := gw_t (List.mem_of_getElem? (i := 520) (by decide +kernel)) (by decide +kernel)
theorem gl_271 : Cond.codeWith yL_setInstantaneous cL_setInstantaneous 5 (some .int) [(0, 10, 13, 13)] ∈ gw := gw_t (List.mem_of_getElem? (i := 521) (by decide +kernel)) (by decide +kernel)
theorem gl_272 : Cond.methodLink RL 131 yL_setShots ∈ gw := gw_t (List.mem_of_getElem? (i := 528) (by decide +kernel)) (by decide +kernel)
theorem gl_273 : Cond.static yL_setShots ∈ gw := gw_t (List.mem_of_getElem? (i := 529) (by decide +kernel)) (by decide +kernel)
theorem gl_274 : Cond.codeWith yL_setShots cL_setShots 5 (some .int) [(0, 10, 13, 13)] ∈ gw := gw_t (List.mem_of_getElem? (i := 530) (by decide +kernel)) (by decide +kernel)
theorem gl_275 : Cond.methodLink RL 134 yL_setStuck ∈ gw := gw_t (List.mem_of_getElem? (i := 536) (by decide +kernel)) (by decide +kernel)
theorem gl_276 : Cond.static yL_setStuck ∈ gw := gw_t (List.mem_of_getElem? (i := 537) (by decide +kernel)) (by decide +kernel)
theorem gl_277 : Cond.codeWith yL_setStuck cL_setStuck 5 (some .int) [(0, 17, 20, 13)] ∈ gw := gw_t (List.mem_of_getElem? (i := 538) (by decide +kernel)) (by decide +kernel)
theorem gl_278 : Cond.methodLink RL 138 yL_pickup ∈ gw := gw_t (List.mem_of_getElem? (i := 547) (by decide +kernel)) (by decide +kernel)
theorem gl_279 : Cond.static yL_pickup ∈ gw := gw_t (List.mem_of_getElem? (i := 548) (by decide +kernel)) (by decide +kernel)
theorem gl_280 : Cond.codeWith yL_pickup cL_pickup 4 (some .int) [(0, 9, 12, 13)] ∈ gw := gw_t (List.mem_of_getElem? (i := 549) (by decide +kernel)) (by decide +kernel)
theorem gl_281 : Cond.methodLink RL 141 yL_steps ∈ gw := gw_t (List.mem_of_getElem? (i := 554) (by decide +kernel)) (by decide +kernel)
theorem gl_282 : Cond.static yL_steps ∈ gw := gw_t (List.mem_of_getElem? (i := 555) (by decide +kernel)) (by decide +kernel)
theorem gl_283 : Cond.codeWith yL_steps cL_steps 4 (some .int) [(0, 9, 12, 13)] ∈ gw := gw_t (List.mem_of_getElem? (i := 556) (by decide +kernel)) (by decide +kernel)
theorem gl_284 : Cond.methodLink RL 144 yL_upstream ∈ gw := gw_t (List.mem_of_getElem? (i := 561) (by decide +kernel)) (by decide +kernel)
theorem gl_285 : Cond.static yL_upstream ∈ gw := gw_t (List.mem_of_getElem? (i := 562) (by decide +kernel)) (by decide +kernel)
theorem gl_286 : Cond.codeWith yL_upstream cL_upstream 4 (some .int) [(0, 9, 12, 13)] ∈ gw := gw_t (List.mem_of_getElem? (i := 563) (by decide +kernel)) (by decide +kernel)
theorem gl_287 : Cond.methodLink RL 147 yL_operatingTime ∈ gw := gw_t (List.mem_of_getElem? (i := 569) (by decide +kernel)) (by decide +kernel)
theorem gl_288 : Cond.static yL_operatingTime ∈ gw := gw_t (List.mem_of_getElem? (i := 570) (by decide +kernel)) (by decide +kernel)
theorem gl_289 : Cond.codeWith yL_operatingTime cL_operatingTime 6 (some .int) [(0, 10, 13, 13)] ∈ gw := gw_t (List.mem_of_getElem? (i := 571) (by decide +kernel)) (by decide +kernel)
theorem gl_290 : Cond.methodLink RL 151 yL_sensitivity ∈ gw := gw_t (List.mem_of_getElem? (i := 579) (by decide +kernel)) (by decide +kernel)
theorem gl_291 : Cond.static yL_sensitivity ∈ gw := gw_t (List.mem_of_getElem? (i := 580) (by decide +kernel)) (by decide +kernel)
theorem gl_292 : Cond.codeWith yL_sensitivity cL_sensitivity 4 (some .int) [(0, 8, 11, 13)] ∈ gw := gw_t (List.mem_of_getElem? (i := 581) (by decide +kernel)) (by decide +kernel)
theorem gl_293 : Cond.methodLink RL 155 yL_setMargin ∈ gw := gw_t (List.mem_of_getElem? (i := 587) (by decide +kernel)) (by decide +kernel)
theorem gl_294 : Cond.static yL_setMargin ∈ gw := gw_t (List.mem_of_getElem? (i := 588) (by decide +kernel)) (by decide +kernel)
theorem gl_295 : Cond.codeWith yL_setMargin cL_setMargin 5 (some .int) [(0, 8, 11, 13)] ∈ gw := gw_t (List.mem_of_getElem? (i := 589) (by decide +kernel)) (by decide +kernel)
theorem gl_296 : Cond.methodLink RL 159 yL_margin ∈ gw := gw_t (List.mem_of_getElem? (i := 597) (by decide +kernel)) (by decide +kernel)
theorem gl_297 : Cond.static yL_margin ∈ gw := gw_t (List.mem_of_getElem? (i := 598) (by decide +kernel)) (by decide +kernel)
theorem gl_298 : Cond.codeWith yL_margin cL_margin 5 (some .int) [(0, 9, 12, 13), (0, 9, 16, 19)] ∈ gw := gw_t (List.mem_of_getElem? (i := 599) (by decide +kernel)) (by decide +kernel)
theorem gl_299 : Cond.methodLink RL 166 yL_violation ∈ gw := gw_t (List.mem_of_getElem? (i := 606) (by decide +kernel)) (by decide +kernel)
theorem gl_300 : Cond.static yL_violation ∈ gw := gw_t (List.mem_of_getElem? (i := 607) (by decide +kernel)) (by decide +kernel)
theorem gl_301 : Cond.codeWith yL_violation cL_violation 4 (some .int) [(0, 9, 12, 74)] ∈ gw := gw_t (List.mem_of_getElem? (i := 608) (by decide +kernel)) (by decide +kernel)
theorem gl_302 : Cond.methodLink RL 169 yL_autoPickup ∈ gw := gw_t (List.mem_of_getElem? (i := 638) (by decide +kernel)) (by decide +kernel)
theorem gl_303 : Cond.static yL_autoPickup ∈ gw := gw_t (List.mem_of_getElem? (i := 639) (by decide +kernel)) (by decide +kernel)
theorem gl_304 : Cond.codeWith yL_autoPickup cL_autoPickup 4 (some .int) [(0, 9, 12, 13)] ∈ gw := gw_t (List.mem_of_getElem? (i := 640) (by decide +kernel)) (by decide +kernel)
theorem gl_305 : Cond.methodLink RL 176 yL_simulate ∈ gw := gw_t (List.mem_of_getElem? (i := 652) (by decide +kernel)) (by decide +kernel)
theorem gl_306 : Cond.static yL_simulate ∈ gw := gw_t (List.mem_of_getElem? (i := 653) (by decide +kernel)) (by decide +kernel)
theorem gl_307 : Cond.codeWith yL_simulate cL_simulate 7 (some .int) [(0, 12, 15, 13)] ∈ gw := gw_t (List.mem_of_getElem? (i := 654) (by decide +kernel)) (by decide +kernel)
theorem gl_308 : Cond.methodLink RL 184 yL_event ∈ gw := gw_t (List.mem_of_getElem? (i := 709) (by decide +kernel)) (by decide +kernel)
theorem gl_309 : Cond.static yL_event ∈ gw := gw_t (List.mem_of_getElem? (i := 710) (by decide +kernel)) (by decide +kernel)
theorem gl_310 : Cond.codeWith yL_event cL_event 4 (some .int) [(0, 9, 12, 74)] ∈ gw := gw_t (List.mem_of_getElem? (i := 711) (by decide +kernel)) (by decide +kernel)
theorem gl_311 : Cond.methodLink RL 187 yL_eventTime ∈ gw := gw_t (List.mem_of_getElem? (i := 721) (by decide +kernel)) (by decide +kernel)
theorem gl_312 : Cond.static yL_eventTime ∈ gw := gw_t (List.mem_of_getElem? (i := 722) (by decide +kernel)) (by decide +kernel)
theorem gl_313 : Cond.codeWith yL_eventTime cL_eventTime 4 (some .int) [(0, 8, 11, 74)] ∈ gw := gw_t (List.mem_of_getElem? (i := 723) (by decide +kernel)) (by decide +kernel)
theorem gl_314 : Cond.methodLink RL 207 yL_undo ∈ gw := gw_t (List.mem_of_getElem? (i := 728) (by decide +kernel)) (by decide +kernel)
theorem gl_315 : Cond.static yL_undo ∈ gw := gw_t (List.mem_of_getElem? (i := 729) (by decide +kernel)) (by decide +kernel)
theorem gl_316 : Cond.codeWith yL_undo cL_undo 3 (some .int) [(0, 8, 11, 19)] ∈ gw := gw_t (List.mem_of_getElem? (i := 730) (by decide +kernel)) (by decide +kernel)
theorem dL_setSource_0 : decode cL_setSource 0 = .ok (.aload 5, 2) := by decide +kernel
theorem dL_setSource_2 : decode cL_setSource 2 = .ok (.iconst 0, 1) := by decide +kernel
theorem dL_setSource_3 : decode cL_setSource 3 = .ok (.aload_n 0, 1) := by decide +kernel
theorem dL_setSource_4 : decode cL_setSource 4 = .ok (.dload_n 1, 1) := by decide +kernel
theorem dL_setSource_5 : decode cL_setSource 5 = .ok (.dload_n 3, 1) := by decide +kernel
theorem dL_setSource_6 : decode cL_setSource 6 = .ok (.invokevirtual 7, 3) := by decide +kernel
theorem dL_setSource_9 : decode cL_setSource 9 = .ok (.dastore, 1) := by decide +kernel
theorem dL_setSource_10 : decode cL_setSource 10 = .ok (.goto 7, 3) := by decide +kernel
theorem dL_setSource_13 : decode cL_setSource 13 = .ok (.astore 6, 2) := by decide +kernel
theorem dL_setSource_15 : decode cL_setSource 15 = .ok (.iconst 1, 1) := by decide +kernel
theorem dL_setSource_16 : decode cL_setSource 16 = .ok (.ireturn, 1) := by decide +kernel
theorem dL_setSource_17 : decode cL_setSource 17 = .ok (.iconst 0, 1) := by decide +kernel
theorem dL_setSource_18 : decode cL_setSource 18 = .ok (.ireturn, 1) := by decide +kernel
def tL_setSource : Tb := [(0, .inl (f_aload 5, 2)), (2, .inl (f_ci (0), 3)), (3, .inl (f_aload 0, 4)), (4, .inl (f_dload 1, 5)), (5, .inl (f_dload 3, 6)), (6, .inr (.inr (.inl (13, 9, 3, mX6_setSource)))), (9, .inr (.inr (.inl (5, 10, 0, m0)))), (10, .inl (f_id, 17)), (13, .inl (f_astore 7 6, 15)), (15, .inl (f_ci (1), 16)), (16, .inr (.inr (.inl (15, 17, 0, m0)))), (17, .inl (f_ci (0), 18)), (18, .inr (.inr (.inl (15, 19, 0, m0))))]
set_option maxRecDepth 10000 in
theorem kL_setSource {X : Ctx} (h : sCx X mL_setSource) : tab X mL_setSource tL_setSource :=
  tab_cons (eS (st_aload h dL_setSource_0)) (
  tab_cons (eS (st_iconst h (by decide +kernel) dL_setSource_2)) (
  tab_cons (eS (st_aloadn h rfl dL_setSource_3)) (
  tab_cons (eS (st_dloadn h rfl dL_setSource_4)) (
  tab_cons (eS (st_dloadn h rfl dL_setSource_5)) (
  tab_cons (eO (so_callV h gl_0 gl_1 gl_2 gw_27 gl_4 ⟨by decide +kernel, by decide +kernel, by decide +kernel, by decide +kernel⟩ ⟨by decide +kernel, by decide +kernel⟩ dL_setSource_6)) (
  tab_cons (eO (so_dastore h dL_setSource_9)) (
  tab_cons (eS (st_goto h dL_setSource_10 (by decide))) (
  tab_cons (eS (st_astore h dL_setSource_13)) (
  tab_cons (eS (st_iconst h (by decide +kernel) dL_setSource_15)) (
  tab_cons (eO (so_ireturn h dL_setSource_16)) (
  tab_cons (eS (st_iconst h (by decide +kernel) dL_setSource_17)) (
  tab_cons (eO (so_ireturn h dL_setSource_18)) (
  tab_nil)))))))))))))
theorem dL_addLine_0 : decode cL_addLine 0 = .ok (.aload 4, 2) := by decide +kernel
theorem dL_addLine_2 : decode cL_addLine 2 = .ok (.iconst 0, 1) := by decide +kernel
theorem dL_addLine_3 : decode cL_addLine 3 = .ok (.aload_n 0, 1) := by decide +kernel
theorem dL_addLine_4 : decode cL_addLine 4 = .ok (.iload_n 1, 1) := by decide +kernel
theorem dL_addLine_5 : decode cL_addLine 5 = .ok (.dload_n 2, 1) := by decide +kernel
theorem dL_addLine_6 : decode cL_addLine 6 = .ok (.invokevirtual 15, 3) := by decide +kernel
theorem dL_addLine_9 : decode cL_addLine 9 = .ok (.i2l, 1) := by decide +kernel
theorem dL_addLine_10 : decode cL_addLine 10 = .ok (.lastore, 1) := by decide +kernel
theorem dL_addLine_11 : decode cL_addLine 11 = .ok (.goto 11, 3) := by decide +kernel
theorem dL_addLine_14 : decode cL_addLine 14 = .ok (.astore 5, 2) := by decide +kernel
theorem dL_addLine_16 : decode cL_addLine 16 = .ok (.iconst 1, 1) := by decide +kernel
theorem dL_addLine_17 : decode cL_addLine 17 = .ok (.ireturn, 1) := by decide +kernel
theorem dL_addLine_18 : decode cL_addLine 18 = .ok (.astore 5, 2) := by decide +kernel
theorem dL_addLine_20 : decode cL_addLine 20 = .ok (.iconst 2, 1) := by decide +kernel
theorem dL_addLine_21 : decode cL_addLine 21 = .ok (.ireturn, 1) := by decide +kernel
theorem dL_addLine_22 : decode cL_addLine 22 = .ok (.iconst 0, 1) := by decide +kernel
theorem dL_addLine_23 : decode cL_addLine 23 = .ok (.ireturn, 1) := by decide +kernel
def tL_addLine : Tb := [(0, .inl (f_aload 4, 2)), (2, .inl (f_ci (0), 3)), (3, .inl (f_aload 0, 4)), (4, .inl (f_iload 1, 5)), (5, .inl (f_dload 2, 6)), (6, .inr (.inr (.inl (13, 9, 3, mX6_addLine)))), (9, .inl (f_i2l, 10)), (10, .inr (.inr (.inl (6, 11, 0, m0)))), (11, .inl (f_id, 22)), (14, .inl (f_astore 6 5, 16)), (16, .inl (f_ci (1), 17)), (17, .inr (.inr (.inl (15, 18, 0, m0)))), (18, .inl (f_astore 6 5, 20)), (20, .inl (f_ci (2), 21)), (21, .inr (.inr (.inl (15, 22, 0, m0)))), (22, .inl (f_ci (0), 23)), (23, .inr (.inr (.inl (15, 24, 0, m0))))]
set_option maxRecDepth 10000 in
theorem kL_addLine {X : Ctx} (h : sCx X mL_addLine) : tab X mL_addLine tL_addLine :=
  tab_cons (eS (st_aload h dL_addLine_0)) (
  tab_cons (eS (st_iconst h (by decide +kernel) dL_addLine_2)) (
  tab_cons (eS (st_aloadn h rfl dL_addLine_3)) (
  tab_cons (eS (st_iloadn h rfl dL_addLine_4)) (
  tab_cons (eS (st_dloadn h rfl dL_addLine_5)) (
  tab_cons (eO (so_callV h gl_5 gl_6 gl_7 gw_27 gl_8 ⟨by decide +kernel, by decide +kernel, by decide +kernel, by decide +kernel⟩ ⟨by decide +kernel, by decide +kernel⟩ dL_addLine_6)) (
  tab_cons (eS (st_i2l h dL_addLine_9)) (
  tab_cons (eO (so_lastore h dL_addLine_10)) (
  tab_cons (eS (st_goto h dL_addLine_11 (by decide))) (
  tab_cons (eS (st_astore h dL_addLine_14)) (
  tab_cons (eS (st_iconst h (by decide +kernel) dL_addLine_16)) (
  tab_cons (eO (so_ireturn h dL_addLine_17)) (
  tab_cons (eS (st_astore h dL_addLine_18)) (
  tab_cons (eS (st_iconst h (by decide +kernel) dL_addLine_20)) (
  tab_cons (eO (so_ireturn h dL_addLine_21)) (
  tab_cons (eS (st_iconst h (by decide +kernel) dL_addLine_22)) (
  tab_cons (eO (so_ireturn h dL_addLine_23)) (
  tab_nil)))))))))))))))))
theorem dL_setLoad_0 : decode cL_setLoad 0 = .ok (.aload_n 3, 1) := by decide +kernel
theorem dL_setLoad_1 : decode cL_setLoad 1 = .ok (.iconst 0, 1) := by decide +kernel
theorem dL_setLoad_2 : decode cL_setLoad 2 = .ok (.aload_n 0, 1) := by decide +kernel
theorem dL_setLoad_3 : decode cL_setLoad 3 = .ok (.iload_n 1, 1) := by decide +kernel
theorem dL_setLoad_4 : decode cL_setLoad 4 = .ok (.iload_n 2, 1) := by decide +kernel
theorem dL_setLoad_5 : decode cL_setLoad 5 = .ok (.invokevirtual 21, 3) := by decide +kernel
theorem dL_setLoad_8 : decode cL_setLoad 8 = .ok (.i2l, 1) := by decide +kernel
theorem dL_setLoad_9 : decode cL_setLoad 9 = .ok (.lastore, 1) := by decide +kernel
theorem dL_setLoad_10 : decode cL_setLoad 10 = .ok (.goto 7, 3) := by decide +kernel
theorem dL_setLoad_13 : decode cL_setLoad 13 = .ok (.astore 4, 2) := by decide +kernel
theorem dL_setLoad_15 : decode cL_setLoad 15 = .ok (.iconst 1, 1) := by decide +kernel
theorem dL_setLoad_16 : decode cL_setLoad 16 = .ok (.ireturn, 1) := by decide +kernel
theorem dL_setLoad_17 : decode cL_setLoad 17 = .ok (.iconst 0, 1) := by decide +kernel
theorem dL_setLoad_18 : decode cL_setLoad 18 = .ok (.ireturn, 1) := by decide +kernel
def tL_setLoad : Tb := [(0, .inl (f_aload 3, 1)), (1, .inl (f_ci (0), 2)), (2, .inl (f_aload 0, 3)), (3, .inl (f_iload 1, 4)), (4, .inl (f_iload 2, 5)), (5, .inr (.inr (.inl (13, 8, 3, mX6_setLoad)))), (8, .inl (f_i2l, 9)), (9, .inr (.inr (.inl (6, 10, 0, m0)))), (10, .inl (f_id, 17)), (13, .inl (f_astore 5 4, 15)), (15, .inl (f_ci (1), 16)), (16, .inr (.inr (.inl (15, 17, 0, m0)))), (17, .inl (f_ci (0), 18)), (18, .inr (.inr (.inl (15, 19, 0, m0))))]
set_option maxRecDepth 10000 in
theorem kL_setLoad {X : Ctx} (h : sCx X mL_setLoad) : tab X mL_setLoad tL_setLoad :=
  tab_cons (eS (st_aloadn h rfl dL_setLoad_0)) (
  tab_cons (eS (st_iconst h (by decide +kernel) dL_setLoad_1)) (
  tab_cons (eS (st_aloadn h rfl dL_setLoad_2)) (
  tab_cons (eS (st_iloadn h rfl dL_setLoad_3)) (
  tab_cons (eS (st_iloadn h rfl dL_setLoad_4)) (
  tab_cons (eO (so_callV h gl_9 gl_10 gl_11 gw_27 gl_12 ⟨by decide +kernel, by decide +kernel, by decide +kernel, by decide +kernel⟩ ⟨by decide +kernel, by decide +kernel⟩ dL_setLoad_5)) (
  tab_cons (eS (st_i2l h dL_setLoad_8)) (
  tab_cons (eO (so_lastore h dL_setLoad_9)) (
  tab_cons (eS (st_goto h dL_setLoad_10 (by decide))) (
  tab_cons (eS (st_astore h dL_setLoad_13)) (
  tab_cons (eS (st_iconst h (by decide +kernel) dL_setLoad_15)) (
  tab_cons (eO (so_ireturn h dL_setLoad_16)) (
  tab_cons (eS (st_iconst h (by decide +kernel) dL_setLoad_17)) (
  tab_cons (eO (so_ireturn h dL_setLoad_18)) (
  tab_nil))))))))))))))
theorem dL_loadCurrent_0 : decode cL_loadCurrent 0 = .ok (.aload_n 2, 1) := by decide +kernel
theorem dL_loadCurrent_1 : decode cL_loadCurrent 1 = .ok (.iconst 0, 1) := by decide +kernel
theorem dL_loadCurrent_2 : decode cL_loadCurrent 2 = .ok (.aload_n 0, 1) := by decide +kernel
theorem dL_loadCurrent_3 : decode cL_loadCurrent 3 = .ok (.iload_n 1, 1) := by decide +kernel
theorem dL_loadCurrent_4 : decode cL_loadCurrent 4 = .ok (.invokevirtual 25, 3) := by decide +kernel
theorem dL_loadCurrent_7 : decode cL_loadCurrent 7 = .ok (.i2l, 1) := by decide +kernel
theorem dL_loadCurrent_8 : decode cL_loadCurrent 8 = .ok (.lastore, 1) := by decide +kernel
theorem dL_loadCurrent_9 : decode cL_loadCurrent 9 = .ok (.goto 6, 3) := by decide +kernel
theorem dL_loadCurrent_12 : decode cL_loadCurrent 12 = .ok (.astore_n 3, 1) := by decide +kernel
theorem dL_loadCurrent_13 : decode cL_loadCurrent 13 = .ok (.iconst 1, 1) := by decide +kernel
theorem dL_loadCurrent_14 : decode cL_loadCurrent 14 = .ok (.ireturn, 1) := by decide +kernel
theorem dL_loadCurrent_15 : decode cL_loadCurrent 15 = .ok (.iconst 0, 1) := by decide +kernel
theorem dL_loadCurrent_16 : decode cL_loadCurrent 16 = .ok (.ireturn, 1) := by decide +kernel
def tL_loadCurrent : Tb := [(0, .inl (f_aload 2, 1)), (1, .inl (f_ci (0), 2)), (2, .inl (f_aload 0, 3)), (3, .inl (f_iload 1, 4)), (4, .inr (.inr (.inl (13, 7, 2, mX6_loadCurrent)))), (7, .inl (f_i2l, 8)), (8, .inr (.inr (.inl (6, 9, 0, m0)))), (9, .inl (f_id, 15)), (12, .inl (f_astore 4 3, 13)), (13, .inl (f_ci (1), 14)), (14, .inr (.inr (.inl (15, 15, 0, m0)))), (15, .inl (f_ci (0), 16)), (16, .inr (.inr (.inl (15, 17, 0, m0))))]
set_option maxRecDepth 10000 in
theorem kL_loadCurrent {X : Ctx} (h : sCx X mL_loadCurrent) : tab X mL_loadCurrent tL_loadCurrent :=
  tab_cons (eS (st_aloadn h rfl dL_loadCurrent_0)) (
  tab_cons (eS (st_iconst h (by decide +kernel) dL_loadCurrent_1)) (
  tab_cons (eS (st_aloadn h rfl dL_loadCurrent_2)) (
  tab_cons (eS (st_iloadn h rfl dL_loadCurrent_3)) (
  tab_cons (eO (so_callV h gl_13 gl_14 gl_15 gw_27 gl_16 ⟨by decide +kernel, by decide +kernel, by decide +kernel, by decide +kernel⟩ ⟨by decide +kernel, by decide +kernel⟩ dL_loadCurrent_4)) (
  tab_cons (eS (st_i2l h dL_loadCurrent_7)) (
  tab_cons (eO (so_lastore h dL_loadCurrent_8)) (
  tab_cons (eS (st_goto h dL_loadCurrent_9 (by decide))) (
  tab_cons (eS (st_astoren h rfl dL_loadCurrent_12)) (
  tab_cons (eS (st_iconst h (by decide +kernel) dL_loadCurrent_13)) (
  tab_cons (eO (so_ireturn h dL_loadCurrent_14)) (
  tab_cons (eS (st_iconst h (by decide +kernel) dL_loadCurrent_15)) (
  tab_cons (eO (so_ireturn h dL_loadCurrent_16)) (
  tab_nil)))))))))))))
theorem dL_faultCurrent_0 : decode cL_faultCurrent 0 = .ok (.aload_n 3, 1) := by decide +kernel
theorem dL_faultCurrent_1 : decode cL_faultCurrent 1 = .ok (.iconst 0, 1) := by decide +kernel
theorem dL_faultCurrent_2 : decode cL_faultCurrent 2 = .ok (.aload_n 0, 1) := by decide +kernel
theorem dL_faultCurrent_3 : decode cL_faultCurrent 3 = .ok (.iload_n 1, 1) := by decide +kernel
theorem dL_faultCurrent_4 : decode cL_faultCurrent 4 = .ok (.iload_n 2, 1) := by decide +kernel
theorem dL_faultCurrent_5 : decode cL_faultCurrent 5 = .ok (.invokevirtual 29, 3) := by decide +kernel
theorem dL_faultCurrent_8 : decode cL_faultCurrent 8 = .ok (.dastore, 1) := by decide +kernel
theorem dL_faultCurrent_9 : decode cL_faultCurrent 9 = .ok (.goto 7, 3) := by decide +kernel
theorem dL_faultCurrent_12 : decode cL_faultCurrent 12 = .ok (.astore 4, 2) := by decide +kernel
theorem dL_faultCurrent_14 : decode cL_faultCurrent 14 = .ok (.iconst 1, 1) := by decide +kernel
theorem dL_faultCurrent_15 : decode cL_faultCurrent 15 = .ok (.ireturn, 1) := by decide +kernel
theorem dL_faultCurrent_16 : decode cL_faultCurrent 16 = .ok (.iconst 0, 1) := by decide +kernel
theorem dL_faultCurrent_17 : decode cL_faultCurrent 17 = .ok (.ireturn, 1) := by decide +kernel
def tL_faultCurrent : Tb := [(0, .inl (f_aload 3, 1)), (1, .inl (f_ci (0), 2)), (2, .inl (f_aload 0, 3)), (3, .inl (f_iload 1, 4)), (4, .inl (f_iload 2, 5)), (5, .inr (.inr (.inl (13, 8, 3, mX6_faultCurrent)))), (8, .inr (.inr (.inl (5, 9, 0, m0)))), (9, .inl (f_id, 16)), (12, .inl (f_astore 5 4, 14)), (14, .inl (f_ci (1), 15)), (15, .inr (.inr (.inl (15, 16, 0, m0)))), (16, .inl (f_ci (0), 17)), (17, .inr (.inr (.inl (15, 18, 0, m0))))]
set_option maxRecDepth 10000 in
theorem kL_faultCurrent {X : Ctx} (h : sCx X mL_faultCurrent) : tab X mL_faultCurrent tL_faultCurrent :=
  tab_cons (eS (st_aloadn h rfl dL_faultCurrent_0)) (
  tab_cons (eS (st_iconst h (by decide +kernel) dL_faultCurrent_1)) (
  tab_cons (eS (st_aloadn h rfl dL_faultCurrent_2)) (
  tab_cons (eS (st_iloadn h rfl dL_faultCurrent_3)) (
  tab_cons (eS (st_iloadn h rfl dL_faultCurrent_4)) (
  tab_cons (eO (so_callV h gl_17 gl_18 gl_19 gw_27 gl_20 ⟨by decide +kernel, by decide +kernel, by decide +kernel, by decide +kernel⟩ ⟨by decide +kernel, by decide +kernel⟩ dL_faultCurrent_5)) (
  tab_cons (eO (so_dastore h dL_faultCurrent_8)) (
  tab_cons (eS (st_goto h dL_faultCurrent_9 (by decide))) (
  tab_cons (eS (st_astore h dL_faultCurrent_12)) (
  tab_cons (eS (st_iconst h (by decide +kernel) dL_faultCurrent_14)) (
  tab_cons (eO (so_ireturn h dL_faultCurrent_15)) (
  tab_cons (eS (st_iconst h (by decide +kernel) dL_faultCurrent_16)) (
  tab_cons (eO (so_ireturn h dL_faultCurrent_17)) (
  tab_nil)))))))))))))
theorem dL_setRelay_0 : decode cL_setRelay 0 = .ok (.aload 5, 2) := by decide +kernel
theorem dL_setRelay_2 : decode cL_setRelay 2 = .ok (.iconst 0, 1) := by decide +kernel
theorem dL_setRelay_3 : decode cL_setRelay 3 = .ok (.aload_n 0, 1) := by decide +kernel
theorem dL_setRelay_4 : decode cL_setRelay 4 = .ok (.iload_n 1, 1) := by decide +kernel
theorem dL_setRelay_5 : decode cL_setRelay 5 = .ok (.iload_n 2, 1) := by decide +kernel
theorem dL_setRelay_6 : decode cL_setRelay 6 = .ok (.iload_n 3, 1) := by decide +kernel
theorem dL_setRelay_7 : decode cL_setRelay 7 = .ok (.iload 4, 2) := by decide +kernel
theorem dL_setRelay_9 : decode cL_setRelay 9 = .ok (.invokevirtual 33, 3) := by decide +kernel
theorem dL_setRelay_12 : decode cL_setRelay 12 = .ok (.i2l, 1) := by decide +kernel
theorem dL_setRelay_13 : decode cL_setRelay 13 = .ok (.lastore, 1) := by decide +kernel
theorem dL_setRelay_14 : decode cL_setRelay 14 = .ok (.goto 7, 3) := by decide +kernel
theorem dL_setRelay_17 : decode cL_setRelay 17 = .ok (.astore 6, 2) := by decide +kernel
theorem dL_setRelay_19 : decode cL_setRelay 19 = .ok (.iconst 1, 1) := by decide +kernel
theorem dL_setRelay_20 : decode cL_setRelay 20 = .ok (.ireturn, 1) := by decide +kernel
theorem dL_setRelay_21 : decode cL_setRelay 21 = .ok (.iconst 0, 1) := by decide +kernel
theorem dL_setRelay_22 : decode cL_setRelay 22 = .ok (.ireturn, 1) := by decide +kernel
def tL_setRelay : Tb := [(0, .inl (f_aload 5, 2)), (2, .inl (f_ci (0), 3)), (3, .inl (f_aload 0, 4)), (4, .inl (f_iload 1, 5)), (5, .inl (f_iload 2, 6)), (6, .inl (f_iload 3, 7)), (7, .inl (f_iload 4, 9)), (9, .inr (.inr (.inl (13, 12, 5, mX6_setRelay)))), (12, .inl (f_i2l, 13)), (13, .inr (.inr (.inl (6, 14, 0, m0)))), (14, .inl (f_id, 21)), (17, .inl (f_astore 7 6, 19)), (19, .inl (f_ci (1), 20)), (20, .inr (.inr (.inl (15, 21, 0, m0)))), (21, .inl (f_ci (0), 22)), (22, .inr (.inr (.inl (15, 23, 0, m0))))]
set_option maxRecDepth 10000 in
theorem kL_setRelay {X : Ctx} (h : sCx X mL_setRelay) : tab X mL_setRelay tL_setRelay :=
  tab_cons (eS (st_aload h dL_setRelay_0)) (
  tab_cons (eS (st_iconst h (by decide +kernel) dL_setRelay_2)) (
  tab_cons (eS (st_aloadn h rfl dL_setRelay_3)) (
  tab_cons (eS (st_iloadn h rfl dL_setRelay_4)) (
  tab_cons (eS (st_iloadn h rfl dL_setRelay_5)) (
  tab_cons (eS (st_iloadn h rfl dL_setRelay_6)) (
  tab_cons (eS (st_iload h dL_setRelay_7)) (
  tab_cons (eO (so_callV h gl_21 gl_22 gl_23 gw_27 gl_24 ⟨by decide +kernel, by decide +kernel, by decide +kernel, by decide +kernel⟩ ⟨by decide +kernel, by decide +kernel⟩ dL_setRelay_9)) (
  tab_cons (eS (st_i2l h dL_setRelay_12)) (
  tab_cons (eO (so_lastore h dL_setRelay_13)) (
  tab_cons (eS (st_goto h dL_setRelay_14 (by decide))) (
  tab_cons (eS (st_astore h dL_setRelay_17)) (
  tab_cons (eS (st_iconst h (by decide +kernel) dL_setRelay_19)) (
  tab_cons (eO (so_ireturn h dL_setRelay_20)) (
  tab_cons (eS (st_iconst h (by decide +kernel) dL_setRelay_21)) (
  tab_cons (eO (so_ireturn h dL_setRelay_22)) (
  tab_nil))))))))))))))))
theorem dL_setInstantaneous_0 : decode cL_setInstantaneous 0 = .ok (.aload_n 3, 1) := by decide +kernel
theorem dL_setInstantaneous_1 : decode cL_setInstantaneous 1 = .ok (.iconst 0, 1) := by decide +kernel
theorem dL_setInstantaneous_2 : decode cL_setInstantaneous 2 = .ok (.aload_n 0, 1) := by decide +kernel
theorem dL_setInstantaneous_3 : decode cL_setInstantaneous 3 = .ok (.iload_n 1, 1) := by decide +kernel
theorem dL_setInstantaneous_4 : decode cL_setInstantaneous 4 = .ok (.iload_n 2, 1) := by decide +kernel
theorem dL_setInstantaneous_5 : decode cL_setInstantaneous 5 = .ok (.invokevirtual 37, 3) := by decide +kernel
theorem dL_setInstantaneous_8 : decode cL_setInstantaneous 8 = .ok (.i2l, 1) := by decide +kernel
theorem dL_setInstantaneous_9 : decode cL_setInstantaneous 9 = .ok (.lastore, 1) := by decide +kernel
theorem dL_setInstantaneous_10 : decode cL_setInstantaneous 10 = .ok (.goto 7, 3) := by decide +kernel
theorem dL_setInstantaneous_13 : decode cL_setInstantaneous 13 = .ok (.astore 4, 2) := by decide +kernel
theorem dL_setInstantaneous_15 : decode cL_setInstantaneous 15 = .ok (.iconst 1, 1) := by decide +kernel
theorem dL_setInstantaneous_16 : decode cL_setInstantaneous 16 = .ok (.ireturn, 1) := by decide +kernel
theorem dL_setInstantaneous_17 : decode cL_setInstantaneous 17 = .ok (.iconst 0, 1) := by decide +kernel
theorem dL_setInstantaneous_18 : decode cL_setInstantaneous 18 = .ok (.ireturn, 1) := by decide +kernel
def tL_setInstantaneous : Tb := [(0, .inl (f_aload 3, 1)), (1, .inl (f_ci (0), 2)), (2, .inl (f_aload 0, 3)), (3, .inl (f_iload 1, 4)), (4, .inl (f_iload 2, 5)), (5, .inr (.inr (.inl (13, 8, 3, mX6_setInstantaneous)))), (8, .inl (f_i2l, 9)), (9, .inr (.inr (.inl (6, 10, 0, m0)))), (10, .inl (f_id, 17)), (13, .inl (f_astore 5 4, 15)), (15, .inl (f_ci (1), 16)), (16, .inr (.inr (.inl (15, 17, 0, m0)))), (17, .inl (f_ci (0), 18)), (18, .inr (.inr (.inl (15, 19, 0, m0))))]
set_option maxRecDepth 10000 in
theorem kL_setInstantaneous {X : Ctx} (h : sCx X mL_setInstantaneous) : tab X mL_setInstantaneous tL_setInstantaneous :=
  tab_cons (eS (st_aloadn h rfl dL_setInstantaneous_0)) (
  tab_cons (eS (st_iconst h (by decide +kernel) dL_setInstantaneous_1)) (
  tab_cons (eS (st_aloadn h rfl dL_setInstantaneous_2)) (
  tab_cons (eS (st_iloadn h rfl dL_setInstantaneous_3)) (
  tab_cons (eS (st_iloadn h rfl dL_setInstantaneous_4)) (
  tab_cons (eO (so_callV h gl_25 gl_26 gl_27 gw_27 gl_28 ⟨by decide +kernel, by decide +kernel, by decide +kernel, by decide +kernel⟩ ⟨by decide +kernel, by decide +kernel⟩ dL_setInstantaneous_5)) (
  tab_cons (eS (st_i2l h dL_setInstantaneous_8)) (
  tab_cons (eO (so_lastore h dL_setInstantaneous_9)) (
  tab_cons (eS (st_goto h dL_setInstantaneous_10 (by decide))) (
  tab_cons (eS (st_astore h dL_setInstantaneous_13)) (
  tab_cons (eS (st_iconst h (by decide +kernel) dL_setInstantaneous_15)) (
  tab_cons (eO (so_ireturn h dL_setInstantaneous_16)) (
  tab_cons (eS (st_iconst h (by decide +kernel) dL_setInstantaneous_17)) (
  tab_cons (eO (so_ireturn h dL_setInstantaneous_18)) (
  tab_nil))))))))))))))
theorem dL_setShots_0 : decode cL_setShots 0 = .ok (.aload_n 3, 1) := by decide +kernel
theorem dL_setShots_1 : decode cL_setShots 1 = .ok (.iconst 0, 1) := by decide +kernel
theorem dL_setShots_2 : decode cL_setShots 2 = .ok (.aload_n 0, 1) := by decide +kernel
theorem dL_setShots_3 : decode cL_setShots 3 = .ok (.iload_n 1, 1) := by decide +kernel
theorem dL_setShots_4 : decode cL_setShots 4 = .ok (.iload_n 2, 1) := by decide +kernel
theorem dL_setShots_5 : decode cL_setShots 5 = .ok (.invokevirtual 40, 3) := by decide +kernel
theorem dL_setShots_8 : decode cL_setShots 8 = .ok (.i2l, 1) := by decide +kernel
theorem dL_setShots_9 : decode cL_setShots 9 = .ok (.lastore, 1) := by decide +kernel
theorem dL_setShots_10 : decode cL_setShots 10 = .ok (.goto 7, 3) := by decide +kernel
theorem dL_setShots_13 : decode cL_setShots 13 = .ok (.astore 4, 2) := by decide +kernel
theorem dL_setShots_15 : decode cL_setShots 15 = .ok (.iconst 1, 1) := by decide +kernel
theorem dL_setShots_16 : decode cL_setShots 16 = .ok (.ireturn, 1) := by decide +kernel
theorem dL_setShots_17 : decode cL_setShots 17 = .ok (.iconst 0, 1) := by decide +kernel
theorem dL_setShots_18 : decode cL_setShots 18 = .ok (.ireturn, 1) := by decide +kernel
def tL_setShots : Tb := [(0, .inl (f_aload 3, 1)), (1, .inl (f_ci (0), 2)), (2, .inl (f_aload 0, 3)), (3, .inl (f_iload 1, 4)), (4, .inl (f_iload 2, 5)), (5, .inr (.inr (.inl (13, 8, 3, mX6_setShots)))), (8, .inl (f_i2l, 9)), (9, .inr (.inr (.inl (6, 10, 0, m0)))), (10, .inl (f_id, 17)), (13, .inl (f_astore 5 4, 15)), (15, .inl (f_ci (1), 16)), (16, .inr (.inr (.inl (15, 17, 0, m0)))), (17, .inl (f_ci (0), 18)), (18, .inr (.inr (.inl (15, 19, 0, m0))))]
set_option maxRecDepth 10000 in
theorem kL_setShots {X : Ctx} (h : sCx X mL_setShots) : tab X mL_setShots tL_setShots :=
  tab_cons (eS (st_aloadn h rfl dL_setShots_0)) (
  tab_cons (eS (st_iconst h (by decide +kernel) dL_setShots_1)) (
  tab_cons (eS (st_aloadn h rfl dL_setShots_2)) (
  tab_cons (eS (st_iloadn h rfl dL_setShots_3)) (
  tab_cons (eS (st_iloadn h rfl dL_setShots_4)) (
  tab_cons (eO (so_callV h gl_29 gl_30 gl_31 gw_27 gl_32 ⟨by decide +kernel, by decide +kernel, by decide +kernel, by decide +kernel⟩ ⟨by decide +kernel, by decide +kernel⟩ dL_setShots_5)) (
  tab_cons (eS (st_i2l h dL_setShots_8)) (
  tab_cons (eO (so_lastore h dL_setShots_9)) (
  tab_cons (eS (st_goto h dL_setShots_10 (by decide))) (
  tab_cons (eS (st_astore h dL_setShots_13)) (
  tab_cons (eS (st_iconst h (by decide +kernel) dL_setShots_15)) (
  tab_cons (eO (so_ireturn h dL_setShots_16)) (
  tab_cons (eS (st_iconst h (by decide +kernel) dL_setShots_17)) (
  tab_cons (eO (so_ireturn h dL_setShots_18)) (
  tab_nil))))))))))))))
theorem dL_setStuck_0 : decode cL_setStuck 0 = .ok (.aload_n 3, 1) := by decide +kernel
theorem dL_setStuck_1 : decode cL_setStuck 1 = .ok (.iconst 0, 1) := by decide +kernel
theorem dL_setStuck_2 : decode cL_setStuck 2 = .ok (.aload_n 0, 1) := by decide +kernel
theorem dL_setStuck_3 : decode cL_setStuck 3 = .ok (.iload_n 1, 1) := by decide +kernel
theorem dL_setStuck_4 : decode cL_setStuck 4 = .ok (.iload_n 2, 1) := by decide +kernel
theorem dL_setStuck_5 : decode cL_setStuck 5 = .ok (.invokevirtual 43, 3) := by decide +kernel
theorem dL_setStuck_8 : decode cL_setStuck 8 = .ok (.ifCond .eq 7, 3) := by decide +kernel
theorem dL_setStuck_11 : decode cL_setStuck 11 = .ok (.lconst 1, 1) := by decide +kernel
theorem dL_setStuck_12 : decode cL_setStuck 12 = .ok (.goto 4, 3) := by decide +kernel
theorem dL_setStuck_15 : decode cL_setStuck 15 = .ok (.lconst 0, 1) := by decide +kernel
theorem dL_setStuck_16 : decode cL_setStuck 16 = .ok (.lastore, 1) := by decide +kernel
theorem dL_setStuck_17 : decode cL_setStuck 17 = .ok (.goto 7, 3) := by decide +kernel
theorem dL_setStuck_20 : decode cL_setStuck 20 = .ok (.astore 4, 2) := by decide +kernel
theorem dL_setStuck_22 : decode cL_setStuck 22 = .ok (.iconst 1, 1) := by decide +kernel
theorem dL_setStuck_23 : decode cL_setStuck 23 = .ok (.ireturn, 1) := by decide +kernel
theorem dL_setStuck_24 : decode cL_setStuck 24 = .ok (.iconst 0, 1) := by decide +kernel
theorem dL_setStuck_25 : decode cL_setStuck 25 = .ok (.ireturn, 1) := by decide +kernel
def tL_setStuck : Tb := [(0, .inl (f_aload 3, 1)), (1, .inl (f_ci (0), 2)), (2, .inl (f_aload 0, 3)), (3, .inl (f_iload 1, 4)), (4, .inl (f_iload 2, 5)), (5, .inr (.inr (.inl (13, 8, 3, mX6_setStuck)))), (8, .inr (.inl (b_if_eq, 15, 11))), (11, .inl (f_cl 1, 12)), (12, .inl (f_id, 16)), (15, .inl (f_cl 0, 16)), (16, .inr (.inr (.inl (6, 17, 0, m0)))), (17, .inl (f_id, 24)), (20, .inl (f_astore 5 4, 22)), (22, .inl (f_ci (1), 23)), (23, .inr (.inr (.inl (15, 24, 0, m0)))), (24, .inl (f_ci (0), 25)), (25, .inr (.inr (.inl (15, 26, 0, m0))))]
set_option maxRecDepth 10000 in
theorem kL_setStuck {X : Ctx} (h : sCx X mL_setStuck) : tab X mL_setStuck tL_setStuck :=
  tab_cons (eS (st_aloadn h rfl dL_setStuck_0)) (
  tab_cons (eS (st_iconst h (by decide +kernel) dL_setStuck_1)) (
  tab_cons (eS (st_aloadn h rfl dL_setStuck_2)) (
  tab_cons (eS (st_iloadn h rfl dL_setStuck_3)) (
  tab_cons (eS (st_iloadn h rfl dL_setStuck_4)) (
  tab_cons (eO (so_callV h gl_33 gl_34 gl_35 gw_27 gl_36 ⟨by decide +kernel, by decide +kernel, by decide +kernel, by decide +kernel⟩ ⟨by decide +kernel, by decide +kernel⟩ dL_setStuck_5)) (
  tab_cons (eB (sb_if_eq h dL_setStuck_8 (by decide))) (
  tab_cons (eS (st_lconst h (by decide +kernel) dL_setStuck_11)) (
  tab_cons (eS (st_goto h dL_setStuck_12 (by decide))) (
  tab_cons (eS (st_lconst h (by decide +kernel) dL_setStuck_15)) (
  tab_cons (eO (so_lastore h dL_setStuck_16)) (
  tab_cons (eS (st_goto h dL_setStuck_17 (by decide))) (
  tab_cons (eS (st_astore h dL_setStuck_20)) (
  tab_cons (eS (st_iconst h (by decide +kernel) dL_setStuck_22)) (
  tab_cons (eO (so_ireturn h dL_setStuck_23)) (
  tab_cons (eS (st_iconst h (by decide +kernel) dL_setStuck_24)) (
  tab_cons (eO (so_ireturn h dL_setStuck_25)) (
  tab_nil)))))))))))))))))
theorem dL_pickup_0 : decode cL_pickup 0 = .ok (.aload_n 2, 1) := by decide +kernel
theorem dL_pickup_1 : decode cL_pickup 1 = .ok (.iconst 0, 1) := by decide +kernel
theorem dL_pickup_2 : decode cL_pickup 2 = .ok (.aload_n 0, 1) := by decide +kernel
theorem dL_pickup_3 : decode cL_pickup 3 = .ok (.iload_n 1, 1) := by decide +kernel
theorem dL_pickup_4 : decode cL_pickup 4 = .ok (.invokevirtual 47, 3) := by decide +kernel
theorem dL_pickup_7 : decode cL_pickup 7 = .ok (.i2l, 1) := by decide +kernel
theorem dL_pickup_8 : decode cL_pickup 8 = .ok (.lastore, 1) := by decide +kernel
theorem dL_pickup_9 : decode cL_pickup 9 = .ok (.goto 6, 3) := by decide +kernel
theorem dL_pickup_12 : decode cL_pickup 12 = .ok (.astore_n 3, 1) := by decide +kernel
theorem dL_pickup_13 : decode cL_pickup 13 = .ok (.iconst 1, 1) := by decide +kernel
theorem dL_pickup_14 : decode cL_pickup 14 = .ok (.ireturn, 1) := by decide +kernel
theorem dL_pickup_15 : decode cL_pickup 15 = .ok (.iconst 0, 1) := by decide +kernel
theorem dL_pickup_16 : decode cL_pickup 16 = .ok (.ireturn, 1) := by decide +kernel
def tL_pickup : Tb := [(0, .inl (f_aload 2, 1)), (1, .inl (f_ci (0), 2)), (2, .inl (f_aload 0, 3)), (3, .inl (f_iload 1, 4)), (4, .inr (.inr (.inl (13, 7, 2, mX6_pickup)))), (7, .inl (f_i2l, 8)), (8, .inr (.inr (.inl (6, 9, 0, m0)))), (9, .inl (f_id, 15)), (12, .inl (f_astore 4 3, 13)), (13, .inl (f_ci (1), 14)), (14, .inr (.inr (.inl (15, 15, 0, m0)))), (15, .inl (f_ci (0), 16)), (16, .inr (.inr (.inl (15, 17, 0, m0))))]
set_option maxRecDepth 10000 in
theorem kL_pickup {X : Ctx} (h : sCx X mL_pickup) : tab X mL_pickup tL_pickup :=
  tab_cons (eS (st_aloadn h rfl dL_pickup_0)) (
  tab_cons (eS (st_iconst h (by decide +kernel) dL_pickup_1)) (
  tab_cons (eS (st_aloadn h rfl dL_pickup_2)) (
  tab_cons (eS (st_iloadn h rfl dL_pickup_3)) (
  tab_cons (eO (so_callV h gl_37 gl_38 gl_39 gw_27 gl_40 ⟨by decide +kernel, by decide +kernel, by decide +kernel, by decide +kernel⟩ ⟨by decide +kernel, by decide +kernel⟩ dL_pickup_4)) (
  tab_cons (eS (st_i2l h dL_pickup_7)) (
  tab_cons (eO (so_lastore h dL_pickup_8)) (
  tab_cons (eS (st_goto h dL_pickup_9 (by decide))) (
  tab_cons (eS (st_astoren h rfl dL_pickup_12)) (
  tab_cons (eS (st_iconst h (by decide +kernel) dL_pickup_13)) (
  tab_cons (eO (so_ireturn h dL_pickup_14)) (
  tab_cons (eS (st_iconst h (by decide +kernel) dL_pickup_15)) (
  tab_cons (eO (so_ireturn h dL_pickup_16)) (
  tab_nil)))))))))))))
theorem dL_steps_0 : decode cL_steps 0 = .ok (.aload_n 2, 1) := by decide +kernel
theorem dL_steps_1 : decode cL_steps 1 = .ok (.iconst 0, 1) := by decide +kernel
theorem dL_steps_2 : decode cL_steps 2 = .ok (.aload_n 0, 1) := by decide +kernel
theorem dL_steps_3 : decode cL_steps 3 = .ok (.iload_n 1, 1) := by decide +kernel
theorem dL_steps_4 : decode cL_steps 4 = .ok (.invokevirtual 50, 3) := by decide +kernel
theorem dL_steps_7 : decode cL_steps 7 = .ok (.i2l, 1) := by decide +kernel
theorem dL_steps_8 : decode cL_steps 8 = .ok (.lastore, 1) := by decide +kernel
theorem dL_steps_9 : decode cL_steps 9 = .ok (.goto 6, 3) := by decide +kernel
theorem dL_steps_12 : decode cL_steps 12 = .ok (.astore_n 3, 1) := by decide +kernel
theorem dL_steps_13 : decode cL_steps 13 = .ok (.iconst 1, 1) := by decide +kernel
theorem dL_steps_14 : decode cL_steps 14 = .ok (.ireturn, 1) := by decide +kernel
theorem dL_steps_15 : decode cL_steps 15 = .ok (.iconst 0, 1) := by decide +kernel
theorem dL_steps_16 : decode cL_steps 16 = .ok (.ireturn, 1) := by decide +kernel
def tL_steps : Tb := [(0, .inl (f_aload 2, 1)), (1, .inl (f_ci (0), 2)), (2, .inl (f_aload 0, 3)), (3, .inl (f_iload 1, 4)), (4, .inr (.inr (.inl (13, 7, 2, mX6_steps)))), (7, .inl (f_i2l, 8)), (8, .inr (.inr (.inl (6, 9, 0, m0)))), (9, .inl (f_id, 15)), (12, .inl (f_astore 4 3, 13)), (13, .inl (f_ci (1), 14)), (14, .inr (.inr (.inl (15, 15, 0, m0)))), (15, .inl (f_ci (0), 16)), (16, .inr (.inr (.inl (15, 17, 0, m0))))]
set_option maxRecDepth 10000 in
theorem kL_steps {X : Ctx} (h : sCx X mL_steps) : tab X mL_steps tL_steps :=
  tab_cons (eS (st_aloadn h rfl dL_steps_0)) (
  tab_cons (eS (st_iconst h (by decide +kernel) dL_steps_1)) (
  tab_cons (eS (st_aloadn h rfl dL_steps_2)) (
  tab_cons (eS (st_iloadn h rfl dL_steps_3)) (
  tab_cons (eO (so_callV h gl_41 gl_42 gl_43 gw_27 gl_44 ⟨by decide +kernel, by decide +kernel, by decide +kernel, by decide +kernel⟩ ⟨by decide +kernel, by decide +kernel⟩ dL_steps_4)) (
  tab_cons (eS (st_i2l h dL_steps_7)) (
  tab_cons (eO (so_lastore h dL_steps_8)) (
  tab_cons (eS (st_goto h dL_steps_9 (by decide))) (
  tab_cons (eS (st_astoren h rfl dL_steps_12)) (
  tab_cons (eS (st_iconst h (by decide +kernel) dL_steps_13)) (
  tab_cons (eO (so_ireturn h dL_steps_14)) (
  tab_cons (eS (st_iconst h (by decide +kernel) dL_steps_15)) (
  tab_cons (eO (so_ireturn h dL_steps_16)) (
  tab_nil)))))))))))))
theorem dL_upstream_0 : decode cL_upstream 0 = .ok (.aload_n 2, 1) := by decide +kernel
theorem dL_upstream_1 : decode cL_upstream 1 = .ok (.iconst 0, 1) := by decide +kernel
theorem dL_upstream_2 : decode cL_upstream 2 = .ok (.aload_n 0, 1) := by decide +kernel
theorem dL_upstream_3 : decode cL_upstream 3 = .ok (.iload_n 1, 1) := by decide +kernel
theorem dL_upstream_4 : decode cL_upstream 4 = .ok (.invokevirtual 53, 3) := by decide +kernel
theorem dL_upstream_7 : decode cL_upstream 7 = .ok (.i2l, 1) := by decide +kernel
theorem dL_upstream_8 : decode cL_upstream 8 = .ok (.lastore, 1) := by decide +kernel
theorem dL_upstream_9 : decode cL_upstream 9 = .ok (.goto 6, 3) := by decide +kernel
theorem dL_upstream_12 : decode cL_upstream 12 = .ok (.astore_n 3, 1) := by decide +kernel
theorem dL_upstream_13 : decode cL_upstream 13 = .ok (.iconst 1, 1) := by decide +kernel
theorem dL_upstream_14 : decode cL_upstream 14 = .ok (.ireturn, 1) := by decide +kernel
theorem dL_upstream_15 : decode cL_upstream 15 = .ok (.iconst 0, 1) := by decide +kernel
theorem dL_upstream_16 : decode cL_upstream 16 = .ok (.ireturn, 1) := by decide +kernel
def tL_upstream : Tb := [(0, .inl (f_aload 2, 1)), (1, .inl (f_ci (0), 2)), (2, .inl (f_aload 0, 3)), (3, .inl (f_iload 1, 4)), (4, .inr (.inr (.inl (13, 7, 2, mX6_upstream)))), (7, .inl (f_i2l, 8)), (8, .inr (.inr (.inl (6, 9, 0, m0)))), (9, .inl (f_id, 15)), (12, .inl (f_astore 4 3, 13)), (13, .inl (f_ci (1), 14)), (14, .inr (.inr (.inl (15, 15, 0, m0)))), (15, .inl (f_ci (0), 16)), (16, .inr (.inr (.inl (15, 17, 0, m0))))]
set_option maxRecDepth 10000 in
theorem kL_upstream {X : Ctx} (h : sCx X mL_upstream) : tab X mL_upstream tL_upstream :=
  tab_cons (eS (st_aloadn h rfl dL_upstream_0)) (
  tab_cons (eS (st_iconst h (by decide +kernel) dL_upstream_1)) (
  tab_cons (eS (st_aloadn h rfl dL_upstream_2)) (
  tab_cons (eS (st_iloadn h rfl dL_upstream_3)) (
  tab_cons (eO (so_callV h gl_45 gl_46 gl_47 gw_27 gl_48 ⟨by decide +kernel, by decide +kernel, by decide +kernel, by decide +kernel⟩ ⟨by decide +kernel, by decide +kernel⟩ dL_upstream_4)) (
  tab_cons (eS (st_i2l h dL_upstream_7)) (
  tab_cons (eO (so_lastore h dL_upstream_8)) (
  tab_cons (eS (st_goto h dL_upstream_9 (by decide))) (
  tab_cons (eS (st_astoren h rfl dL_upstream_12)) (
  tab_cons (eS (st_iconst h (by decide +kernel) dL_upstream_13)) (
  tab_cons (eO (so_ireturn h dL_upstream_14)) (
  tab_cons (eS (st_iconst h (by decide +kernel) dL_upstream_15)) (
  tab_cons (eO (so_ireturn h dL_upstream_16)) (
  tab_nil)))))))))))))
theorem dL_operatingTime_0 : decode cL_operatingTime 0 = .ok (.aload 4, 2) := by decide +kernel
theorem dL_operatingTime_2 : decode cL_operatingTime 2 = .ok (.iconst 0, 1) := by decide +kernel
theorem dL_operatingTime_3 : decode cL_operatingTime 3 = .ok (.aload_n 0, 1) := by decide +kernel
theorem dL_operatingTime_4 : decode cL_operatingTime 4 = .ok (.iload_n 1, 1) := by decide +kernel
theorem dL_operatingTime_5 : decode cL_operatingTime 5 = .ok (.dload_n 2, 1) := by decide +kernel
theorem dL_operatingTime_6 : decode cL_operatingTime 6 = .ok (.invokevirtual 56, 3) := by decide +kernel
theorem dL_operatingTime_9 : decode cL_operatingTime 9 = .ok (.dastore, 1) := by decide +kernel
theorem dL_operatingTime_10 : decode cL_operatingTime 10 = .ok (.goto 7, 3) := by decide +kernel
theorem dL_operatingTime_13 : decode cL_operatingTime 13 = .ok (.astore 5, 2) := by decide +kernel
theorem dL_operatingTime_15 : decode cL_operatingTime 15 = .ok (.iconst 1, 1) := by decide +kernel
theorem dL_operatingTime_16 : decode cL_operatingTime 16 = .ok (.ireturn, 1) := by decide +kernel
theorem dL_operatingTime_17 : decode cL_operatingTime 17 = .ok (.iconst 0, 1) := by decide +kernel
theorem dL_operatingTime_18 : decode cL_operatingTime 18 = .ok (.ireturn, 1) := by decide +kernel
def tL_operatingTime : Tb := [(0, .inl (f_aload 4, 2)), (2, .inl (f_ci (0), 3)), (3, .inl (f_aload 0, 4)), (4, .inl (f_iload 1, 5)), (5, .inl (f_dload 2, 6)), (6, .inr (.inr (.inl (13, 9, 3, mX6_operatingTime)))), (9, .inr (.inr (.inl (5, 10, 0, m0)))), (10, .inl (f_id, 17)), (13, .inl (f_astore 6 5, 15)), (15, .inl (f_ci (1), 16)), (16, .inr (.inr (.inl (15, 17, 0, m0)))), (17, .inl (f_ci (0), 18)), (18, .inr (.inr (.inl (15, 19, 0, m0))))]
set_option maxRecDepth 10000 in
theorem kL_operatingTime {X : Ctx} (h : sCx X mL_operatingTime) : tab X mL_operatingTime tL_operatingTime :=
  tab_cons (eS (st_aload h dL_operatingTime_0)) (
  tab_cons (eS (st_iconst h (by decide +kernel) dL_operatingTime_2)) (
  tab_cons (eS (st_aloadn h rfl dL_operatingTime_3)) (
  tab_cons (eS (st_iloadn h rfl dL_operatingTime_4)) (
  tab_cons (eS (st_dloadn h rfl dL_operatingTime_5)) (
  tab_cons (eO (so_callV h gl_49 gl_50 gl_51 gw_27 gl_52 ⟨by decide +kernel, by decide +kernel, by decide +kernel, by decide +kernel⟩ ⟨by decide +kernel, by decide +kernel⟩ dL_operatingTime_6)) (
  tab_cons (eO (so_dastore h dL_operatingTime_9)) (
  tab_cons (eS (st_goto h dL_operatingTime_10 (by decide))) (
  tab_cons (eS (st_astore h dL_operatingTime_13)) (
  tab_cons (eS (st_iconst h (by decide +kernel) dL_operatingTime_15)) (
  tab_cons (eO (so_ireturn h dL_operatingTime_16)) (
  tab_cons (eS (st_iconst h (by decide +kernel) dL_operatingTime_17)) (
  tab_cons (eO (so_ireturn h dL_operatingTime_18)) (
  tab_nil)))))))))))))
theorem dL_sensitivity_0 : decode cL_sensitivity 0 = .ok (.aload_n 2, 1) := by decide +kernel
theorem dL_sensitivity_1 : decode cL_sensitivity 1 = .ok (.iconst 0, 1) := by decide +kernel
theorem dL_sensitivity_2 : decode cL_sensitivity 2 = .ok (.aload_n 0, 1) := by decide +kernel
theorem dL_sensitivity_3 : decode cL_sensitivity 3 = .ok (.iload_n 1, 1) := by decide +kernel
theorem dL_sensitivity_4 : decode cL_sensitivity 4 = .ok (.invokevirtual 60, 3) := by decide +kernel
theorem dL_sensitivity_7 : decode cL_sensitivity 7 = .ok (.dastore, 1) := by decide +kernel
theorem dL_sensitivity_8 : decode cL_sensitivity 8 = .ok (.goto 6, 3) := by decide +kernel
theorem dL_sensitivity_11 : decode cL_sensitivity 11 = .ok (.astore_n 3, 1) := by decide +kernel
theorem dL_sensitivity_12 : decode cL_sensitivity 12 = .ok (.iconst 1, 1) := by decide +kernel
theorem dL_sensitivity_13 : decode cL_sensitivity 13 = .ok (.ireturn, 1) := by decide +kernel
theorem dL_sensitivity_14 : decode cL_sensitivity 14 = .ok (.iconst 0, 1) := by decide +kernel
theorem dL_sensitivity_15 : decode cL_sensitivity 15 = .ok (.ireturn, 1) := by decide +kernel
def tL_sensitivity : Tb := [(0, .inl (f_aload 2, 1)), (1, .inl (f_ci (0), 2)), (2, .inl (f_aload 0, 3)), (3, .inl (f_iload 1, 4)), (4, .inr (.inr (.inl (13, 7, 2, mX6_sensitivity)))), (7, .inr (.inr (.inl (5, 8, 0, m0)))), (8, .inl (f_id, 14)), (11, .inl (f_astore 4 3, 12)), (12, .inl (f_ci (1), 13)), (13, .inr (.inr (.inl (15, 14, 0, m0)))), (14, .inl (f_ci (0), 15)), (15, .inr (.inr (.inl (15, 16, 0, m0))))]
set_option maxRecDepth 10000 in
theorem kL_sensitivity {X : Ctx} (h : sCx X mL_sensitivity) : tab X mL_sensitivity tL_sensitivity :=
  tab_cons (eS (st_aloadn h rfl dL_sensitivity_0)) (
  tab_cons (eS (st_iconst h (by decide +kernel) dL_sensitivity_1)) (
  tab_cons (eS (st_aloadn h rfl dL_sensitivity_2)) (
  tab_cons (eS (st_iloadn h rfl dL_sensitivity_3)) (
  tab_cons (eO (so_callV h gl_53 gl_54 gl_55 gw_27 gl_56 ⟨by decide +kernel, by decide +kernel, by decide +kernel, by decide +kernel⟩ ⟨by decide +kernel, by decide +kernel⟩ dL_sensitivity_4)) (
  tab_cons (eO (so_dastore h dL_sensitivity_7)) (
  tab_cons (eS (st_goto h dL_sensitivity_8 (by decide))) (
  tab_cons (eS (st_astoren h rfl dL_sensitivity_11)) (
  tab_cons (eS (st_iconst h (by decide +kernel) dL_sensitivity_12)) (
  tab_cons (eO (so_ireturn h dL_sensitivity_13)) (
  tab_cons (eS (st_iconst h (by decide +kernel) dL_sensitivity_14)) (
  tab_cons (eO (so_ireturn h dL_sensitivity_15)) (
  tab_nil))))))))))))
theorem dL_setMargin_0 : decode cL_setMargin 0 = .ok (.aload_n 3, 1) := by decide +kernel
theorem dL_setMargin_1 : decode cL_setMargin 1 = .ok (.iconst 0, 1) := by decide +kernel
theorem dL_setMargin_2 : decode cL_setMargin 2 = .ok (.aload_n 0, 1) := by decide +kernel
theorem dL_setMargin_3 : decode cL_setMargin 3 = .ok (.dload_n 1, 1) := by decide +kernel
theorem dL_setMargin_4 : decode cL_setMargin 4 = .ok (.invokevirtual 64, 3) := by decide +kernel
theorem dL_setMargin_7 : decode cL_setMargin 7 = .ok (.dastore, 1) := by decide +kernel
theorem dL_setMargin_8 : decode cL_setMargin 8 = .ok (.goto 7, 3) := by decide +kernel
theorem dL_setMargin_11 : decode cL_setMargin 11 = .ok (.astore 4, 2) := by decide +kernel
theorem dL_setMargin_13 : decode cL_setMargin 13 = .ok (.iconst 1, 1) := by decide +kernel
theorem dL_setMargin_14 : decode cL_setMargin 14 = .ok (.ireturn, 1) := by decide +kernel
theorem dL_setMargin_15 : decode cL_setMargin 15 = .ok (.iconst 0, 1) := by decide +kernel
theorem dL_setMargin_16 : decode cL_setMargin 16 = .ok (.ireturn, 1) := by decide +kernel
def tL_setMargin : Tb := [(0, .inl (f_aload 3, 1)), (1, .inl (f_ci (0), 2)), (2, .inl (f_aload 0, 3)), (3, .inl (f_dload 1, 4)), (4, .inr (.inr (.inl (13, 7, 2, mX6_setMargin)))), (7, .inr (.inr (.inl (5, 8, 0, m0)))), (8, .inl (f_id, 15)), (11, .inl (f_astore 5 4, 13)), (13, .inl (f_ci (1), 14)), (14, .inr (.inr (.inl (15, 15, 0, m0)))), (15, .inl (f_ci (0), 16)), (16, .inr (.inr (.inl (15, 17, 0, m0))))]
set_option maxRecDepth 10000 in
theorem kL_setMargin {X : Ctx} (h : sCx X mL_setMargin) : tab X mL_setMargin tL_setMargin :=
  tab_cons (eS (st_aloadn h rfl dL_setMargin_0)) (
  tab_cons (eS (st_iconst h (by decide +kernel) dL_setMargin_1)) (
  tab_cons (eS (st_aloadn h rfl dL_setMargin_2)) (
  tab_cons (eS (st_dloadn h rfl dL_setMargin_3)) (
  tab_cons (eO (so_callV h gl_57 gl_58 gl_59 gw_27 gl_60 ⟨by decide +kernel, by decide +kernel, by decide +kernel, by decide +kernel⟩ ⟨by decide +kernel, by decide +kernel⟩ dL_setMargin_4)) (
  tab_cons (eO (so_dastore h dL_setMargin_7)) (
  tab_cons (eS (st_goto h dL_setMargin_8 (by decide))) (
  tab_cons (eS (st_astore h dL_setMargin_11)) (
  tab_cons (eS (st_iconst h (by decide +kernel) dL_setMargin_13)) (
  tab_cons (eO (so_ireturn h dL_setMargin_14)) (
  tab_cons (eS (st_iconst h (by decide +kernel) dL_setMargin_15)) (
  tab_cons (eO (so_ireturn h dL_setMargin_16)) (
  tab_nil))))))))))))
theorem dL_margin_0 : decode cL_margin 0 = .ok (.aload_n 3, 1) := by decide +kernel
theorem dL_margin_1 : decode cL_margin 1 = .ok (.iconst 0, 1) := by decide +kernel
theorem dL_margin_2 : decode cL_margin 2 = .ok (.aload_n 0, 1) := by decide +kernel
theorem dL_margin_3 : decode cL_margin 3 = .ok (.iload_n 1, 1) := by decide +kernel
theorem dL_margin_4 : decode cL_margin 4 = .ok (.iload_n 2, 1) := by decide +kernel
theorem dL_margin_5 : decode cL_margin 5 = .ok (.invokevirtual 68, 3) := by decide +kernel
theorem dL_margin_8 : decode cL_margin 8 = .ok (.dastore, 1) := by decide +kernel
theorem dL_margin_9 : decode cL_margin 9 = .ok (.goto 11, 3) := by decide +kernel
theorem dL_margin_12 : decode cL_margin 12 = .ok (.astore 4, 2) := by decide +kernel
theorem dL_margin_14 : decode cL_margin 14 = .ok (.iconst 1, 1) := by decide +kernel
theorem dL_margin_15 : decode cL_margin 15 = .ok (.ireturn, 1) := by decide +kernel
theorem dL_margin_16 : decode cL_margin 16 = .ok (.astore 4, 2) := by decide +kernel
theorem dL_margin_18 : decode cL_margin 18 = .ok (.iconst 2, 1) := by decide +kernel
theorem dL_margin_19 : decode cL_margin 19 = .ok (.ireturn, 1) := by decide +kernel
theorem dL_margin_20 : decode cL_margin 20 = .ok (.iconst 0, 1) := by decide +kernel
theorem dL_margin_21 : decode cL_margin 21 = .ok (.ireturn, 1) := by decide +kernel
def tL_margin : Tb := [(0, .inl (f_aload 3, 1)), (1, .inl (f_ci (0), 2)), (2, .inl (f_aload 0, 3)), (3, .inl (f_iload 1, 4)), (4, .inl (f_iload 2, 5)), (5, .inr (.inr (.inl (13, 8, 3, mX6_margin)))), (8, .inr (.inr (.inl (5, 9, 0, m0)))), (9, .inl (f_id, 20)), (12, .inl (f_astore 5 4, 14)), (14, .inl (f_ci (1), 15)), (15, .inr (.inr (.inl (15, 16, 0, m0)))), (16, .inl (f_astore 5 4, 18)), (18, .inl (f_ci (2), 19)), (19, .inr (.inr (.inl (15, 20, 0, m0)))), (20, .inl (f_ci (0), 21)), (21, .inr (.inr (.inl (15, 22, 0, m0))))]
set_option maxRecDepth 10000 in
theorem kL_margin {X : Ctx} (h : sCx X mL_margin) : tab X mL_margin tL_margin :=
  tab_cons (eS (st_aloadn h rfl dL_margin_0)) (
  tab_cons (eS (st_iconst h (by decide +kernel) dL_margin_1)) (
  tab_cons (eS (st_aloadn h rfl dL_margin_2)) (
  tab_cons (eS (st_iloadn h rfl dL_margin_3)) (
  tab_cons (eS (st_iloadn h rfl dL_margin_4)) (
  tab_cons (eO (so_callV h gl_61 gl_62 gl_63 gw_27 gl_64 ⟨by decide +kernel, by decide +kernel, by decide +kernel, by decide +kernel⟩ ⟨by decide +kernel, by decide +kernel⟩ dL_margin_5)) (
  tab_cons (eO (so_dastore h dL_margin_8)) (
  tab_cons (eS (st_goto h dL_margin_9 (by decide))) (
  tab_cons (eS (st_astore h dL_margin_12)) (
  tab_cons (eS (st_iconst h (by decide +kernel) dL_margin_14)) (
  tab_cons (eO (so_ireturn h dL_margin_15)) (
  tab_cons (eS (st_astore h dL_margin_16)) (
  tab_cons (eS (st_iconst h (by decide +kernel) dL_margin_18)) (
  tab_cons (eO (so_ireturn h dL_margin_19)) (
  tab_cons (eS (st_iconst h (by decide +kernel) dL_margin_20)) (
  tab_cons (eO (so_ireturn h dL_margin_21)) (
  tab_nil))))))))))))))))
theorem dL_violation_0 : decode cL_violation 0 = .ok (.aload_n 2, 1) := by decide +kernel
theorem dL_violation_1 : decode cL_violation 1 = .ok (.iconst 0, 1) := by decide +kernel
theorem dL_violation_2 : decode cL_violation 2 = .ok (.aload_n 0, 1) := by decide +kernel
theorem dL_violation_3 : decode cL_violation 3 = .ok (.iload_n 1, 1) := by decide +kernel
theorem dL_violation_4 : decode cL_violation 4 = .ok (.invokevirtual 71, 3) := by decide +kernel
theorem dL_violation_7 : decode cL_violation 7 = .ok (.i2l, 1) := by decide +kernel
theorem dL_violation_8 : decode cL_violation 8 = .ok (.lastore, 1) := by decide +kernel
theorem dL_violation_9 : decode cL_violation 9 = .ok (.goto 6, 3) := by decide +kernel
theorem dL_violation_12 : decode cL_violation 12 = .ok (.astore_n 3, 1) := by decide +kernel
theorem dL_violation_13 : decode cL_violation 13 = .ok (.iconst 1, 1) := by decide +kernel
theorem dL_violation_14 : decode cL_violation 14 = .ok (.ireturn, 1) := by decide +kernel
theorem dL_violation_15 : decode cL_violation 15 = .ok (.iconst 0, 1) := by decide +kernel
theorem dL_violation_16 : decode cL_violation 16 = .ok (.ireturn, 1) := by decide +kernel
def tL_violation : Tb := [(0, .inl (f_aload 2, 1)), (1, .inl (f_ci (0), 2)), (2, .inl (f_aload 0, 3)), (3, .inl (f_iload 1, 4)), (4, .inr (.inr (.inl (13, 7, 2, mX6_violation)))), (7, .inl (f_i2l, 8)), (8, .inr (.inr (.inl (6, 9, 0, m0)))), (9, .inl (f_id, 15)), (12, .inl (f_astore 4 3, 13)), (13, .inl (f_ci (1), 14)), (14, .inr (.inr (.inl (15, 15, 0, m0)))), (15, .inl (f_ci (0), 16)), (16, .inr (.inr (.inl (15, 17, 0, m0))))]
set_option maxRecDepth 10000 in
theorem kL_violation {X : Ctx} (h : sCx X mL_violation) : tab X mL_violation tL_violation :=
  tab_cons (eS (st_aloadn h rfl dL_violation_0)) (
  tab_cons (eS (st_iconst h (by decide +kernel) dL_violation_1)) (
  tab_cons (eS (st_aloadn h rfl dL_violation_2)) (
  tab_cons (eS (st_iloadn h rfl dL_violation_3)) (
  tab_cons (eO (so_callV h gl_65 gl_66 gl_67 gw_27 gl_68 ⟨by decide +kernel, by decide +kernel, by decide +kernel, by decide +kernel⟩ ⟨by decide +kernel, by decide +kernel⟩ dL_violation_4)) (
  tab_cons (eS (st_i2l h dL_violation_7)) (
  tab_cons (eO (so_lastore h dL_violation_8)) (
  tab_cons (eS (st_goto h dL_violation_9 (by decide))) (
  tab_cons (eS (st_astoren h rfl dL_violation_12)) (
  tab_cons (eS (st_iconst h (by decide +kernel) dL_violation_13)) (
  tab_cons (eO (so_ireturn h dL_violation_14)) (
  tab_cons (eS (st_iconst h (by decide +kernel) dL_violation_15)) (
  tab_cons (eO (so_ireturn h dL_violation_16)) (
  tab_nil)))))))))))))
theorem dL_autoPickup_0 : decode cL_autoPickup 0 = .ok (.aload_n 2, 1) := by decide +kernel
theorem dL_autoPickup_1 : decode cL_autoPickup 1 = .ok (.iconst 0, 1) := by decide +kernel
theorem dL_autoPickup_2 : decode cL_autoPickup 2 = .ok (.aload_n 0, 1) := by decide +kernel
theorem dL_autoPickup_3 : decode cL_autoPickup 3 = .ok (.iload_n 1, 1) := by decide +kernel
theorem dL_autoPickup_4 : decode cL_autoPickup 4 = .ok (.invokevirtual 76, 3) := by decide +kernel
theorem dL_autoPickup_7 : decode cL_autoPickup 7 = .ok (.i2l, 1) := by decide +kernel
theorem dL_autoPickup_8 : decode cL_autoPickup 8 = .ok (.lastore, 1) := by decide +kernel
theorem dL_autoPickup_9 : decode cL_autoPickup 9 = .ok (.goto 6, 3) := by decide +kernel
theorem dL_autoPickup_12 : decode cL_autoPickup 12 = .ok (.astore_n 3, 1) := by decide +kernel
theorem dL_autoPickup_13 : decode cL_autoPickup 13 = .ok (.iconst 1, 1) := by decide +kernel
theorem dL_autoPickup_14 : decode cL_autoPickup 14 = .ok (.ireturn, 1) := by decide +kernel
theorem dL_autoPickup_15 : decode cL_autoPickup 15 = .ok (.iconst 0, 1) := by decide +kernel
theorem dL_autoPickup_16 : decode cL_autoPickup 16 = .ok (.ireturn, 1) := by decide +kernel
def tL_autoPickup : Tb := [(0, .inl (f_aload 2, 1)), (1, .inl (f_ci (0), 2)), (2, .inl (f_aload 0, 3)), (3, .inl (f_iload 1, 4)), (4, .inr (.inr (.inl (13, 7, 2, mX6_autoPickup)))), (7, .inl (f_i2l, 8)), (8, .inr (.inr (.inl (6, 9, 0, m0)))), (9, .inl (f_id, 15)), (12, .inl (f_astore 4 3, 13)), (13, .inl (f_ci (1), 14)), (14, .inr (.inr (.inl (15, 15, 0, m0)))), (15, .inl (f_ci (0), 16)), (16, .inr (.inr (.inl (15, 17, 0, m0))))]
set_option maxRecDepth 10000 in
theorem kL_autoPickup {X : Ctx} (h : sCx X mL_autoPickup) : tab X mL_autoPickup tL_autoPickup :=
  tab_cons (eS (st_aloadn h rfl dL_autoPickup_0)) (
  tab_cons (eS (st_iconst h (by decide +kernel) dL_autoPickup_1)) (
  tab_cons (eS (st_aloadn h rfl dL_autoPickup_2)) (
  tab_cons (eS (st_iloadn h rfl dL_autoPickup_3)) (
  tab_cons (eO (so_callV h gl_69 gl_70 gl_71 gw_27 gl_72 ⟨by decide +kernel, by decide +kernel, by decide +kernel, by decide +kernel⟩ ⟨by decide +kernel, by decide +kernel⟩ dL_autoPickup_4)) (
  tab_cons (eS (st_i2l h dL_autoPickup_7)) (
  tab_cons (eO (so_lastore h dL_autoPickup_8)) (
  tab_cons (eS (st_goto h dL_autoPickup_9 (by decide))) (
  tab_cons (eS (st_astoren h rfl dL_autoPickup_12)) (
  tab_cons (eS (st_iconst h (by decide +kernel) dL_autoPickup_13)) (
  tab_cons (eO (so_ireturn h dL_autoPickup_14)) (
  tab_cons (eS (st_iconst h (by decide +kernel) dL_autoPickup_15)) (
  tab_cons (eO (so_ireturn h dL_autoPickup_16)) (
  tab_nil)))))))))))))
theorem dL_simulate_0 : decode cL_simulate 0 = .ok (.aload 5, 2) := by decide +kernel
theorem dL_simulate_2 : decode cL_simulate 2 = .ok (.iconst 0, 1) := by decide +kernel
theorem dL_simulate_3 : decode cL_simulate 3 = .ok (.aload_n 0, 1) := by decide +kernel
theorem dL_simulate_4 : decode cL_simulate 4 = .ok (.iload_n 1, 1) := by decide +kernel
theorem dL_simulate_5 : decode cL_simulate 5 = .ok (.iload_n 2, 1) := by decide +kernel
theorem dL_simulate_6 : decode cL_simulate 6 = .ok (.dload_n 3, 1) := by decide +kernel
theorem dL_simulate_7 : decode cL_simulate 7 = .ok (.invokevirtual 79, 3) := by decide +kernel
theorem dL_simulate_10 : decode cL_simulate 10 = .ok (.i2l, 1) := by decide +kernel
theorem dL_simulate_11 : decode cL_simulate 11 = .ok (.lastore, 1) := by decide +kernel
theorem dL_simulate_12 : decode cL_simulate 12 = .ok (.goto 7, 3) := by decide +kernel
theorem dL_simulate_15 : decode cL_simulate 15 = .ok (.astore 6, 2) := by decide +kernel
theorem dL_simulate_17 : decode cL_simulate 17 = .ok (.iconst 1, 1) := by decide +kernel
theorem dL_simulate_18 : decode cL_simulate 18 = .ok (.ireturn, 1) := by decide +kernel
theorem dL_simulate_19 : decode cL_simulate 19 = .ok (.iconst 0, 1) := by decide +kernel
theorem dL_simulate_20 : decode cL_simulate 20 = .ok (.ireturn, 1) := by decide +kernel
def tL_simulate : Tb := [(0, .inl (f_aload 5, 2)), (2, .inl (f_ci (0), 3)), (3, .inl (f_aload 0, 4)), (4, .inl (f_iload 1, 5)), (5, .inl (f_iload 2, 6)), (6, .inl (f_dload 3, 7)), (7, .inr (.inr (.inl (13, 10, 4, mX6_simulate)))), (10, .inl (f_i2l, 11)), (11, .inr (.inr (.inl (6, 12, 0, m0)))), (12, .inl (f_id, 19)), (15, .inl (f_astore 7 6, 17)), (17, .inl (f_ci (1), 18)), (18, .inr (.inr (.inl (15, 19, 0, m0)))), (19, .inl (f_ci (0), 20)), (20, .inr (.inr (.inl (15, 21, 0, m0))))]
set_option maxRecDepth 10000 in
theorem kL_simulate {X : Ctx} (h : sCx X mL_simulate) : tab X mL_simulate tL_simulate :=
  tab_cons (eS (st_aload h dL_simulate_0)) (
  tab_cons (eS (st_iconst h (by decide +kernel) dL_simulate_2)) (
  tab_cons (eS (st_aloadn h rfl dL_simulate_3)) (
  tab_cons (eS (st_iloadn h rfl dL_simulate_4)) (
  tab_cons (eS (st_iloadn h rfl dL_simulate_5)) (
  tab_cons (eS (st_dloadn h rfl dL_simulate_6)) (
  tab_cons (eO (so_callV h gl_73 gl_74 gl_75 gw_27 gl_76 ⟨by decide +kernel, by decide +kernel, by decide +kernel, by decide +kernel⟩ ⟨by decide +kernel, by decide +kernel⟩ dL_simulate_7)) (
  tab_cons (eS (st_i2l h dL_simulate_10)) (
  tab_cons (eO (so_lastore h dL_simulate_11)) (
  tab_cons (eS (st_goto h dL_simulate_12 (by decide))) (
  tab_cons (eS (st_astore h dL_simulate_15)) (
  tab_cons (eS (st_iconst h (by decide +kernel) dL_simulate_17)) (
  tab_cons (eO (so_ireturn h dL_simulate_18)) (
  tab_cons (eS (st_iconst h (by decide +kernel) dL_simulate_19)) (
  tab_cons (eO (so_ireturn h dL_simulate_20)) (
  tab_nil)))))))))))))))
theorem dL_event_0 : decode cL_event 0 = .ok (.aload_n 2, 1) := by decide +kernel
theorem dL_event_1 : decode cL_event 1 = .ok (.iconst 0, 1) := by decide +kernel
theorem dL_event_2 : decode cL_event 2 = .ok (.aload_n 0, 1) := by decide +kernel
theorem dL_event_3 : decode cL_event 3 = .ok (.iload_n 1, 1) := by decide +kernel
theorem dL_event_4 : decode cL_event 4 = .ok (.invokevirtual 83, 3) := by decide +kernel
theorem dL_event_7 : decode cL_event 7 = .ok (.i2l, 1) := by decide +kernel
theorem dL_event_8 : decode cL_event 8 = .ok (.lastore, 1) := by decide +kernel
theorem dL_event_9 : decode cL_event 9 = .ok (.goto 6, 3) := by decide +kernel
theorem dL_event_12 : decode cL_event 12 = .ok (.astore_n 3, 1) := by decide +kernel
theorem dL_event_13 : decode cL_event 13 = .ok (.iconst 1, 1) := by decide +kernel
theorem dL_event_14 : decode cL_event 14 = .ok (.ireturn, 1) := by decide +kernel
theorem dL_event_15 : decode cL_event 15 = .ok (.iconst 0, 1) := by decide +kernel
theorem dL_event_16 : decode cL_event 16 = .ok (.ireturn, 1) := by decide +kernel
def tL_event : Tb := [(0, .inl (f_aload 2, 1)), (1, .inl (f_ci (0), 2)), (2, .inl (f_aload 0, 3)), (3, .inl (f_iload 1, 4)), (4, .inr (.inr (.inl (13, 7, 2, mX6_event)))), (7, .inl (f_i2l, 8)), (8, .inr (.inr (.inl (6, 9, 0, m0)))), (9, .inl (f_id, 15)), (12, .inl (f_astore 4 3, 13)), (13, .inl (f_ci (1), 14)), (14, .inr (.inr (.inl (15, 15, 0, m0)))), (15, .inl (f_ci (0), 16)), (16, .inr (.inr (.inl (15, 17, 0, m0))))]
set_option maxRecDepth 10000 in
theorem kL_event {X : Ctx} (h : sCx X mL_event) : tab X mL_event tL_event :=
  tab_cons (eS (st_aloadn h rfl dL_event_0)) (
  tab_cons (eS (st_iconst h (by decide +kernel) dL_event_1)) (
  tab_cons (eS (st_aloadn h rfl dL_event_2)) (
  tab_cons (eS (st_iloadn h rfl dL_event_3)) (
  tab_cons (eO (so_callV h gl_77 gl_78 gl_79 gw_27 gl_80 ⟨by decide +kernel, by decide +kernel, by decide +kernel, by decide +kernel⟩ ⟨by decide +kernel, by decide +kernel⟩ dL_event_4)) (
  tab_cons (eS (st_i2l h dL_event_7)) (
  tab_cons (eO (so_lastore h dL_event_8)) (
  tab_cons (eS (st_goto h dL_event_9 (by decide))) (
  tab_cons (eS (st_astoren h rfl dL_event_12)) (
  tab_cons (eS (st_iconst h (by decide +kernel) dL_event_13)) (
  tab_cons (eO (so_ireturn h dL_event_14)) (
  tab_cons (eS (st_iconst h (by decide +kernel) dL_event_15)) (
  tab_cons (eO (so_ireturn h dL_event_16)) (
  tab_nil)))))))))))))
theorem dL_eventTime_0 : decode cL_eventTime 0 = .ok (.aload_n 2, 1) := by decide +kernel
theorem dL_eventTime_1 : decode cL_eventTime 1 = .ok (.iconst 0, 1) := by decide +kernel
theorem dL_eventTime_2 : decode cL_eventTime 2 = .ok (.aload_n 0, 1) := by decide +kernel
theorem dL_eventTime_3 : decode cL_eventTime 3 = .ok (.iload_n 1, 1) := by decide +kernel
theorem dL_eventTime_4 : decode cL_eventTime 4 = .ok (.invokevirtual 86, 3) := by decide +kernel
theorem dL_eventTime_7 : decode cL_eventTime 7 = .ok (.dastore, 1) := by decide +kernel
theorem dL_eventTime_8 : decode cL_eventTime 8 = .ok (.goto 6, 3) := by decide +kernel
theorem dL_eventTime_11 : decode cL_eventTime 11 = .ok (.astore_n 3, 1) := by decide +kernel
theorem dL_eventTime_12 : decode cL_eventTime 12 = .ok (.iconst 1, 1) := by decide +kernel
theorem dL_eventTime_13 : decode cL_eventTime 13 = .ok (.ireturn, 1) := by decide +kernel
theorem dL_eventTime_14 : decode cL_eventTime 14 = .ok (.iconst 0, 1) := by decide +kernel
theorem dL_eventTime_15 : decode cL_eventTime 15 = .ok (.ireturn, 1) := by decide +kernel
def tL_eventTime : Tb := [(0, .inl (f_aload 2, 1)), (1, .inl (f_ci (0), 2)), (2, .inl (f_aload 0, 3)), (3, .inl (f_iload 1, 4)), (4, .inr (.inr (.inl (13, 7, 2, mX6_eventTime)))), (7, .inr (.inr (.inl (5, 8, 0, m0)))), (8, .inl (f_id, 14)), (11, .inl (f_astore 4 3, 12)), (12, .inl (f_ci (1), 13)), (13, .inr (.inr (.inl (15, 14, 0, m0)))), (14, .inl (f_ci (0), 15)), (15, .inr (.inr (.inl (15, 16, 0, m0))))]
set_option maxRecDepth 10000 in
theorem kL_eventTime {X : Ctx} (h : sCx X mL_eventTime) : tab X mL_eventTime tL_eventTime :=
  tab_cons (eS (st_aloadn h rfl dL_eventTime_0)) (
  tab_cons (eS (st_iconst h (by decide +kernel) dL_eventTime_1)) (
  tab_cons (eS (st_aloadn h rfl dL_eventTime_2)) (
  tab_cons (eS (st_iloadn h rfl dL_eventTime_3)) (
  tab_cons (eO (so_callV h gl_81 gl_82 gl_83 gw_27 gl_84 ⟨by decide +kernel, by decide +kernel, by decide +kernel, by decide +kernel⟩ ⟨by decide +kernel, by decide +kernel⟩ dL_eventTime_4)) (
  tab_cons (eO (so_dastore h dL_eventTime_7)) (
  tab_cons (eS (st_goto h dL_eventTime_8 (by decide))) (
  tab_cons (eS (st_astoren h rfl dL_eventTime_11)) (
  tab_cons (eS (st_iconst h (by decide +kernel) dL_eventTime_12)) (
  tab_cons (eO (so_ireturn h dL_eventTime_13)) (
  tab_cons (eS (st_iconst h (by decide +kernel) dL_eventTime_14)) (
  tab_cons (eO (so_ireturn h dL_eventTime_15)) (
  tab_nil))))))))))))
theorem dL_undo_0 : decode cL_undo 0 = .ok (.aload_n 1, 1) := by decide +kernel
theorem dL_undo_1 : decode cL_undo 1 = .ok (.iconst 0, 1) := by decide +kernel
theorem dL_undo_2 : decode cL_undo 2 = .ok (.aload_n 0, 1) := by decide +kernel
theorem dL_undo_3 : decode cL_undo 3 = .ok (.invokevirtual 89, 3) := by decide +kernel
theorem dL_undo_6 : decode cL_undo 6 = .ok (.i2l, 1) := by decide +kernel
theorem dL_undo_7 : decode cL_undo 7 = .ok (.lastore, 1) := by decide +kernel
theorem dL_undo_8 : decode cL_undo 8 = .ok (.goto 6, 3) := by decide +kernel
theorem dL_undo_11 : decode cL_undo 11 = .ok (.astore_n 2, 1) := by decide +kernel
theorem dL_undo_12 : decode cL_undo 12 = .ok (.iconst 1, 1) := by decide +kernel
theorem dL_undo_13 : decode cL_undo 13 = .ok (.ireturn, 1) := by decide +kernel
theorem dL_undo_14 : decode cL_undo 14 = .ok (.iconst 0, 1) := by decide +kernel
theorem dL_undo_15 : decode cL_undo 15 = .ok (.ireturn, 1) := by decide +kernel
def tL_undo : Tb := [(0, .inl (f_aload 1, 1)), (1, .inl (f_ci (0), 2)), (2, .inl (f_aload 0, 3)), (3, .inr (.inr (.inl (13, 6, 1, mX6_undo)))), (6, .inl (f_i2l, 7)), (7, .inr (.inr (.inl (6, 8, 0, m0)))), (8, .inl (f_id, 14)), (11, .inl (f_astore 3 2, 12)), (12, .inl (f_ci (1), 13)), (13, .inr (.inr (.inl (15, 14, 0, m0)))), (14, .inl (f_ci (0), 15)), (15, .inr (.inr (.inl (15, 16, 0, m0))))]
set_option maxRecDepth 10000 in
theorem kL_undo {X : Ctx} (h : sCx X mL_undo) : tab X mL_undo tL_undo :=
  tab_cons (eS (st_aloadn h rfl dL_undo_0)) (
  tab_cons (eS (st_iconst h (by decide +kernel) dL_undo_1)) (
  tab_cons (eS (st_aloadn h rfl dL_undo_2)) (
  tab_cons (eO (so_callV h gl_85 gl_86 gl_87 gw_27 gl_88 ⟨by decide +kernel, by decide +kernel, by decide +kernel, by decide +kernel⟩ ⟨by decide +kernel, by decide +kernel⟩ dL_undo_3)) (
  tab_cons (eS (st_i2l h dL_undo_6)) (
  tab_cons (eO (so_lastore h dL_undo_7)) (
  tab_cons (eS (st_goto h dL_undo_8 (by decide))) (
  tab_cons (eS (st_astoren h rfl dL_undo_11)) (
  tab_cons (eS (st_iconst h (by decide +kernel) dL_undo_12)) (
  tab_cons (eO (so_ireturn h dL_undo_13)) (
  tab_cons (eS (st_iconst h (by decide +kernel) dL_undo_14)) (
  tab_cons (eO (so_ireturn h dL_undo_15)) (
  tab_nil))))))))))))
