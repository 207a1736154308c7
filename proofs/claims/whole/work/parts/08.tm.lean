theorem dX7_thrown_0 : decode cX7_thrown 0 = .ok (.aload_n 0, 1) := by decide +kernel
theorem dX7_thrown_1 : decode cX7_thrown 1 = .ok (.getfield 45, 3) := by decide +kernel
theorem dX7_thrown_4 : decode cX7_thrown 4 = .ok (.ireturn, 1) := by decide +kernel
def tX7_thrown_0 : Tb := [(0, .inl (f_aload 0, 1)), (1, .inl (f_get 7 0, 4)), (4, .inr (.inr (.inl (15, 5, 0, m0))))]
set_option maxRecDepth 10000 in
theorem kX7_thrown_0 {X : Ctx} (h : sCx X mX7_thrown) : tab X mX7_thrown tX7_thrown_0 :=
  tab_cons (eS (st_aloadn h rfl dX7_thrown_0)) (
  tab_cons (eS (st_get h (ci := 7) (k := 0) rfl giX7 (by decide) rfl gw_291 dX7_thrown_1)) (
  tab_cons (eO (so_ireturn h dX7_thrown_4)) (
  tab_nil)))
def tX7_thrown : Tb := tX7_thrown_0
theorem kX7_thrown {X : Ctx} (h : sCx X mX7_thrown) : tab X mX7_thrown tX7_thrown := kX7_thrown_0 h
theorem dX7_in_0 : decode cX7_in 0 = .ok (.iload_n 0, 1) := by decide +kernel
theorem dX7_in_1 : decode cX7_in 1 = .ok (.iload_n 1, 1) := by decide +kernel
theorem dX7_in_2 : decode cX7_in 2 = .ok (.if_icmp .lt 12, 3) := by decide +kernel
theorem dX7_in_5 : decode cX7_in 5 = .ok (.iload_n 0, 1) := by decide +kernel
theorem dX7_in_6 : decode cX7_in 6 = .ok (.iload_n 2, 1) := by decide +kernel
theorem dX7_in_7 : decode cX7_in 7 = .ok (.if_icmp .gt 7, 3) := by decide +kernel
theorem dX7_in_10 : decode cX7_in 10 = .ok (.iconst 1, 1) := by decide +kernel
theorem dX7_in_11 : decode cX7_in 11 = .ok (.goto 4, 3) := by decide +kernel
theorem dX7_in_14 : decode cX7_in 14 = .ok (.iconst 0, 1) := by decide +kernel
theorem dX7_in_15 : decode cX7_in 15 = .ok (.ireturn, 1) := by decide +kernel
def tX7_in_0 : Tb := [(0, .inl (f_iload 0, 1)), (1, .inl (f_iload 1, 2)), (2, .inr (.inl (b_icmp_lt, 14, 5))), (5, .inl (f_iload 0, 6)), (6, .inl (f_iload 2, 7)), (7, .inr (.inl (b_icmp_gt, 14, 10))), (10, .inl (f_ci (1), 11)), (11, .inl (f_id, 15)), (14, .inl (f_ci (0), 15)), (15, .inr (.inr (.inl (15, 16, 0, m0))))]
set_option maxRecDepth 10000 in
theorem kX7_in_0 {X : Ctx} (h : sCx X mX7_in) : tab X mX7_in tX7_in_0 :=
  tab_cons (eS (st_iloadn h rfl dX7_in_0)) (
  tab_cons (eS (st_iloadn h rfl dX7_in_1)) (
  tab_cons (eB (sb_icmp_lt h dX7_in_2 (by decide))) (
  tab_cons (eS (st_iloadn h rfl dX7_in_5)) (
  tab_cons (eS (st_iloadn h rfl dX7_in_6)) (
  tab_cons (eB (sb_icmp_gt h dX7_in_7 (by decide))) (
  tab_cons (eS (st_iconst h (by decide +kernel) dX7_in_10)) (
  tab_cons (eS (st_goto h dX7_in_11 (by decide))) (
  tab_cons (eS (st_iconst h (by decide +kernel) dX7_in_14)) (
  tab_cons (eO (so_ireturn h dX7_in_15)) (
  tab_nil))))))))))
def tX7_in : Tb := tX7_in_0
theorem kX7_in {X : Ctx} (h : sCx X mX7_in) : tab X mX7_in tX7_in := kX7_in_0 h
theorem dX7_inReal_0 : decode cX7_inReal 0 = .ok (.dload_n 0, 1) := by decide +kernel
theorem dX7_inReal_1 : decode cX7_inReal 1 = .ok (.dload_n 2, 1) := by decide +kernel
theorem dX7_inReal_2 : decode cX7_inReal 2 = .ok (.dcmp .l, 1) := by decide +kernel
theorem dX7_inReal_3 : decode cX7_inReal 3 = .ok (.ifCond .lt 14, 3) := by decide +kernel
theorem dX7_inReal_6 : decode cX7_inReal 6 = .ok (.dload_n 0, 1) := by decide +kernel
theorem dX7_inReal_7 : decode cX7_inReal 7 = .ok (.dload 4, 2) := by decide +kernel
theorem dX7_inReal_9 : decode cX7_inReal 9 = .ok (.dcmp .g, 1) := by decide +kernel
theorem dX7_inReal_10 : decode cX7_inReal 10 = .ok (.ifCond .gt 7, 3) := by decide +kernel
theorem dX7_inReal_13 : decode cX7_inReal 13 = .ok (.iconst 1, 1) := by decide +kernel
theorem dX7_inReal_14 : decode cX7_inReal 14 = .ok (.goto 4, 3) := by decide +kernel
theorem dX7_inReal_17 : decode cX7_inReal 17 = .ok (.iconst 0, 1) := by decide +kernel
theorem dX7_inReal_18 : decode cX7_inReal 18 = .ok (.ireturn, 1) := by decide +kernel
def tX7_inReal_0 : Tb := [(0, .inl (f_dload 0, 1)), (1, .inl (f_dload 2, 2)), (2, .inl (f_dcmpl, 3)), (3, .inr (.inl (b_if_lt, 17, 6))), (6, .inl (f_dload 0, 7)), (7, .inl (f_dload 4, 9)), (9, .inl (f_dcmpg, 10)), (10, .inr (.inl (b_if_gt, 17, 13))), (13, .inl (f_ci (1), 14)), (14, .inl (f_id, 18)), (17, .inl (f_ci (0), 18)), (18, .inr (.inr (.inl (15, 19, 0, m0))))]
set_option maxRecDepth 10000 in
theorem kX7_inReal_0 {X : Ctx} (h : sCx X mX7_inReal) : tab X mX7_inReal tX7_inReal_0 :=
  tab_cons (eS (st_dloadn h rfl dX7_inReal_0)) (
  tab_cons (eS (st_dloadn h rfl dX7_inReal_1)) (
  tab_cons (eS (st_dcmpl h dX7_inReal_2)) (
  tab_cons (eB (sb_if_lt h dX7_inReal_3 (by decide))) (
  tab_cons (eS (st_dloadn h rfl dX7_inReal_6)) (
  tab_cons (eS (st_dload h dX7_inReal_7)) (
  tab_cons (eS (st_dcmpg h dX7_inReal_9)) (
  tab_cons (eB (sb_if_gt h dX7_inReal_10 (by decide))) (
  tab_cons (eS (st_iconst h (by decide +kernel) dX7_inReal_13)) (
  tab_cons (eS (st_goto h dX7_inReal_14 (by decide))) (
  tab_cons (eS (st_iconst h (by decide +kernel) dX7_inReal_17)) (
  tab_cons (eO (so_ireturn h dX7_inReal_18)) (
  tab_nil))))))))))))
def tX7_inReal : Tb := tX7_inReal_0
theorem kX7_inReal {X : Ctx} (h : sCx X mX7_inReal) : tab X mX7_inReal tX7_inReal := kX7_inReal_0 h
theorem dX7_isLine_0 : decode cX7_isLine 0 = .ok (.iload_n 1, 1) := by decide +kernel
theorem dX7_isLine_1 : decode cX7_isLine 1 = .ok (.iconst 0, 1) := by decide +kernel
theorem dX7_isLine_2 : decode cX7_isLine 2 = .ok (.aload_n 0, 1) := by decide +kernel
theorem dX7_isLine_3 : decode cX7_isLine 3 = .ok (.getfield 7, 3) := by decide +kernel
theorem dX7_isLine_6 : decode cX7_isLine 6 = .ok (.iconst 0, 1) := by decide +kernel
theorem dX7_isLine_7 : decode cX7_isLine 7 = .ok (.iaload, 1) := by decide +kernel
theorem dX7_isLine_8 : decode cX7_isLine 8 = .ok (.iconst 1, 1) := by decide +kernel
theorem dX7_isLine_9 : decode cX7_isLine 9 = .ok (.isub, 1) := by decide +kernel
theorem dX7_isLine_10 : decode cX7_isLine 10 = .ok (.invokestatic 49, 3) := by decide +kernel
theorem dX7_isLine_13 : decode cX7_isLine 13 = .ok (.ireturn, 1) := by decide +kernel
def tX7_isLine_0 : Tb := [(0, .inl (f_iload 1, 1)), (1, .inl (f_ci (0), 2)), (2, .inl (f_aload 0, 3)), (3, .inl (f_get 7 1, 6)), (6, .inl (f_ci (0), 7)), (7, .inr (.inr (.inl (0, 8, 0, m0)))), (8, .inl (f_ci (1), 9)), (9, .inl (f_isub, 10)), (10, .inr (.inr (.inl (14, 13, 3, mX7_in)))), (13, .inr (.inr (.inl (15, 14, 0, m0))))]
set_option maxRecDepth 10000 in
theorem kX7_isLine_0 {X : Ctx} (h : sCx X mX7_isLine) : tab X mX7_isLine tX7_isLine_0 :=
  tab_cons (eS (st_iloadn h rfl dX7_isLine_0)) (
  tab_cons (eS (st_iconst h (by decide +kernel) dX7_isLine_1)) (
  tab_cons (eS (st_aloadn h rfl dX7_isLine_2)) (
  tab_cons (eS (st_get h (ci := 7) (k := 1) rfl giX7 (by decide) rfl gw_292 dX7_isLine_3)) (
  tab_cons (eS (st_iconst h (by decide +kernel) dX7_isLine_6)) (
  tab_cons (eO (so_iaload h dX7_isLine_7)) (
  tab_cons (eS (st_iconst h (by decide +kernel) dX7_isLine_8)) (
  tab_cons (eS (st_isub h dX7_isLine_9)) (
  tab_cons (eO (so_callS h gw_293 gw_294 gw_295 gw_296 ⟨by decide +kernel, by decide +kernel, by decide +kernel⟩ ⟨by decide +kernel, by decide +kernel⟩ dX7_isLine_10)) (
  tab_cons (eO (so_ireturn h dX7_isLine_13)) (
  tab_nil))))))))))
def tX7_isLine : Tb := tX7_isLine_0
theorem kX7_isLine {X : Ctx} (h : sCx X mX7_isLine) : tab X mX7_isLine tX7_isLine := kX7_isLine_0 h
theorem dX7_at_0 : decode cX7_at 0 = .ok (.iconst 2, 1) := by decide +kernel
theorem dX7_at_1 : decode cX7_at 1 = .ok (.bipush 9, 2) := by decide +kernel
theorem dX7_at_3 : decode cX7_at 3 = .ok (.iload_n 0, 1) := by decide +kernel
theorem dX7_at_4 : decode cX7_at 4 = .ok (.imul, 1) := by decide +kernel
theorem dX7_at_5 : decode cX7_at 5 = .ok (.iadd, 1) := by decide +kernel
theorem dX7_at_6 : decode cX7_at 6 = .ok (.iload_n 1, 1) := by decide +kernel
theorem dX7_at_7 : decode cX7_at 7 = .ok (.iadd, 1) := by decide +kernel
theorem dX7_at_8 : decode cX7_at 8 = .ok (.ireturn, 1) := by decide +kernel
def tX7_at_0 : Tb := [(0, .inl (f_ci (2), 1)), (1, .inl (f_ci (9), 3)), (3, .inl (f_iload 0, 4)), (4, .inl (f_imul, 5)), (5, .inl (f_iadd, 6)), (6, .inl (f_iload 1, 7)), (7, .inl (f_iadd, 8)), (8, .inr (.inr (.inl (15, 9, 0, m0))))]
set_option maxRecDepth 10000 in
theorem kX7_at_0 {X : Ctx} (h : sCx X mX7_at) : tab X mX7_at tX7_at_0 :=
  tab_cons (eS (st_iconst h (by decide +kernel) dX7_at_0)) (
  tab_cons (eS (st_bipush h (by decide +kernel) dX7_at_1)) (
  tab_cons (eS (st_iloadn h rfl dX7_at_3)) (
  tab_cons (eS (st_imul h dX7_at_4)) (
  tab_cons (eS (st_iadd h dX7_at_5)) (
  tab_cons (eS (st_iloadn h rfl dX7_at_6)) (
  tab_cons (eS (st_iadd h dX7_at_7)) (
  tab_cons (eO (so_ireturn h dX7_at_8)) (
  tab_nil))))))))
def tX7_at : Tb := tX7_at_0
theorem kX7_at {X : Ctx} (h : sCx X mX7_at) : tab X mX7_at tX7_at := kX7_at_0 h
theorem dX7_save_0 : decode cX7_save 0 = .ok (.aload_n 0, 1) := by decide +kernel
theorem dX7_save_1 : decode cX7_save 1 = .ok (.getfield 53, 3) := by decide +kernel
theorem dX7_save_4 : decode cX7_save 4 = .ok (.iconst 4, 1) := by decide +kernel
theorem dX7_save_5 : decode cX7_save 5 = .ok (.if_icmp .ne 74, 3) := by decide +kernel
theorem dX7_save_8 : decode cX7_save 8 = .ok (.iconst 0, 1) := by decide +kernel
theorem dX7_save_9 : decode cX7_save 9 = .ok (.istore_n 1, 1) := by decide +kernel
theorem dX7_save_10 : decode cX7_save 10 = .ok (.iload_n 1, 1) := by decide +kernel
theorem dX7_save_11 : decode cX7_save 11 = .ok (.sipush 510, 3) := by decide +kernel
theorem dX7_save_14 : decode cX7_save 14 = .ok (.if_icmp .ge 25, 3) := by decide +kernel
theorem dX7_save_17 : decode cX7_save 17 = .ok (.aload_n 0, 1) := by decide +kernel
theorem dX7_save_18 : decode cX7_save 18 = .ok (.getfield 17, 3) := by decide +kernel
theorem dX7_save_21 : decode cX7_save 21 = .ok (.iload_n 1, 1) := by decide +kernel
theorem dX7_save_22 : decode cX7_save 22 = .ok (.aload_n 0, 1) := by decide +kernel
theorem dX7_save_23 : decode cX7_save 23 = .ok (.getfield 17, 3) := by decide +kernel
theorem dX7_save_26 : decode cX7_save 26 = .ok (.iload_n 1, 1) := by decide +kernel
theorem dX7_save_27 : decode cX7_save 27 = .ok (.sipush 170, 3) := by decide +kernel
theorem dX7_save_30 : decode cX7_save 30 = .ok (.iadd, 1) := by decide +kernel
theorem dX7_save_31 : decode cX7_save 31 = .ok (.iaload, 1) := by decide +kernel
theorem dX7_save_32 : decode cX7_save 32 = .ok (.iastore, 1) := by decide +kernel
theorem dX7_save_33 : decode cX7_save 33 = .ok (.iinc 1 1, 3) := by decide +kernel
theorem dX7_save_36 : decode cX7_save 36 = .ok (.goto (-26), 3) := by decide +kernel
theorem dX7_save_39 : decode cX7_save 39 = .ok (.iconst 0, 1) := by decide +kernel
theorem dX7_save_40 : decode cX7_save 40 = .ok (.istore_n 1, 1) := by decide +kernel
theorem dX7_save_41 : decode cX7_save 41 = .ok (.iload_n 1, 1) := by decide +kernel
theorem dX7_save_42 : decode cX7_save 42 = .ok (.sipush 228, 3) := by decide +kernel
theorem dX7_save_45 : decode cX7_save 45 = .ok (.if_icmp .ge 24, 3) := by decide +kernel
theorem dX7_save_48 : decode cX7_save 48 = .ok (.aload_n 0, 1) := by decide +kernel
theorem dX7_save_49 : decode cX7_save 49 = .ok (.getfield 20, 3) := by decide +kernel
theorem dX7_save_52 : decode cX7_save 52 = .ok (.iload_n 1, 1) := by decide +kernel
theorem dX7_save_53 : decode cX7_save 53 = .ok (.aload_n 0, 1) := by decide +kernel
theorem dX7_save_54 : decode cX7_save 54 = .ok (.getfield 20, 3) := by decide +kernel
theorem dX7_save_57 : decode cX7_save 57 = .ok (.iload_n 1, 1) := by decide +kernel
theorem dX7_save_58 : decode cX7_save 58 = .ok (.bipush 76, 2) := by decide +kernel
theorem dX7_save_60 : decode cX7_save 60 = .ok (.iadd, 1) := by decide +kernel
theorem dX7_save_61 : decode cX7_save 61 = .ok (.daload, 1) := by decide +kernel
theorem dX7_save_62 : decode cX7_save 62 = .ok (.dastore, 1) := by decide +kernel
theorem dX7_save_63 : decode cX7_save 63 = .ok (.iinc 1 1, 3) := by decide +kernel
theorem dX7_save_66 : decode cX7_save 66 = .ok (.goto (-25), 3) := by decide +kernel
theorem dX7_save_69 : decode cX7_save 69 = .ok (.aload_n 0, 1) := by decide +kernel
theorem dX7_save_70 : decode cX7_save 70 = .ok (.dup, 1) := by decide +kernel
theorem dX7_save_71 : decode cX7_save 71 = .ok (.getfield 53, 3) := by decide +kernel
theorem dX7_save_74 : decode cX7_save 74 = .ok (.iconst 1, 1) := by decide +kernel
theorem dX7_save_75 : decode cX7_save 75 = .ok (.isub, 1) := by decide +kernel
theorem dX7_save_76 : decode cX7_save 76 = .ok (.putfield 53, 3) := by decide +kernel
theorem dX7_save_79 : decode cX7_save 79 = .ok (.iconst 0, 1) := by decide +kernel
theorem dX7_save_80 : decode cX7_save 80 = .ok (.istore_n 1, 1) := by decide +kernel
theorem dX7_save_81 : decode cX7_save 81 = .ok (.iload_n 1, 1) := by decide +kernel
theorem dX7_save_82 : decode cX7_save 82 = .ok (.sipush 170, 3) := by decide +kernel
theorem dX7_save_85 : decode cX7_save 85 = .ok (.if_icmp .ge 30, 3) := by decide +kernel
theorem dX7_save_88 : decode cX7_save 88 = .ok (.aload_n 0, 1) := by decide +kernel
theorem dX7_save_89 : decode cX7_save 89 = .ok (.getfield 17, 3) := by decide +kernel
theorem dX7_save_92 : decode cX7_save 92 = .ok (.sipush 170, 3) := by decide +kernel
theorem dX7_save_95 : decode cX7_save 95 = .ok (.aload_n 0, 1) := by decide +kernel
theorem dX7_save_96 : decode cX7_save 96 = .ok (.getfield 53, 3) := by decide +kernel
theorem dX7_save_99 : decode cX7_save 99 = .ok (.imul, 1) := by decide +kernel
theorem dX7_save_100 : decode cX7_save 100 = .ok (.iload_n 1, 1) := by decide +kernel
theorem dX7_save_101 : decode cX7_save 101 = .ok (.iadd, 1) := by decide +kernel
theorem dX7_save_102 : decode cX7_save 102 = .ok (.aload_n 0, 1) := by decide +kernel
theorem dX7_save_103 : decode cX7_save 103 = .ok (.getfield 7, 3) := by decide +kernel
theorem dX7_save_106 : decode cX7_save 106 = .ok (.iload_n 1, 1) := by decide +kernel
theorem dX7_save_107 : decode cX7_save 107 = .ok (.iaload, 1) := by decide +kernel
theorem dX7_save_108 : decode cX7_save 108 = .ok (.iastore, 1) := by decide +kernel
theorem dX7_save_109 : decode cX7_save 109 = .ok (.iinc 1 1, 3) := by decide +kernel
theorem dX7_save_112 : decode cX7_save 112 = .ok (.goto (-31), 3) := by decide +kernel
theorem dX7_save_115 : decode cX7_save 115 = .ok (.iconst 0, 1) := by decide +kernel
theorem dX7_save_116 : decode cX7_save 116 = .ok (.istore_n 1, 1) := by decide +kernel
theorem dX7_save_117 : decode cX7_save 117 = .ok (.iload_n 1, 1) := by decide +kernel
theorem dX7_save_118 : decode cX7_save 118 = .ok (.bipush 76, 2) := by decide +kernel
theorem dX7_save_120 : decode cX7_save 120 = .ok (.if_icmp .ge 29, 3) := by decide +kernel
theorem dX7_save_123 : decode cX7_save 123 = .ok (.aload_n 0, 1) := by decide +kernel
theorem dX7_save_124 : decode cX7_save 124 = .ok (.getfield 20, 3) := by decide +kernel
theorem dX7_save_127 : decode cX7_save 127 = .ok (.bipush 76, 2) := by decide +kernel
theorem dX7_save_129 : decode cX7_save 129 = .ok (.aload_n 0, 1) := by decide +kernel
theorem dX7_save_130 : decode cX7_save 130 = .ok (.getfield 53, 3) := by decide +kernel
theorem dX7_save_133 : decode cX7_save 133 = .ok (.imul, 1) := by decide +kernel
theorem dX7_save_134 : decode cX7_save 134 = .ok (.iload_n 1, 1) := by decide +kernel
theorem dX7_save_135 : decode cX7_save 135 = .ok (.iadd, 1) := by decide +kernel
theorem dX7_save_136 : decode cX7_save 136 = .ok (.aload_n 0, 1) := by decide +kernel
theorem dX7_save_137 : decode cX7_save 137 = .ok (.getfield 13, 3) := by decide +kernel
theorem dX7_save_140 : decode cX7_save 140 = .ok (.iload_n 1, 1) := by decide +kernel
theorem dX7_save_141 : decode cX7_save 141 = .ok (.daload, 1) := by decide +kernel
theorem dX7_save_142 : decode cX7_save 142 = .ok (.dastore, 1) := by decide +kernel
theorem dX7_save_143 : decode cX7_save 143 = .ok (.iinc 1 1, 3) := by decide +kernel
theorem dX7_save_146 : decode cX7_save 146 = .ok (.goto (-29), 3) := by decide +kernel
theorem dX7_save_149 : decode cX7_save 149 = .ok (.aload_n 0, 1) := by decide +kernel
theorem dX7_save_150 : decode cX7_save 150 = .ok (.dup, 1) := by decide +kernel
theorem dX7_save_151 : decode cX7_save 151 = .ok (.getfield 53, 3) := by decide +kernel
theorem dX7_save_154 : decode cX7_save 154 = .ok (.iconst 1, 1) := by decide +kernel
theorem dX7_save_155 : decode cX7_save 155 = .ok (.iadd, 1) := by decide +kernel
theorem dX7_save_156 : decode cX7_save 156 = .ok (.putfield 53, 3) := by decide +kernel
theorem dX7_save_159 : decode cX7_save 159 = .ok (.return_, 1) := by decide +kernel
def tX7_save_0 : Tb := [(0, .inl (f_aload 0, 1)), (1, .inl (f_get 7 5, 4)), (4, .inl (f_ci (4), 5)), (5, .inr (.inl (b_icmp_eq, 8, 79))), (8, .inl (f_ci (0), 9)), (9, .inl (f_istore 2 1, 10)), (10, .inl (f_iload 1, 11)), (11, .inl (f_ci (510), 14)), (14, .inr (.inl (b_icmp_ge, 39, 17))), (17, .inl (f_aload 0, 18)), (18, .inl (f_get 7 3, 21)), (21, .inl (f_iload 1, 22)), (22, .inl (f_aload 0, 23)), (23, .inl (f_get 7 3, 26)), (26, .inl (f_iload 1, 27)), (27, .inl (f_ci (170), 30)), (30, .inl (f_iadd, 31)), (31, .inr (.inr (.inl (0, 32, 0, m0)))), (32, .inr (.inr (.inl (4, 33, 0, m0)))), (33, .inl (f_iinc 2 1 (1), 36)), (36, .inl (f_id, 10)), (39, .inl (f_ci (0), 40)), (40, .inl (f_istore 2 1, 41)), (41, .inl (f_iload 1, 42)), (42, .inl (f_ci (228), 45)), (45, .inr (.inl (b_icmp_ge, 69, 48))), (48, .inl (f_aload 0, 49)), (49, .inl (f_get 7 4, 52)), (52, .inl (f_iload 1, 53)), (53, .inl (f_aload 0, 54))]
set_option maxRecDepth 10000 in
theorem kX7_save_0 {X : Ctx} (h : sCx X mX7_save) : tab X mX7_save tX7_save_0 :=
  tab_cons (eS (st_aloadn h rfl dX7_save_0)) (
  tab_cons (eS (st_get h (ci := 7) (k := 5) rfl giX7 (by decide) rfl gw_297 dX7_save_1)) (
  tab_cons (eS (st_iconst h (by decide +kernel) dX7_save_4)) (
  tab_cons (eB (sb_icmp_ne h dX7_save_5 (by decide))) (
  tab_cons (eS (st_iconst h (by decide +kernel) dX7_save_8)) (
  tab_cons (eS (st_istoren h rfl dX7_save_9)) (
  tab_cons (eS (st_iloadn h rfl dX7_save_10)) (
  tab_cons (eS (st_sipush h (by decide +kernel) dX7_save_11)) (
  tab_cons (eB (sb_icmp_ge h dX7_save_14 (by decide))) (
  tab_cons (eS (st_aloadn h rfl dX7_save_17)) (
  tab_cons (eS (st_get h (ci := 7) (k := 3) rfl giX7 (by decide) rfl gw_298 dX7_save_18)) (
  tab_cons (eS (st_iloadn h rfl dX7_save_21)) (
  tab_cons (eS (st_aloadn h rfl dX7_save_22)) (
  tab_cons (eS (st_get h (ci := 7) (k := 3) rfl giX7 (by decide) rfl gw_298 dX7_save_23)) (
  tab_cons (eS (st_iloadn h rfl dX7_save_26)) (
  tab_cons (eS (st_sipush h (by decide +kernel) dX7_save_27)) (
  tab_cons (eS (st_iadd h dX7_save_30)) (
  tab_cons (eO (so_iaload h dX7_save_31)) (
  tab_cons (eO (so_iastore h dX7_save_32)) (
  tab_cons (eS (st_iinc h (by decide +kernel) dX7_save_33)) (
  tab_cons (eS (st_goto h dX7_save_36 (by decide))) (
  tab_cons (eS (st_iconst h (by decide +kernel) dX7_save_39)) (
  tab_cons (eS (st_istoren h rfl dX7_save_40)) (
  tab_cons (eS (st_iloadn h rfl dX7_save_41)) (
  tab_cons (eS (st_sipush h (by decide +kernel) dX7_save_42)) (
  tab_cons (eB (sb_icmp_ge h dX7_save_45 (by decide))) (
  tab_cons (eS (st_aloadn h rfl dX7_save_48)) (
  tab_cons (eS (st_get h (ci := 7) (k := 4) rfl giX7 (by decide) rfl gw_299 dX7_save_49)) (
  tab_cons (eS (st_iloadn h rfl dX7_save_52)) (
  tab_cons (eS (st_aloadn h rfl dX7_save_53)) (
  tab_nil))))))))))))))))))))))))))))))
def tX7_save_1 : Tb := [(54, .inl (f_get 7 4, 57)), (57, .inl (f_iload 1, 58)), (58, .inl (f_ci (76), 60)), (60, .inl (f_iadd, 61)), (61, .inr (.inr (.inl (1, 62, 0, m0)))), (62, .inr (.inr (.inl (5, 63, 0, m0)))), (63, .inl (f_iinc 2 1 (1), 66)), (66, .inl (f_id, 41)), (69, .inl (f_aload 0, 70)), (70, .inl (f_dup, 71)), (71, .inl (f_get 7 5, 74)), (74, .inl (f_ci (1), 75)), (75, .inl (f_isub, 76)), (76, .inl (f_putI 7 5, 79)), (79, .inl (f_ci (0), 80)), (80, .inl (f_istore 2 1, 81)), (81, .inl (f_iload 1, 82)), (82, .inl (f_ci (170), 85)), (85, .inr (.inl (b_icmp_ge, 115, 88))), (88, .inl (f_aload 0, 89)), (89, .inl (f_get 7 3, 92)), (92, .inl (f_ci (170), 95)), (95, .inl (f_aload 0, 96)), (96, .inl (f_get 7 5, 99)), (99, .inl (f_imul, 100)), (100, .inl (f_iload 1, 101)), (101, .inl (f_iadd, 102)), (102, .inl (f_aload 0, 103)), (103, .inl (f_get 7 1, 106)), (106, .inl (f_iload 1, 107))]
set_option maxRecDepth 10000 in
theorem kX7_save_1 {X : Ctx} (h : sCx X mX7_save) : tab X mX7_save tX7_save_1 :=
  tab_cons (eS (st_get h (ci := 7) (k := 4) rfl giX7 (by decide) rfl gw_299 dX7_save_54)) (
  tab_cons (eS (st_iloadn h rfl dX7_save_57)) (
  tab_cons (eS (st_bipush h (by decide +kernel) dX7_save_58)) (
  tab_cons (eS (st_iadd h dX7_save_60)) (
  tab_cons (eO (so_daload h dX7_save_61)) (
  tab_cons (eO (so_dastore h dX7_save_62)) (
  tab_cons (eS (st_iinc h (by decide +kernel) dX7_save_63)) (
  tab_cons (eS (st_goto h dX7_save_66 (by decide))) (
  tab_cons (eS (st_aloadn h rfl dX7_save_69)) (
  tab_cons (eS (st_dup h dX7_save_70)) (
  tab_cons (eS (st_get h (ci := 7) (k := 5) rfl giX7 (by decide) rfl gw_297 dX7_save_71)) (
  tab_cons (eS (st_iconst h (by decide +kernel) dX7_save_74)) (
  tab_cons (eS (st_isub h dX7_save_75)) (
  tab_cons (eS (st_putI h (ci := 7) (k := 5) tyX7 tyX7_ok nmX7 rfl giX7 (by decide) rfl rfl (by decide +kernel) gw_297 dX7_save_76)) (
  tab_cons (eS (st_iconst h (by decide +kernel) dX7_save_79)) (
  tab_cons (eS (st_istoren h rfl dX7_save_80)) (
  tab_cons (eS (st_iloadn h rfl dX7_save_81)) (
  tab_cons (eS (st_sipush h (by decide +kernel) dX7_save_82)) (
  tab_cons (eB (sb_icmp_ge h dX7_save_85 (by decide))) (
  tab_cons (eS (st_aloadn h rfl dX7_save_88)) (
  tab_cons (eS (st_get h (ci := 7) (k := 3) rfl giX7 (by decide) rfl gw_298 dX7_save_89)) (
  tab_cons (eS (st_sipush h (by decide +kernel) dX7_save_92)) (
  tab_cons (eS (st_aloadn h rfl dX7_save_95)) (
  tab_cons (eS (st_get h (ci := 7) (k := 5) rfl giX7 (by decide) rfl gw_297 dX7_save_96)) (
  tab_cons (eS (st_imul h dX7_save_99)) (
  tab_cons (eS (st_iloadn h rfl dX7_save_100)) (
  tab_cons (eS (st_iadd h dX7_save_101)) (
  tab_cons (eS (st_aloadn h rfl dX7_save_102)) (
  tab_cons (eS (st_get h (ci := 7) (k := 1) rfl giX7 (by decide) rfl gw_292 dX7_save_103)) (
  tab_cons (eS (st_iloadn h rfl dX7_save_106)) (
  tab_nil))))))))))))))))))))))))))))))
def tX7_save_2 : Tb := [(107, .inr (.inr (.inl (0, 108, 0, m0)))), (108, .inr (.inr (.inl (4, 109, 0, m0)))), (109, .inl (f_iinc 2 1 (1), 112)), (112, .inl (f_id, 81)), (115, .inl (f_ci (0), 116)), (116, .inl (f_istore 2 1, 117)), (117, .inl (f_iload 1, 118)), (118, .inl (f_ci (76), 120)), (120, .inr (.inl (b_icmp_ge, 149, 123))), (123, .inl (f_aload 0, 124)), (124, .inl (f_get 7 4, 127)), (127, .inl (f_ci (76), 129)), (129, .inl (f_aload 0, 130)), (130, .inl (f_get 7 5, 133)), (133, .inl (f_imul, 134)), (134, .inl (f_iload 1, 135)), (135, .inl (f_iadd, 136)), (136, .inl (f_aload 0, 137)), (137, .inl (f_get 7 2, 140)), (140, .inl (f_iload 1, 141)), (141, .inr (.inr (.inl (1, 142, 0, m0)))), (142, .inr (.inr (.inl (5, 143, 0, m0)))), (143, .inl (f_iinc 2 1 (1), 146)), (146, .inl (f_id, 117)), (149, .inl (f_aload 0, 150)), (150, .inl (f_dup, 151)), (151, .inl (f_get 7 5, 154)), (154, .inl (f_ci (1), 155)), (155, .inl (f_iadd, 156)), (156, .inl (f_putI 7 5, 159))]
set_option maxRecDepth 10000 in
theorem kX7_save_2 {X : Ctx} (h : sCx X mX7_save) : tab X mX7_save tX7_save_2 :=
  tab_cons (eO (so_iaload h dX7_save_107)) (
  tab_cons (eO (so_iastore h dX7_save_108)) (
  tab_cons (eS (st_iinc h (by decide +kernel) dX7_save_109)) (
  tab_cons (eS (st_goto h dX7_save_112 (by decide))) (
  tab_cons (eS (st_iconst h (by decide +kernel) dX7_save_115)) (
  tab_cons (eS (st_istoren h rfl dX7_save_116)) (
  tab_cons (eS (st_iloadn h rfl dX7_save_117)) (
  tab_cons (eS (st_bipush h (by decide +kernel) dX7_save_118)) (
  tab_cons (eB (sb_icmp_ge h dX7_save_120 (by decide))) (
  tab_cons (eS (st_aloadn h rfl dX7_save_123)) (
  tab_cons (eS (st_get h (ci := 7) (k := 4) rfl giX7 (by decide) rfl gw_299 dX7_save_124)) (
  tab_cons (eS (st_bipush h (by decide +kernel) dX7_save_127)) (
  tab_cons (eS (st_aloadn h rfl dX7_save_129)) (
  tab_cons (eS (st_get h (ci := 7) (k := 5) rfl giX7 (by decide) rfl gw_297 dX7_save_130)) (
  tab_cons (eS (st_imul h dX7_save_133)) (
  tab_cons (eS (st_iloadn h rfl dX7_save_134)) (
  tab_cons (eS (st_iadd h dX7_save_135)) (
  tab_cons (eS (st_aloadn h rfl dX7_save_136)) (
  tab_cons (eS (st_get h (ci := 7) (k := 2) rfl giX7 (by decide) rfl gw_300 dX7_save_137)) (
  tab_cons (eS (st_iloadn h rfl dX7_save_140)) (
  tab_cons (eO (so_daload h dX7_save_141)) (
  tab_cons (eO (so_dastore h dX7_save_142)) (
  tab_cons (eS (st_iinc h (by decide +kernel) dX7_save_143)) (
  tab_cons (eS (st_goto h dX7_save_146 (by decide))) (
  tab_cons (eS (st_aloadn h rfl dX7_save_149)) (
  tab_cons (eS (st_dup h dX7_save_150)) (
  tab_cons (eS (st_get h (ci := 7) (k := 5) rfl giX7 (by decide) rfl gw_297 dX7_save_151)) (
  tab_cons (eS (st_iconst h (by decide +kernel) dX7_save_154)) (
  tab_cons (eS (st_iadd h dX7_save_155)) (
  tab_cons (eS (st_putI h (ci := 7) (k := 5) tyX7 tyX7_ok nmX7 rfl giX7 (by decide) rfl rfl (by decide +kernel) gw_297 dX7_save_156)) (
  tab_nil))))))))))))))))))))))))))))))
def tX7_save_3 : Tb := [(159, .inr (.inr (.inl (18, 160, 0, m0))))]
set_option maxRecDepth 10000 in
theorem kX7_save_3 {X : Ctx} (h : sCx X mX7_save) : tab X mX7_save tX7_save_3 :=
  tab_cons (eO (so_return h dX7_save_159)) (
  tab_nil)
def tX7_save : Tb := tX7_save_0 ++ (tX7_save_1 ++ (tX7_save_2 ++ (tX7_save_3)))
theorem kX7_save {X : Ctx} (h : sCx X mX7_save) : tab X mX7_save tX7_save := tab_app (kX7_save_0 h) (tab_app (kX7_save_1 h) (tab_app (kX7_save_2 h) (kX7_save_3 h)))
theorem dX7_change_0 : decode cX7_change 0 = .ok (.aload_n 0, 1) := by decide +kernel
theorem dX7_change_1 : decode cX7_change 1 = .ok (.invokevirtual 56, 3) := by decide +kernel
theorem dX7_change_4 : decode cX7_change 4 = .ok (.aload_n 0, 1) := by decide +kernel
theorem dX7_change_5 : decode cX7_change 5 = .ok (.getfield 7, 3) := by decide +kernel
theorem dX7_change_8 : decode cX7_change 8 = .ok (.iload_n 1, 1) := by decide +kernel
theorem dX7_change_9 : decode cX7_change 9 = .ok (.iaload, 1) := by decide +kernel
theorem dX7_change_10 : decode cX7_change 10 = .ok (.istore_n 3, 1) := by decide +kernel
theorem dX7_change_11 : decode cX7_change 11 = .ok (.aload_n 0, 1) := by decide +kernel
theorem dX7_change_12 : decode cX7_change 12 = .ok (.getfield 7, 3) := by decide +kernel
theorem dX7_change_15 : decode cX7_change 15 = .ok (.iload_n 1, 1) := by decide +kernel
theorem dX7_change_16 : decode cX7_change 16 = .ok (.iload_n 2, 1) := by decide +kernel
theorem dX7_change_17 : decode cX7_change 17 = .ok (.iastore, 1) := by decide +kernel
theorem dX7_change_18 : decode cX7_change 18 = .ok (.iload_n 3, 1) := by decide +kernel
theorem dX7_change_19 : decode cX7_change 19 = .ok (.ireturn, 1) := by decide +kernel
def tX7_change_0 : Tb := [(0, .inl (f_aload 0, 1)), (1, .inr (.inr (.inl (13, 4, 1, mX7_save)))), (4, .inl (f_aload 0, 5)), (5, .inl (f_get 7 1, 8)), (8, .inl (f_iload 1, 9)), (9, .inr (.inr (.inl (0, 10, 0, m0)))), (10, .inl (f_istore 4 3, 11)), (11, .inl (f_aload 0, 12)), (12, .inl (f_get 7 1, 15)), (15, .inl (f_iload 1, 16)), (16, .inl (f_iload 2, 17)), (17, .inr (.inr (.inl (4, 18, 0, m0)))), (18, .inl (f_iload 3, 19)), (19, .inr (.inr (.inl (15, 20, 0, m0))))]
set_option maxRecDepth 10000 in
theorem kX7_change_0 {X : Ctx} (h : sCx X mX7_change) : tab X mX7_change tX7_change_0 :=
  tab_cons (eS (st_aloadn h rfl dX7_change_0)) (
  tab_cons (eO (so_callV h gw_301 gw_302 gw_303 gw_295 gw_304 ⟨by decide +kernel, by decide +kernel, by decide +kernel, by decide +kernel⟩ ⟨by decide +kernel, by decide +kernel⟩ dX7_change_1)) (
  tab_cons (eS (st_aloadn h rfl dX7_change_4)) (
  tab_cons (eS (st_get h (ci := 7) (k := 1) rfl giX7 (by decide) rfl gw_292 dX7_change_5)) (
  tab_cons (eS (st_iloadn h rfl dX7_change_8)) (
  tab_cons (eO (so_iaload h dX7_change_9)) (
  tab_cons (eS (st_istoren h rfl dX7_change_10)) (
  tab_cons (eS (st_aloadn h rfl dX7_change_11)) (
  tab_cons (eS (st_get h (ci := 7) (k := 1) rfl giX7 (by decide) rfl gw_292 dX7_change_12)) (
  tab_cons (eS (st_iloadn h rfl dX7_change_15)) (
  tab_cons (eS (st_iloadn h rfl dX7_change_16)) (
  tab_cons (eO (so_iastore h dX7_change_17)) (
  tab_cons (eS (st_iloadn h rfl dX7_change_18)) (
  tab_cons (eO (so_ireturn h dX7_change_19)) (
  tab_nil))))))))))))))
def tX7_change : Tb := tX7_change_0
theorem kX7_change {X : Ctx} (h : sCx X mX7_change) : tab X mX7_change tX7_change := kX7_change_0 h
theorem dX7_setSource_0 : decode cX7_setSource 0 = .ok (.aload_n 0, 1) := by decide +kernel
theorem dX7_setSource_1 : decode cX7_setSource 1 = .ok (.dload_n 1, 1) := by decide +kernel
theorem dX7_setSource_2 : decode cX7_setSource 2 = .ok (.ldc2_w 59, 3) := by decide +kernel
theorem dX7_setSource_5 : decode cX7_setSource 5 = .ok (.ldc2_w 61, 3) := by decide +kernel
theorem dX7_setSource_8 : decode cX7_setSource 8 = .ok (.invokestatic 63, 3) := by decide +kernel
theorem dX7_setSource_11 : decode cX7_setSource 11 = .ok (.ifCond .eq 20, 3) := by decide +kernel
theorem dX7_setSource_14 : decode cX7_setSource 14 = .ok (.dload_n 3, 1) := by decide +kernel
theorem dX7_setSource_15 : decode cX7_setSource 15 = .ok (.ldc2_w 67, 3) := by decide +kernel
theorem dX7_setSource_18 : decode cX7_setSource 18 = .ok (.ldc2_w 69, 3) := by decide +kernel
theorem dX7_setSource_21 : decode cX7_setSource 21 = .ok (.invokestatic 63, 3) := by decide +kernel
theorem dX7_setSource_24 : decode cX7_setSource 24 = .ok (.ifCond .eq 7, 3) := by decide +kernel
theorem dX7_setSource_27 : decode cX7_setSource 27 = .ok (.iconst 0, 1) := by decide +kernel
theorem dX7_setSource_28 : decode cX7_setSource 28 = .ok (.goto 4, 3) := by decide +kernel
theorem dX7_setSource_31 : decode cX7_setSource 31 = .ok (.iconst 1, 1) := by decide +kernel
theorem dX7_setSource_32 : decode cX7_setSource 32 = .ok (.putfield 45, 3) := by decide +kernel
theorem dX7_setSource_35 : decode cX7_setSource 35 = .ok (.aload_n 0, 1) := by decide +kernel
theorem dX7_setSource_36 : decode cX7_setSource 36 = .ok (.getfield 45, 3) := by decide +kernel
theorem dX7_setSource_39 : decode cX7_setSource 39 = .ok (.ifCond .le 5, 3) := by decide +kernel
theorem dX7_setSource_42 : decode cX7_setSource 42 = .ok (.dconst 0, 1) := by decide +kernel
theorem dX7_setSource_43 : decode cX7_setSource 43 = .ok (.dreturn, 1) := by decide +kernel
theorem dX7_setSource_44 : decode cX7_setSource 44 = .ok (.aload_n 0, 1) := by decide +kernel
theorem dX7_setSource_45 : decode cX7_setSource 45 = .ok (.invokevirtual 56, 3) := by decide +kernel
theorem dX7_setSource_48 : decode cX7_setSource 48 = .ok (.aload_n 0, 1) := by decide +kernel
theorem dX7_setSource_49 : decode cX7_setSource 49 = .ok (.getfield 13, 3) := by decide +kernel
theorem dX7_setSource_52 : decode cX7_setSource 52 = .ok (.iconst 1, 1) := by decide +kernel
theorem dX7_setSource_53 : decode cX7_setSource 53 = .ok (.daload, 1) := by decide +kernel
theorem dX7_setSource_54 : decode cX7_setSource 54 = .ok (.dstore 5, 2) := by decide +kernel
theorem dX7_setSource_56 : decode cX7_setSource 56 = .ok (.aload_n 0, 1) := by decide +kernel
theorem dX7_setSource_57 : decode cX7_setSource 57 = .ok (.getfield 13, 3) := by decide +kernel
theorem dX7_setSource_60 : decode cX7_setSource 60 = .ok (.iconst 0, 1) := by decide +kernel
theorem dX7_setSource_61 : decode cX7_setSource 61 = .ok (.dload_n 1, 1) := by decide +kernel
theorem dX7_setSource_62 : decode cX7_setSource 62 = .ok (.dastore, 1) := by decide +kernel
theorem dX7_setSource_63 : decode cX7_setSource 63 = .ok (.aload_n 0, 1) := by decide +kernel
theorem dX7_setSource_64 : decode cX7_setSource 64 = .ok (.getfield 13, 3) := by decide +kernel
theorem dX7_setSource_67 : decode cX7_setSource 67 = .ok (.iconst 1, 1) := by decide +kernel
theorem dX7_setSource_68 : decode cX7_setSource 68 = .ok (.dload_n 3, 1) := by decide +kernel
theorem dX7_setSource_69 : decode cX7_setSource 69 = .ok (.dastore, 1) := by decide +kernel
theorem dX7_setSource_70 : decode cX7_setSource 70 = .ok (.dload 5, 2) := by decide +kernel
theorem dX7_setSource_72 : decode cX7_setSource 72 = .ok (.dreturn, 1) := by decide +kernel
def tX7_setSource_0 : Tb := [(0, .inl (f_aload 0, 1)), (1, .inl (f_dload 1, 2)), (2, .inl (f_cd 4636737291354636288, 5)), (5, .inl (f_cd 4696837146684686336, 8)), (8, .inr (.inr (.inl (14, 11, 3, mX7_inReal)))), (11, .inr (.inl (b_if_eq, 31, 14))), (14, .inl (f_dload 3, 15)), (15, .inl (f_cd 4576918229304087675, 18)), (18, .inl (f_cd 4652007308841189376, 21)), (21, .inr (.inr (.inl (14, 24, 3, mX7_inReal)))), (24, .inr (.inl (b_if_eq, 31, 27))), (27, .inl (f_ci (0), 28)), (28, .inl (f_id, 32)), (31, .inl (f_ci (1), 32)), (32, .inl (f_putI 7 0, 35)), (35, .inl (f_aload 0, 36)), (36, .inl (f_get 7 0, 39)), (39, .inr (.inl (b_if_le, 44, 42))), (42, .inl (f_cd 0, 43)), (43, .inr (.inr (.inl (16, 44, 0, m0)))), (44, .inl (f_aload 0, 45)), (45, .inr (.inr (.inl (13, 48, 1, mX7_save)))), (48, .inl (f_aload 0, 49)), (49, .inl (f_get 7 2, 52)), (52, .inl (f_ci (1), 53)), (53, .inr (.inr (.inl (1, 54, 0, m0)))), (54, .inl (f_dstore 7 5, 56)), (56, .inl (f_aload 0, 57)), (57, .inl (f_get 7 2, 60)), (60, .inl (f_ci (0), 61))]
set_option maxRecDepth 10000 in
theorem kX7_setSource_0 {X : Ctx} (h : sCx X mX7_setSource) : tab X mX7_setSource tX7_setSource_0 :=
  tab_cons (eS (st_aloadn h rfl dX7_setSource_0)) (
  tab_cons (eS (st_dloadn h rfl dX7_setSource_1)) (
  tab_cons (eS (st_ldc2d h gw_305 dX7_setSource_2)) (
  tab_cons (eS (st_ldc2d h gw_306 dX7_setSource_5)) (
  tab_cons (eO (so_callS h gw_307 gw_308 gw_295 gw_309 ⟨by decide +kernel, by decide +kernel, by decide +kernel⟩ ⟨by decide +kernel, by decide +kernel⟩ dX7_setSource_8)) (
  tab_cons (eB (sb_if_eq h dX7_setSource_11 (by decide))) (
  tab_cons (eS (st_dloadn h rfl dX7_setSource_14)) (
  tab_cons (eS (st_ldc2d h gw_310 dX7_setSource_15)) (
  tab_cons (eS (st_ldc2d h gw_311 dX7_setSource_18)) (
  tab_cons (eO (so_callS h gw_307 gw_308 gw_295 gw_309 ⟨by decide +kernel, by decide +kernel, by decide +kernel⟩ ⟨by decide +kernel, by decide +kernel⟩ dX7_setSource_21)) (
  tab_cons (eB (sb_if_eq h dX7_setSource_24 (by decide))) (
  tab_cons (eS (st_iconst h (by decide +kernel) dX7_setSource_27)) (
  tab_cons (eS (st_goto h dX7_setSource_28 (by decide))) (
  tab_cons (eS (st_iconst h (by decide +kernel) dX7_setSource_31)) (
  tab_cons (eS (st_putI h (ci := 7) (k := 0) tyX7 tyX7_ok nmX7 rfl giX7 (by decide) rfl rfl (by decide +kernel) gw_291 dX7_setSource_32)) (
  tab_cons (eS (st_aloadn h rfl dX7_setSource_35)) (
  tab_cons (eS (st_get h (ci := 7) (k := 0) rfl giX7 (by decide) rfl gw_291 dX7_setSource_36)) (
  tab_cons (eB (sb_if_le h dX7_setSource_39 (by decide))) (
  tab_cons (eS (st_dconst0 h rfl dX7_setSource_42)) (
  tab_cons (eO (so_dreturn h dX7_setSource_43)) (
  tab_cons (eS (st_aloadn h rfl dX7_setSource_44)) (
  tab_cons (eO (so_callV h gw_301 gw_302 gw_303 gw_295 gw_304 ⟨by decide +kernel, by decide +kernel, by decide +kernel, by decide +kernel⟩ ⟨by decide +kernel, by decide +kernel⟩ dX7_setSource_45)) (
  tab_cons (eS (st_aloadn h rfl dX7_setSource_48)) (
  tab_cons (eS (st_get h (ci := 7) (k := 2) rfl giX7 (by decide) rfl gw_300 dX7_setSource_49)) (
  tab_cons (eS (st_iconst h (by decide +kernel) dX7_setSource_52)) (
  tab_cons (eO (so_daload h dX7_setSource_53)) (
  tab_cons (eS (st_dstore h dX7_setSource_54)) (
  tab_cons (eS (st_aloadn h rfl dX7_setSource_56)) (
  tab_cons (eS (st_get h (ci := 7) (k := 2) rfl giX7 (by decide) rfl gw_300 dX7_setSource_57)) (
  tab_cons (eS (st_iconst h (by decide +kernel) dX7_setSource_60)) (
  tab_nil))))))))))))))))))))))))))))))
def tX7_setSource_1 : Tb := [(61, .inl (f_dload 1, 62)), (62, .inr (.inr (.inl (5, 63, 0, m0)))), (63, .inl (f_aload 0, 64)), (64, .inl (f_get 7 2, 67)), (67, .inl (f_ci (1), 68)), (68, .inl (f_dload 3, 69)), (69, .inr (.inr (.inl (5, 70, 0, m0)))), (70, .inl (f_dload 5, 72)), (72, .inr (.inr (.inl (16, 73, 0, m0))))]
set_option maxRecDepth 10000 in
theorem kX7_setSource_1 {X : Ctx} (h : sCx X mX7_setSource) : tab X mX7_setSource tX7_setSource_1 :=
  tab_cons (eS (st_dloadn h rfl dX7_setSource_61)) (
  tab_cons (eO (so_dastore h dX7_setSource_62)) (
  tab_cons (eS (st_aloadn h rfl dX7_setSource_63)) (
  tab_cons (eS (st_get h (ci := 7) (k := 2) rfl giX7 (by decide) rfl gw_300 dX7_setSource_64)) (
  tab_cons (eS (st_iconst h (by decide +kernel) dX7_setSource_67)) (
  tab_cons (eS (st_dloadn h rfl dX7_setSource_68)) (
  tab_cons (eO (so_dastore h dX7_setSource_69)) (
  tab_cons (eS (st_dload h dX7_setSource_70)) (
  tab_cons (eO (so_dreturn h dX7_setSource_72)) (
  tab_nil)))))))))
def tX7_setSource : Tb := tX7_setSource_0 ++ (tX7_setSource_1)
theorem kX7_setSource {X : Ctx} (h : sCx X mX7_setSource) : tab X mX7_setSource tX7_setSource := tab_app (kX7_setSource_0 h) (kX7_setSource_1 h)
theorem dX7_addLine_0 : decode cX7_addLine 0 = .ok (.aload_n 0, 1) := by decide +kernel
theorem dX7_addLine_1 : decode cX7_addLine 1 = .ok (.iload_n 1, 1) := by decide +kernel
theorem dX7_addLine_2 : decode cX7_addLine 2 = .ok (.iconst 0, 1) := by decide +kernel
theorem dX7_addLine_3 : decode cX7_addLine 3 = .ok (.aload_n 0, 1) := by decide +kernel
theorem dX7_addLine_4 : decode cX7_addLine 4 = .ok (.getfield 7, 3) := by decide +kernel
theorem dX7_addLine_7 : decode cX7_addLine 7 = .ok (.iconst 0, 1) := by decide +kernel
theorem dX7_addLine_8 : decode cX7_addLine 8 = .ok (.iaload, 1) := by decide +kernel
theorem dX7_addLine_9 : decode cX7_addLine 9 = .ok (.invokestatic 49, 3) := by decide +kernel
theorem dX7_addLine_12 : decode cX7_addLine 12 = .ok (.ifCond .eq 16, 3) := by decide +kernel
theorem dX7_addLine_15 : decode cX7_addLine 15 = .ok (.dload_n 2, 1) := by decide +kernel
theorem dX7_addLine_16 : decode cX7_addLine 16 = .ok (.ldc2_w 67, 3) := by decide +kernel
theorem dX7_addLine_19 : decode cX7_addLine 19 = .ok (.ldc2_w 69, 3) := by decide +kernel
theorem dX7_addLine_22 : decode cX7_addLine 22 = .ok (.invokestatic 63, 3) := by decide +kernel
theorem dX7_addLine_25 : decode cX7_addLine 25 = .ok (.ifCond .ne 7, 3) := by decide +kernel
theorem dX7_addLine_28 : decode cX7_addLine 28 = .ok (.iconst 1, 1) := by decide +kernel
theorem dX7_addLine_29 : decode cX7_addLine 29 = .ok (.goto 19, 3) := by decide +kernel
theorem dX7_addLine_32 : decode cX7_addLine 32 = .ok (.aload_n 0, 1) := by decide +kernel
theorem dX7_addLine_33 : decode cX7_addLine 33 = .ok (.getfield 7, 3) := by decide +kernel
theorem dX7_addLine_36 : decode cX7_addLine 36 = .ok (.iconst 0, 1) := by decide +kernel
theorem dX7_addLine_37 : decode cX7_addLine 37 = .ok (.iaload, 1) := by decide +kernel
theorem dX7_addLine_38 : decode cX7_addLine 38 = .ok (.bipush 12, 2) := by decide +kernel
theorem dX7_addLine_40 : decode cX7_addLine 40 = .ok (.if_icmp .ne 7, 3) := by decide +kernel
theorem dX7_addLine_43 : decode cX7_addLine 43 = .ok (.iconst 2, 1) := by decide +kernel
theorem dX7_addLine_44 : decode cX7_addLine 44 = .ok (.goto 4, 3) := by decide +kernel
theorem dX7_addLine_47 : decode cX7_addLine 47 = .ok (.iconst 0, 1) := by decide +kernel
theorem dX7_addLine_48 : decode cX7_addLine 48 = .ok (.putfield 45, 3) := by decide +kernel
theorem dX7_addLine_51 : decode cX7_addLine 51 = .ok (.aload_n 0, 1) := by decide +kernel
theorem dX7_addLine_52 : decode cX7_addLine 52 = .ok (.getfield 45, 3) := by decide +kernel
theorem dX7_addLine_55 : decode cX7_addLine 55 = .ok (.ifCond .le 5, 3) := by decide +kernel
theorem dX7_addLine_58 : decode cX7_addLine 58 = .ok (.iconst 0, 1) := by decide +kernel
theorem dX7_addLine_59 : decode cX7_addLine 59 = .ok (.ireturn, 1) := by decide +kernel
theorem dX7_addLine_60 : decode cX7_addLine 60 = .ok (.aload_n 0, 1) := by decide +kernel
theorem dX7_addLine_61 : decode cX7_addLine 61 = .ok (.invokevirtual 56, 3) := by decide +kernel
theorem dX7_addLine_64 : decode cX7_addLine 64 = .ok (.aload_n 0, 1) := by decide +kernel
theorem dX7_addLine_65 : decode cX7_addLine 65 = .ok (.getfield 7, 3) := by decide +kernel
theorem dX7_addLine_68 : decode cX7_addLine 68 = .ok (.iconst 0, 1) := by decide +kernel
theorem dX7_addLine_69 : decode cX7_addLine 69 = .ok (.iaload, 1) := by decide +kernel
theorem dX7_addLine_70 : decode cX7_addLine 70 = .ok (.istore 4, 2) := by decide +kernel
theorem dX7_addLine_72 : decode cX7_addLine 72 = .ok (.iconst 0, 1) := by decide +kernel
theorem dX7_addLine_73 : decode cX7_addLine 73 = .ok (.istore 5, 2) := by decide +kernel
theorem dX7_addLine_75 : decode cX7_addLine 75 = .ok (.iload 5, 2) := by decide +kernel
theorem dX7_addLine_77 : decode cX7_addLine 77 = .ok (.bipush 9, 2) := by decide +kernel
theorem dX7_addLine_79 : decode cX7_addLine 79 = .ok (.if_icmp .ge 22, 3) := by decide +kernel
theorem dX7_addLine_82 : decode cX7_addLine 82 = .ok (.aload_n 0, 1) := by decide +kernel
theorem dX7_addLine_83 : decode cX7_addLine 83 = .ok (.getfield 7, 3) := by decide +kernel
theorem dX7_addLine_86 : decode cX7_addLine 86 = .ok (.iload 4, 2) := by decide +kernel
theorem dX7_addLine_88 : decode cX7_addLine 88 = .ok (.iload 5, 2) := by decide +kernel
theorem dX7_addLine_90 : decode cX7_addLine 90 = .ok (.invokestatic 71, 3) := by decide +kernel
theorem dX7_addLine_93 : decode cX7_addLine 93 = .ok (.iconst 0, 1) := by decide +kernel
theorem dX7_addLine_94 : decode cX7_addLine 94 = .ok (.iastore, 1) := by decide +kernel
theorem dX7_addLine_95 : decode cX7_addLine 95 = .ok (.iinc 5 1, 3) := by decide +kernel
theorem dX7_addLine_98 : decode cX7_addLine 98 = .ok (.goto (-23), 3) := by decide +kernel
theorem dX7_addLine_101 : decode cX7_addLine 101 = .ok (.aload_n 0, 1) := by decide +kernel
theorem dX7_addLine_102 : decode cX7_addLine 102 = .ok (.getfield 7, 3) := by decide +kernel
theorem dX7_addLine_105 : decode cX7_addLine 105 = .ok (.iload 4, 2) := by decide +kernel
theorem dX7_addLine_107 : decode cX7_addLine 107 = .ok (.iconst 0, 1) := by decide +kernel
theorem dX7_addLine_108 : decode cX7_addLine 108 = .ok (.invokestatic 71, 3) := by decide +kernel
theorem dX7_addLine_111 : decode cX7_addLine 111 = .ok (.iload_n 1, 1) := by decide +kernel
theorem dX7_addLine_112 : decode cX7_addLine 112 = .ok (.iastore, 1) := by decide +kernel
theorem dX7_addLine_113 : decode cX7_addLine 113 = .ok (.aload_n 0, 1) := by decide +kernel
theorem dX7_addLine_114 : decode cX7_addLine 114 = .ok (.getfield 7, 3) := by decide +kernel
theorem dX7_addLine_117 : decode cX7_addLine 117 = .ok (.iload 4, 2) := by decide +kernel
theorem dX7_addLine_119 : decode cX7_addLine 119 = .ok (.iconst 2, 1) := by decide +kernel
theorem dX7_addLine_120 : decode cX7_addLine 120 = .ok (.invokestatic 71, 3) := by decide +kernel
theorem dX7_addLine_123 : decode cX7_addLine 123 = .ok (.bipush 100, 2) := by decide +kernel
theorem dX7_addLine_125 : decode cX7_addLine 125 = .ok (.iastore, 1) := by decide +kernel
theorem dX7_addLine_126 : decode cX7_addLine 126 = .ok (.aload_n 0, 1) := by decide +kernel
theorem dX7_addLine_127 : decode cX7_addLine 127 = .ok (.getfield 7, 3) := by decide +kernel
theorem dX7_addLine_130 : decode cX7_addLine 130 = .ok (.iload 4, 2) := by decide +kernel
theorem dX7_addLine_132 : decode cX7_addLine 132 = .ok (.iconst 4, 1) := by decide +kernel
theorem dX7_addLine_133 : decode cX7_addLine 133 = .ok (.invokestatic 71, 3) := by decide +kernel
theorem dX7_addLine_136 : decode cX7_addLine 136 = .ok (.iconst 1, 1) := by decide +kernel
theorem dX7_addLine_137 : decode cX7_addLine 137 = .ok (.iastore, 1) := by decide +kernel
theorem dX7_addLine_138 : decode cX7_addLine 138 = .ok (.aload_n 0, 1) := by decide +kernel
theorem dX7_addLine_139 : decode cX7_addLine 139 = .ok (.getfield 13, 3) := by decide +kernel
theorem dX7_addLine_142 : decode cX7_addLine 142 = .ok (.iconst 4, 1) := by decide +kernel
theorem dX7_addLine_143 : decode cX7_addLine 143 = .ok (.iload 4, 2) := by decide +kernel
theorem dX7_addLine_145 : decode cX7_addLine 145 = .ok (.iadd, 1) := by decide +kernel
theorem dX7_addLine_146 : decode cX7_addLine 146 = .ok (.dload_n 2, 1) := by decide +kernel
theorem dX7_addLine_147 : decode cX7_addLine 147 = .ok (.dastore, 1) := by decide +kernel
theorem dX7_addLine_148 : decode cX7_addLine 148 = .ok (.aload_n 0, 1) := by decide +kernel
theorem dX7_addLine_149 : decode cX7_addLine 149 = .ok (.getfield 7, 3) := by decide +kernel
theorem dX7_addLine_152 : decode cX7_addLine 152 = .ok (.iconst 0, 1) := by decide +kernel
theorem dX7_addLine_153 : decode cX7_addLine 153 = .ok (.dup2, 1) := by decide +kernel
theorem dX7_addLine_154 : decode cX7_addLine 154 = .ok (.iaload, 1) := by decide +kernel
theorem dX7_addLine_155 : decode cX7_addLine 155 = .ok (.iconst 1, 1) := by decide +kernel
theorem dX7_addLine_156 : decode cX7_addLine 156 = .ok (.iadd, 1) := by decide +kernel
theorem dX7_addLine_157 : decode cX7_addLine 157 = .ok (.iastore, 1) := by decide +kernel
theorem dX7_addLine_158 : decode cX7_addLine 158 = .ok (.iload 4, 2) := by decide +kernel
theorem dX7_addLine_160 : decode cX7_addLine 160 = .ok (.ireturn, 1) := by decide +kernel
def tX7_addLine_0 : Tb := [(0, .inl (f_aload 0, 1)), (1, .inl (f_iload 1, 2)), (2, .inl (f_ci (0), 3)), (3, .inl (f_aload 0, 4)), (4, .inl (f_get 7 1, 7)), (7, .inl (f_ci (0), 8)), (8, .inr (.inr (.inl (0, 9, 0, m0)))), (9, .inr (.inr (.inl (14, 12, 3, mX7_in)))), (12, .inr (.inl (b_if_eq, 28, 15))), (15, .inl (f_dload 2, 16)), (16, .inl (f_cd 4576918229304087675, 19)), (19, .inl (f_cd 4652007308841189376, 22)), (22, .inr (.inr (.inl (14, 25, 3, mX7_inReal)))), (25, .inr (.inl (b_if_eq, 28, 32))), (28, .inl (f_ci (1), 29)), (29, .inl (f_id, 48)), (32, .inl (f_aload 0, 33)), (33, .inl (f_get 7 1, 36)), (36, .inl (f_ci (0), 37)), (37, .inr (.inr (.inl (0, 38, 0, m0)))), (38, .inl (f_ci (12), 40)), (40, .inr (.inl (b_icmp_eq, 43, 47))), (43, .inl (f_ci (2), 44)), (44, .inl (f_id, 48)), (47, .inl (f_ci (0), 48)), (48, .inl (f_putI 7 0, 51)), (51, .inl (f_aload 0, 52)), (52, .inl (f_get 7 0, 55)), (55, .inr (.inl (b_if_le, 60, 58))), (58, .inl (f_ci (0), 59))]
set_option maxRecDepth 10000 in
theorem kX7_addLine_0 {X : Ctx} (h : sCx X mX7_addLine) : tab X mX7_addLine tX7_addLine_0 :=
  tab_cons (eS (st_aloadn h rfl dX7_addLine_0)) (
  tab_cons (eS (st_iloadn h rfl dX7_addLine_1)) (
  tab_cons (eS (st_iconst h (by decide +kernel) dX7_addLine_2)) (
  tab_cons (eS (st_aloadn h rfl dX7_addLine_3)) (
  tab_cons (eS (st_get h (ci := 7) (k := 1) rfl giX7 (by decide) rfl gw_292 dX7_addLine_4)) (
  tab_cons (eS (st_iconst h (by decide +kernel) dX7_addLine_7)) (
  tab_cons (eO (so_iaload h dX7_addLine_8)) (
  tab_cons (eO (so_callS h gw_293 gw_294 gw_295 gw_296 ⟨by decide +kernel, by decide +kernel, by decide +kernel⟩ ⟨by decide +kernel, by decide +kernel⟩ dX7_addLine_9)) (
  tab_cons (eB (sb_if_eq h dX7_addLine_12 (by decide))) (
  tab_cons (eS (st_dloadn h rfl dX7_addLine_15)) (
  tab_cons (eS (st_ldc2d h gw_310 dX7_addLine_16)) (
  tab_cons (eS (st_ldc2d h gw_311 dX7_addLine_19)) (
  tab_cons (eO (so_callS h gw_307 gw_308 gw_295 gw_309 ⟨by decide +kernel, by decide +kernel, by decide +kernel⟩ ⟨by decide +kernel, by decide +kernel⟩ dX7_addLine_22)) (
  tab_cons (eB (sb_if_ne h dX7_addLine_25 (by decide))) (
  tab_cons (eS (st_iconst h (by decide +kernel) dX7_addLine_28)) (
  tab_cons (eS (st_goto h dX7_addLine_29 (by decide))) (
  tab_cons (eS (st_aloadn h rfl dX7_addLine_32)) (
  tab_cons (eS (st_get h (ci := 7) (k := 1) rfl giX7 (by decide) rfl gw_292 dX7_addLine_33)) (
  tab_cons (eS (st_iconst h (by decide +kernel) dX7_addLine_36)) (
  tab_cons (eO (so_iaload h dX7_addLine_37)) (
  tab_cons (eS (st_bipush h (by decide +kernel) dX7_addLine_38)) (
  tab_cons (eB (sb_icmp_ne h dX7_addLine_40 (by decide))) (
  tab_cons (eS (st_iconst h (by decide +kernel) dX7_addLine_43)) (
  tab_cons (eS (st_goto h dX7_addLine_44 (by decide))) (
  tab_cons (eS (st_iconst h (by decide +kernel) dX7_addLine_47)) (
  tab_cons (eS (st_putI h (ci := 7) (k := 0) tyX7 tyX7_ok nmX7 rfl giX7 (by decide) rfl rfl (by decide +kernel) gw_291 dX7_addLine_48)) (
  tab_cons (eS (st_aloadn h rfl dX7_addLine_51)) (
  tab_cons (eS (st_get h (ci := 7) (k := 0) rfl giX7 (by decide) rfl gw_291 dX7_addLine_52)) (
  tab_cons (eB (sb_if_le h dX7_addLine_55 (by decide))) (
  tab_cons (eS (st_iconst h (by decide +kernel) dX7_addLine_58)) (
  tab_nil))))))))))))))))))))))))))))))
def tX7_addLine_1 : Tb := [(59, .inr (.inr (.inl (15, 60, 0, m0)))), (60, .inl (f_aload 0, 61)), (61, .inr (.inr (.inl (13, 64, 1, mX7_save)))), (64, .inl (f_aload 0, 65)), (65, .inl (f_get 7 1, 68)), (68, .inl (f_ci (0), 69)), (69, .inr (.inr (.inl (0, 70, 0, m0)))), (70, .inl (f_istore 6 4, 72)), (72, .inl (f_ci (0), 73)), (73, .inl (f_istore 6 5, 75)), (75, .inl (f_iload 5, 77)), (77, .inl (f_ci (9), 79)), (79, .inr (.inl (b_icmp_ge, 101, 82))), (82, .inl (f_aload 0, 83)), (83, .inl (f_get 7 1, 86)), (86, .inl (f_iload 4, 88)), (88, .inl (f_iload 5, 90)), (90, .inr (.inr (.inl (14, 93, 2, mX7_at)))), (93, .inl (f_ci (0), 94)), (94, .inr (.inr (.inl (4, 95, 0, m0)))), (95, .inl (f_iinc 6 5 (1), 98)), (98, .inl (f_id, 75)), (101, .inl (f_aload 0, 102)), (102, .inl (f_get 7 1, 105)), (105, .inl (f_iload 4, 107)), (107, .inl (f_ci (0), 108)), (108, .inr (.inr (.inl (14, 111, 2, mX7_at)))), (111, .inl (f_iload 1, 112)), (112, .inr (.inr (.inl (4, 113, 0, m0)))), (113, .inl (f_aload 0, 114))]
set_option maxRecDepth 10000 in
theorem kX7_addLine_1 {X : Ctx} (h : sCx X mX7_addLine) : tab X mX7_addLine tX7_addLine_1 :=
  tab_cons (eO (so_ireturn h dX7_addLine_59)) (
  tab_cons (eS (st_aloadn h rfl dX7_addLine_60)) (
  tab_cons (eO (so_callV h gw_301 gw_302 gw_303 gw_295 gw_304 ⟨by decide +kernel, by decide +kernel, by decide +kernel, by decide +kernel⟩ ⟨by decide +kernel, by decide +kernel⟩ dX7_addLine_61)) (
  tab_cons (eS (st_aloadn h rfl dX7_addLine_64)) (
  tab_cons (eS (st_get h (ci := 7) (k := 1) rfl giX7 (by decide) rfl gw_292 dX7_addLine_65)) (
  tab_cons (eS (st_iconst h (by decide +kernel) dX7_addLine_68)) (
  tab_cons (eO (so_iaload h dX7_addLine_69)) (
  tab_cons (eS (st_istore h dX7_addLine_70)) (
  tab_cons (eS (st_iconst h (by decide +kernel) dX7_addLine_72)) (
  tab_cons (eS (st_istore h dX7_addLine_73)) (
  tab_cons (eS (st_iload h dX7_addLine_75)) (
  tab_cons (eS (st_bipush h (by decide +kernel) dX7_addLine_77)) (
  tab_cons (eB (sb_icmp_ge h dX7_addLine_79 (by decide))) (
  tab_cons (eS (st_aloadn h rfl dX7_addLine_82)) (
  tab_cons (eS (st_get h (ci := 7) (k := 1) rfl giX7 (by decide) rfl gw_292 dX7_addLine_83)) (
  tab_cons (eS (st_iload h dX7_addLine_86)) (
  tab_cons (eS (st_iload h dX7_addLine_88)) (
  tab_cons (eO (so_callS h gw_312 gw_313 gw_295 gw_314 ⟨by decide +kernel, by decide +kernel, by decide +kernel⟩ ⟨by decide +kernel, by decide +kernel⟩ dX7_addLine_90)) (
  tab_cons (eS (st_iconst h (by decide +kernel) dX7_addLine_93)) (
  tab_cons (eO (so_iastore h dX7_addLine_94)) (
  tab_cons (eS (st_iinc h (by decide +kernel) dX7_addLine_95)) (
  tab_cons (eS (st_goto h dX7_addLine_98 (by decide))) (
  tab_cons (eS (st_aloadn h rfl dX7_addLine_101)) (
  tab_cons (eS (st_get h (ci := 7) (k := 1) rfl giX7 (by decide) rfl gw_292 dX7_addLine_102)) (
  tab_cons (eS (st_iload h dX7_addLine_105)) (
  tab_cons (eS (st_iconst h (by decide +kernel) dX7_addLine_107)) (
  tab_cons (eO (so_callS h gw_312 gw_313 gw_295 gw_314 ⟨by decide +kernel, by decide +kernel, by decide +kernel⟩ ⟨by decide +kernel, by decide +kernel⟩ dX7_addLine_108)) (
  tab_cons (eS (st_iloadn h rfl dX7_addLine_111)) (
  tab_cons (eO (so_iastore h dX7_addLine_112)) (
  tab_cons (eS (st_aloadn h rfl dX7_addLine_113)) (
  tab_nil))))))))))))))))))))))))))))))
def tX7_addLine_2 : Tb := [(114, .inl (f_get 7 1, 117)), (117, .inl (f_iload 4, 119)), (119, .inl (f_ci (2), 120)), (120, .inr (.inr (.inl (14, 123, 2, mX7_at)))), (123, .inl (f_ci (100), 125)), (125, .inr (.inr (.inl (4, 126, 0, m0)))), (126, .inl (f_aload 0, 127)), (127, .inl (f_get 7 1, 130)), (130, .inl (f_iload 4, 132)), (132, .inl (f_ci (4), 133)), (133, .inr (.inr (.inl (14, 136, 2, mX7_at)))), (136, .inl (f_ci (1), 137)), (137, .inr (.inr (.inl (4, 138, 0, m0)))), (138, .inl (f_aload 0, 139)), (139, .inl (f_get 7 2, 142)), (142, .inl (f_ci (4), 143)), (143, .inl (f_iload 4, 145)), (145, .inl (f_iadd, 146)), (146, .inl (f_dload 2, 147)), (147, .inr (.inr (.inl (5, 148, 0, m0)))), (148, .inl (f_aload 0, 149)), (149, .inl (f_get 7 1, 152)), (152, .inl (f_ci (0), 153)), (153, .inl (f_dup2, 154)), (154, .inr (.inr (.inl (0, 155, 0, m0)))), (155, .inl (f_ci (1), 156)), (156, .inl (f_iadd, 157)), (157, .inr (.inr (.inl (4, 158, 0, m0)))), (158, .inl (f_iload 4, 160)), (160, .inr (.inr (.inl (15, 161, 0, m0))))]
set_option maxRecDepth 10000 in
theorem kX7_addLine_2 {X : Ctx} (h : sCx X mX7_addLine) : tab X mX7_addLine tX7_addLine_2 :=
  tab_cons (eS (st_get h (ci := 7) (k := 1) rfl giX7 (by decide) rfl gw_292 dX7_addLine_114)) (
  tab_cons (eS (st_iload h dX7_addLine_117)) (
  tab_cons (eS (st_iconst h (by decide +kernel) dX7_addLine_119)) (
  tab_cons (eO (so_callS h gw_312 gw_313 gw_295 gw_314 ⟨by decide +kernel, by decide +kernel, by decide +kernel⟩ ⟨by decide +kernel, by decide +kernel⟩ dX7_addLine_120)) (
  tab_cons (eS (st_bipush h (by decide +kernel) dX7_addLine_123)) (
  tab_cons (eO (so_iastore h dX7_addLine_125)) (
  tab_cons (eS (st_aloadn h rfl dX7_addLine_126)) (
  tab_cons (eS (st_get h (ci := 7) (k := 1) rfl giX7 (by decide) rfl gw_292 dX7_addLine_127)) (
  tab_cons (eS (st_iload h dX7_addLine_130)) (
  tab_cons (eS (st_iconst h (by decide +kernel) dX7_addLine_132)) (
  tab_cons (eO (so_callS h gw_312 gw_313 gw_295 gw_314 ⟨by decide +kernel, by decide +kernel, by decide +kernel⟩ ⟨by decide +kernel, by decide +kernel⟩ dX7_addLine_133)) (
  tab_cons (eS (st_iconst h (by decide +kernel) dX7_addLine_136)) (
  tab_cons (eO (so_iastore h dX7_addLine_137)) (
  tab_cons (eS (st_aloadn h rfl dX7_addLine_138)) (
  tab_cons (eS (st_get h (ci := 7) (k := 2) rfl giX7 (by decide) rfl gw_300 dX7_addLine_139)) (
  tab_cons (eS (st_iconst h (by decide +kernel) dX7_addLine_142)) (
  tab_cons (eS (st_iload h dX7_addLine_143)) (
  tab_cons (eS (st_iadd h dX7_addLine_145)) (
  tab_cons (eS (st_dloadn h rfl dX7_addLine_146)) (
  tab_cons (eO (so_dastore h dX7_addLine_147)) (
  tab_cons (eS (st_aloadn h rfl dX7_addLine_148)) (
  tab_cons (eS (st_get h (ci := 7) (k := 1) rfl giX7 (by decide) rfl gw_292 dX7_addLine_149)) (
  tab_cons (eS (st_iconst h (by decide +kernel) dX7_addLine_152)) (
  tab_cons (eS (st_dup2 h dX7_addLine_153)) (
  tab_cons (eO (so_iaload h dX7_addLine_154)) (
  tab_cons (eS (st_iconst h (by decide +kernel) dX7_addLine_155)) (
  tab_cons (eS (st_iadd h dX7_addLine_156)) (
  tab_cons (eO (so_iastore h dX7_addLine_157)) (
  tab_cons (eS (st_iload h dX7_addLine_158)) (
  tab_cons (eO (so_ireturn h dX7_addLine_160)) (
  tab_nil))))))))))))))))))))))))))))))
def tX7_addLine : Tb := tX7_addLine_0 ++ (tX7_addLine_1 ++ (tX7_addLine_2))
theorem kX7_addLine {X : Ctx} (h : sCx X mX7_addLine) : tab X mX7_addLine tX7_addLine := tab_app (kX7_addLine_0 h) (tab_app (kX7_addLine_1 h) (kX7_addLine_2 h))
theorem dX7_setLoad_0 : decode cX7_setLoad 0 = .ok (.aload_n 0, 1) := by decide +kernel
theorem dX7_setLoad_1 : decode cX7_setLoad 1 = .ok (.iload_n 1, 1) := by decide +kernel
theorem dX7_setLoad_2 : decode cX7_setLoad 2 = .ok (.iconst 1, 1) := by decide +kernel
theorem dX7_setLoad_3 : decode cX7_setLoad 3 = .ok (.aload_n 0, 1) := by decide +kernel
theorem dX7_setLoad_4 : decode cX7_setLoad 4 = .ok (.getfield 7, 3) := by decide +kernel
theorem dX7_setLoad_7 : decode cX7_setLoad 7 = .ok (.iconst 0, 1) := by decide +kernel
theorem dX7_setLoad_8 : decode cX7_setLoad 8 = .ok (.iaload, 1) := by decide +kernel
theorem dX7_setLoad_9 : decode cX7_setLoad 9 = .ok (.invokestatic 49, 3) := by decide +kernel
theorem dX7_setLoad_12 : decode cX7_setLoad 12 = .ok (.ifCond .eq 18, 3) := by decide +kernel
theorem dX7_setLoad_15 : decode cX7_setLoad 15 = .ok (.iload_n 2, 1) := by decide +kernel
theorem dX7_setLoad_16 : decode cX7_setLoad 16 = .ok (.iconst 0, 1) := by decide +kernel
theorem dX7_setLoad_17 : decode cX7_setLoad 17 = .ok (.sipush 5000, 3) := by decide +kernel
theorem dX7_setLoad_20 : decode cX7_setLoad 20 = .ok (.invokestatic 49, 3) := by decide +kernel
theorem dX7_setLoad_23 : decode cX7_setLoad 23 = .ok (.ifCond .eq 7, 3) := by decide +kernel
theorem dX7_setLoad_26 : decode cX7_setLoad 26 = .ok (.iconst 0, 1) := by decide +kernel
theorem dX7_setLoad_27 : decode cX7_setLoad 27 = .ok (.goto 4, 3) := by decide +kernel
theorem dX7_setLoad_30 : decode cX7_setLoad 30 = .ok (.iconst 1, 1) := by decide +kernel
theorem dX7_setLoad_31 : decode cX7_setLoad 31 = .ok (.putfield 45, 3) := by decide +kernel
theorem dX7_setLoad_34 : decode cX7_setLoad 34 = .ok (.aload_n 0, 1) := by decide +kernel
theorem dX7_setLoad_35 : decode cX7_setLoad 35 = .ok (.getfield 45, 3) := by decide +kernel
theorem dX7_setLoad_38 : decode cX7_setLoad 38 = .ok (.ifCond .le 7, 3) := by decide +kernel
theorem dX7_setLoad_41 : decode cX7_setLoad 41 = .ok (.iconst 0, 1) := by decide +kernel
theorem dX7_setLoad_42 : decode cX7_setLoad 42 = .ok (.goto 15, 3) := by decide +kernel
theorem dX7_setLoad_45 : decode cX7_setLoad 45 = .ok (.aload_n 0, 1) := by decide +kernel
theorem dX7_setLoad_46 : decode cX7_setLoad 46 = .ok (.iload_n 1, 1) := by decide +kernel
theorem dX7_setLoad_47 : decode cX7_setLoad 47 = .ok (.iconst 1, 1) := by decide +kernel
theorem dX7_setLoad_48 : decode cX7_setLoad 48 = .ok (.isub, 1) := by decide +kernel
theorem dX7_setLoad_49 : decode cX7_setLoad 49 = .ok (.iconst 1, 1) := by decide +kernel
theorem dX7_setLoad_50 : decode cX7_setLoad 50 = .ok (.invokestatic 71, 3) := by decide +kernel
theorem dX7_setLoad_53 : decode cX7_setLoad 53 = .ok (.iload_n 2, 1) := by decide +kernel
theorem dX7_setLoad_54 : decode cX7_setLoad 54 = .ok (.invokevirtual 75, 3) := by decide +kernel
theorem dX7_setLoad_57 : decode cX7_setLoad 57 = .ok (.ireturn, 1) := by decide +kernel
def tX7_setLoad_0 : Tb := [(0, .inl (f_aload 0, 1)), (1, .inl (f_iload 1, 2)), (2, .inl (f_ci (1), 3)), (3, .inl (f_aload 0, 4)), (4, .inl (f_get 7 1, 7)), (7, .inl (f_ci (0), 8)), (8, .inr (.inr (.inl (0, 9, 0, m0)))), (9, .inr (.inr (.inl (14, 12, 3, mX7_in)))), (12, .inr (.inl (b_if_eq, 30, 15))), (15, .inl (f_iload 2, 16)), (16, .inl (f_ci (0), 17)), (17, .inl (f_ci (5000), 20)), (20, .inr (.inr (.inl (14, 23, 3, mX7_in)))), (23, .inr (.inl (b_if_eq, 30, 26))), (26, .inl (f_ci (0), 27)), (27, .inl (f_id, 31)), (30, .inl (f_ci (1), 31)), (31, .inl (f_putI 7 0, 34)), (34, .inl (f_aload 0, 35)), (35, .inl (f_get 7 0, 38)), (38, .inr (.inl (b_if_le, 45, 41))), (41, .inl (f_ci (0), 42)), (42, .inl (f_id, 57)), (45, .inl (f_aload 0, 46)), (46, .inl (f_iload 1, 47)), (47, .inl (f_ci (1), 48)), (48, .inl (f_isub, 49)), (49, .inl (f_ci (1), 50)), (50, .inr (.inr (.inl (14, 53, 2, mX7_at)))), (53, .inl (f_iload 2, 54))]
set_option maxRecDepth 10000 in
theorem kX7_setLoad_0 {X : Ctx} (h : sCx X mX7_setLoad) : tab X mX7_setLoad tX7_setLoad_0 :=
  tab_cons (eS (st_aloadn h rfl dX7_setLoad_0)) (
  tab_cons (eS (st_iloadn h rfl dX7_setLoad_1)) (
  tab_cons (eS (st_iconst h (by decide +kernel) dX7_setLoad_2)) (
  tab_cons (eS (st_aloadn h rfl dX7_setLoad_3)) (
  tab_cons (eS (st_get h (ci := 7) (k := 1) rfl giX7 (by decide) rfl gw_292 dX7_setLoad_4)) (
  tab_cons (eS (st_iconst h (by decide +kernel) dX7_setLoad_7)) (
  tab_cons (eO (so_iaload h dX7_setLoad_8)) (
  tab_cons (eO (so_callS h gw_293 gw_294 gw_295 gw_296 ⟨by decide +kernel, by decide +kernel, by decide +kernel⟩ ⟨by decide +kernel, by decide +kernel⟩ dX7_setLoad_9)) (
  tab_cons (eB (sb_if_eq h dX7_setLoad_12 (by decide))) (
  tab_cons (eS (st_iloadn h rfl dX7_setLoad_15)) (
  tab_cons (eS (st_iconst h (by decide +kernel) dX7_setLoad_16)) (
  tab_cons (eS (st_sipush h (by decide +kernel) dX7_setLoad_17)) (
  tab_cons (eO (so_callS h gw_293 gw_294 gw_295 gw_296 ⟨by decide +kernel, by decide +kernel, by decide +kernel⟩ ⟨by decide +kernel, by decide +kernel⟩ dX7_setLoad_20)) (
  tab_cons (eB (sb_if_eq h dX7_setLoad_23 (by decide))) (
  tab_cons (eS (st_iconst h (by decide +kernel) dX7_setLoad_26)) (
  tab_cons (eS (st_goto h dX7_setLoad_27 (by decide))) (
  tab_cons (eS (st_iconst h (by decide +kernel) dX7_setLoad_30)) (
  tab_cons (eS (st_putI h (ci := 7) (k := 0) tyX7 tyX7_ok nmX7 rfl giX7 (by decide) rfl rfl (by decide +kernel) gw_291 dX7_setLoad_31)) (
  tab_cons (eS (st_aloadn h rfl dX7_setLoad_34)) (
  tab_cons (eS (st_get h (ci := 7) (k := 0) rfl giX7 (by decide) rfl gw_291 dX7_setLoad_35)) (
  tab_cons (eB (sb_if_le h dX7_setLoad_38 (by decide))) (
  tab_cons (eS (st_iconst h (by decide +kernel) dX7_setLoad_41)) (
  tab_cons (eS (st_goto h dX7_setLoad_42 (by decide))) (
  tab_cons (eS (st_aloadn h rfl dX7_setLoad_45)) (
  tab_cons (eS (st_iloadn h rfl dX7_setLoad_46)) (
  tab_cons (eS (st_iconst h (by decide +kernel) dX7_setLoad_47)) (
  tab_cons (eS (st_isub h dX7_setLoad_48)) (
  tab_cons (eS (st_iconst h (by decide +kernel) dX7_setLoad_49)) (
  tab_cons (eO (so_callS h gw_312 gw_313 gw_295 gw_314 ⟨by decide +kernel, by decide +kernel, by decide +kernel⟩ ⟨by decide +kernel, by decide +kernel⟩ dX7_setLoad_50)) (
  tab_cons (eS (st_iloadn h rfl dX7_setLoad_53)) (
  tab_nil))))))))))))))))))))))))))))))
def tX7_setLoad_1 : Tb := [(54, .inr (.inr (.inl (13, 57, 3, mX7_change)))), (57, .inr (.inr (.inl (15, 58, 0, m0))))]
set_option maxRecDepth 10000 in
theorem kX7_setLoad_1 {X : Ctx} (h : sCx X mX7_setLoad) : tab X mX7_setLoad tX7_setLoad_1 :=
  tab_cons (eO (so_callV h gw_315 gw_316 gw_317 gw_295 gw_318 ⟨by decide +kernel, by decide +kernel, by decide +kernel, by decide +kernel⟩ ⟨by decide +kernel, by decide +kernel⟩ dX7_setLoad_54)) (
  tab_cons (eO (so_ireturn h dX7_setLoad_57)) (
  tab_nil))
def tX7_setLoad : Tb := tX7_setLoad_0 ++ (tX7_setLoad_1)
theorem kX7_setLoad {X : Ctx} (h : sCx X mX7_setLoad) : tab X mX7_setLoad tX7_setLoad := tab_app (kX7_setLoad_0 h) (kX7_setLoad_1 h)
theorem dX7_above_0 : decode cX7_above 0 = .ok (.aload_n 0, 1) := by decide +kernel
theorem dX7_above_1 : decode cX7_above 1 = .ok (.getfield 7, 3) := by decide +kernel
theorem dX7_above_4 : decode cX7_above 4 = .ok (.iload_n 1, 1) := by decide +kernel
theorem dX7_above_5 : decode cX7_above 5 = .ok (.iconst 0, 1) := by decide +kernel
theorem dX7_above_6 : decode cX7_above 6 = .ok (.invokestatic 71, 3) := by decide +kernel
theorem dX7_above_9 : decode cX7_above 9 = .ok (.iaload, 1) := by decide +kernel
theorem dX7_above_10 : decode cX7_above 10 = .ok (.iconst 1, 1) := by decide +kernel
theorem dX7_above_11 : decode cX7_above 11 = .ok (.isub, 1) := by decide +kernel
theorem dX7_above_12 : decode cX7_above 12 = .ok (.ireturn, 1) := by decide +kernel
def tX7_above_0 : Tb := [(0, .inl (f_aload 0, 1)), (1, .inl (f_get 7 1, 4)), (4, .inl (f_iload 1, 5)), (5, .inl (f_ci (0), 6)), (6, .inr (.inr (.inl (14, 9, 2, mX7_at)))), (9, .inr (.inr (.inl (0, 10, 0, m0)))), (10, .inl (f_ci (1), 11)), (11, .inl (f_isub, 12)), (12, .inr (.inr (.inl (15, 13, 0, m0))))]
set_option maxRecDepth 10000 in
theorem kX7_above_0 {X : Ctx} (h : sCx X mX7_above) : tab X mX7_above tX7_above_0 :=
  tab_cons (eS (st_aloadn h rfl dX7_above_0)) (
  tab_cons (eS (st_get h (ci := 7) (k := 1) rfl giX7 (by decide) rfl gw_292 dX7_above_1)) (
  tab_cons (eS (st_iloadn h rfl dX7_above_4)) (
  tab_cons (eS (st_iconst h (by decide +kernel) dX7_above_5)) (
  tab_cons (eO (so_callS h gw_312 gw_313 gw_295 gw_314 ⟨by decide +kernel, by decide +kernel, by decide +kernel⟩ ⟨by decide +kernel, by decide +kernel⟩ dX7_above_6)) (
  tab_cons (eO (so_iaload h dX7_above_9)) (
  tab_cons (eS (st_iconst h (by decide +kernel) dX7_above_10)) (
  tab_cons (eS (st_isub h dX7_above_11)) (
  tab_cons (eO (so_ireturn h dX7_above_12)) (
  tab_nil)))))))))
def tX7_above : Tb := tX7_above_0
theorem kX7_above {X : Ctx} (h : sCx X mX7_above) : tab X mX7_above tX7_above := kX7_above_0 h
theorem dX7_isOver_0 : decode cX7_isOver 0 = .ok (.iload_n 2, 1) := by decide +kernel
theorem dX7_isOver_1 : decode cX7_isOver 1 = .ok (.iconst 1, 1) := by decide +kernel
theorem dX7_isOver_2 : decode cX7_isOver 2 = .ok (.isub, 1) := by decide +kernel
theorem dX7_isOver_3 : decode cX7_isOver 3 = .ok (.istore_n 3, 1) := by decide +kernel
theorem dX7_isOver_4 : decode cX7_isOver 4 = .ok (.iload_n 3, 1) := by decide +kernel
theorem dX7_isOver_5 : decode cX7_isOver 5 = .ok (.ifCond .lt 17, 3) := by decide +kernel
theorem dX7_isOver_8 : decode cX7_isOver 8 = .ok (.iload_n 3, 1) := by decide +kernel
theorem dX7_isOver_9 : decode cX7_isOver 9 = .ok (.iload_n 1, 1) := by decide +kernel
theorem dX7_isOver_10 : decode cX7_isOver 10 = .ok (.if_icmp .eq 12, 3) := by decide +kernel
theorem dX7_isOver_13 : decode cX7_isOver 13 = .ok (.aload_n 0, 1) := by decide +kernel
theorem dX7_isOver_14 : decode cX7_isOver 14 = .ok (.iload_n 3, 1) := by decide +kernel
theorem dX7_isOver_15 : decode cX7_isOver 15 = .ok (.invokevirtual 78, 3) := by decide +kernel
theorem dX7_isOver_18 : decode cX7_isOver 18 = .ok (.istore_n 3, 1) := by decide +kernel
theorem dX7_isOver_19 : decode cX7_isOver 19 = .ok (.goto (-15), 3) := by decide +kernel
theorem dX7_isOver_22 : decode cX7_isOver 22 = .ok (.iload_n 3, 1) := by decide +kernel
theorem dX7_isOver_23 : decode cX7_isOver 23 = .ok (.iload_n 1, 1) := by decide +kernel
theorem dX7_isOver_24 : decode cX7_isOver 24 = .ok (.if_icmp .ne 7, 3) := by decide +kernel
theorem dX7_isOver_27 : decode cX7_isOver 27 = .ok (.iconst 1, 1) := by decide +kernel
theorem dX7_isOver_28 : decode cX7_isOver 28 = .ok (.goto 4, 3) := by decide +kernel
theorem dX7_isOver_31 : decode cX7_isOver 31 = .ok (.iconst 0, 1) := by decide +kernel
theorem dX7_isOver_32 : decode cX7_isOver 32 = .ok (.ireturn, 1) := by decide +kernel
def tX7_isOver_0 : Tb := [(0, .inl (f_iload 2, 1)), (1, .inl (f_ci (1), 2)), (2, .inl (f_isub, 3)), (3, .inl (f_istore 4 3, 4)), (4, .inl (f_iload 3, 5)), (5, .inr (.inl (b_if_lt, 22, 8))), (8, .inl (f_iload 3, 9)), (9, .inl (f_iload 1, 10)), (10, .inr (.inl (b_icmp_eq, 22, 13))), (13, .inl (f_aload 0, 14)), (14, .inl (f_iload 3, 15)), (15, .inr (.inr (.inl (13, 18, 2, mX7_above)))), (18, .inl (f_istore 4 3, 19)), (19, .inl (f_id, 4)), (22, .inl (f_iload 3, 23)), (23, .inl (f_iload 1, 24)), (24, .inr (.inl (b_icmp_eq, 27, 31))), (27, .inl (f_ci (1), 28)), (28, .inl (f_id, 32)), (31, .inl (f_ci (0), 32)), (32, .inr (.inr (.inl (15, 33, 0, m0))))]
set_option maxRecDepth 10000 in
theorem kX7_isOver_0 {X : Ctx} (h : sCx X mX7_isOver) : tab X mX7_isOver tX7_isOver_0 :=
  tab_cons (eS (st_iloadn h rfl dX7_isOver_0)) (
  tab_cons (eS (st_iconst h (by decide +kernel) dX7_isOver_1)) (
  tab_cons (eS (st_isub h dX7_isOver_2)) (
  tab_cons (eS (st_istoren h rfl dX7_isOver_3)) (
  tab_cons (eS (st_iloadn h rfl dX7_isOver_4)) (
  tab_cons (eB (sb_if_lt h dX7_isOver_5 (by decide))) (
  tab_cons (eS (st_iloadn h rfl dX7_isOver_8)) (
  tab_cons (eS (st_iloadn h rfl dX7_isOver_9)) (
  tab_cons (eB (sb_icmp_eq h dX7_isOver_10 (by decide))) (
  tab_cons (eS (st_aloadn h rfl dX7_isOver_13)) (
  tab_cons (eS (st_iloadn h rfl dX7_isOver_14)) (
  tab_cons (eO (so_callV h gw_319 gw_320 gw_321 gw_295 gw_322 ⟨by decide +kernel, by decide +kernel, by decide +kernel, by decide +kernel⟩ ⟨by decide +kernel, by decide +kernel⟩ dX7_isOver_15)) (
  tab_cons (eS (st_istoren h rfl dX7_isOver_18)) (
  tab_cons (eS (st_goto h dX7_isOver_19 (by decide))) (
  tab_cons (eS (st_iloadn h rfl dX7_isOver_22)) (
  tab_cons (eS (st_iloadn h rfl dX7_isOver_23)) (
  tab_cons (eB (sb_icmp_ne h dX7_isOver_24 (by decide))) (
  tab_cons (eS (st_iconst h (by decide +kernel) dX7_isOver_27)) (
  tab_cons (eS (st_goto h dX7_isOver_28 (by decide))) (
  tab_cons (eS (st_iconst h (by decide +kernel) dX7_isOver_31)) (
  tab_cons (eO (so_ireturn h dX7_isOver_32)) (
  tab_nil)))))))))))))))))))))
def tX7_isOver : Tb := tX7_isOver_0
theorem kX7_isOver {X : Ctx} (h : sCx X mX7_isOver) : tab X mX7_isOver tX7_isOver := kX7_isOver_0 h
theorem dX7_loadOver_0 : decode cX7_loadOver 0 = .ok (.iconst 0, 1) := by decide +kernel
theorem dX7_loadOver_1 : decode cX7_loadOver 1 = .ok (.istore_n 2, 1) := by decide +kernel
theorem dX7_loadOver_2 : decode cX7_loadOver 2 = .ok (.iconst 1, 1) := by decide +kernel
theorem dX7_loadOver_3 : decode cX7_loadOver 3 = .ok (.istore_n 3, 1) := by decide +kernel
theorem dX7_loadOver_4 : decode cX7_loadOver 4 = .ok (.iload_n 3, 1) := by decide +kernel
theorem dX7_loadOver_5 : decode cX7_loadOver 5 = .ok (.aload_n 0, 1) := by decide +kernel
theorem dX7_loadOver_6 : decode cX7_loadOver 6 = .ok (.getfield 7, 3) := by decide +kernel
theorem dX7_loadOver_9 : decode cX7_loadOver 9 = .ok (.iconst 0, 1) := by decide +kernel
theorem dX7_loadOver_10 : decode cX7_loadOver 10 = .ok (.iaload, 1) := by decide +kernel
theorem dX7_loadOver_11 : decode cX7_loadOver 11 = .ok (.if_icmp .gt 37, 3) := by decide +kernel
theorem dX7_loadOver_14 : decode cX7_loadOver 14 = .ok (.iload_n 2, 1) := by decide +kernel
theorem dX7_loadOver_15 : decode cX7_loadOver 15 = .ok (.aload_n 0, 1) := by decide +kernel
theorem dX7_loadOver_16 : decode cX7_loadOver 16 = .ok (.iload_n 1, 1) := by decide +kernel
theorem dX7_loadOver_17 : decode cX7_loadOver 17 = .ok (.iload_n 3, 1) := by decide +kernel
theorem dX7_loadOver_18 : decode cX7_loadOver 18 = .ok (.invokevirtual 82, 3) := by decide +kernel
theorem dX7_loadOver_21 : decode cX7_loadOver 21 = .ok (.ifCond .eq 18, 3) := by decide +kernel
theorem dX7_loadOver_24 : decode cX7_loadOver 24 = .ok (.aload_n 0, 1) := by decide +kernel
theorem dX7_loadOver_25 : decode cX7_loadOver 25 = .ok (.getfield 7, 3) := by decide +kernel
theorem dX7_loadOver_28 : decode cX7_loadOver 28 = .ok (.iload_n 3, 1) := by decide +kernel
theorem dX7_loadOver_29 : decode cX7_loadOver 29 = .ok (.iconst 1, 1) := by decide +kernel
theorem dX7_loadOver_30 : decode cX7_loadOver 30 = .ok (.isub, 1) := by decide +kernel
theorem dX7_loadOver_31 : decode cX7_loadOver 31 = .ok (.iconst 1, 1) := by decide +kernel
theorem dX7_loadOver_32 : decode cX7_loadOver 32 = .ok (.invokestatic 71, 3) := by decide +kernel
theorem dX7_loadOver_35 : decode cX7_loadOver 35 = .ok (.iaload, 1) := by decide +kernel
theorem dX7_loadOver_36 : decode cX7_loadOver 36 = .ok (.goto 4, 3) := by decide +kernel
theorem dX7_loadOver_39 : decode cX7_loadOver 39 = .ok (.iconst 0, 1) := by decide +kernel
theorem dX7_loadOver_40 : decode cX7_loadOver 40 = .ok (.iadd, 1) := by decide +kernel
theorem dX7_loadOver_41 : decode cX7_loadOver 41 = .ok (.istore_n 2, 1) := by decide +kernel
theorem dX7_loadOver_42 : decode cX7_loadOver 42 = .ok (.iinc 3 1, 3) := by decide +kernel
theorem dX7_loadOver_45 : decode cX7_loadOver 45 = .ok (.goto (-41), 3) := by decide +kernel
theorem dX7_loadOver_48 : decode cX7_loadOver 48 = .ok (.iload_n 2, 1) := by decide +kernel
theorem dX7_loadOver_49 : decode cX7_loadOver 49 = .ok (.ireturn, 1) := by decide +kernel
def tX7_loadOver_0 : Tb := [(0, .inl (f_ci (0), 1)), (1, .inl (f_istore 4 2, 2)), (2, .inl (f_ci (1), 3)), (3, .inl (f_istore 4 3, 4)), (4, .inl (f_iload 3, 5)), (5, .inl (f_aload 0, 6)), (6, .inl (f_get 7 1, 9)), (9, .inl (f_ci (0), 10)), (10, .inr (.inr (.inl (0, 11, 0, m0)))), (11, .inr (.inl (b_icmp_gt, 48, 14))), (14, .inl (f_iload 2, 15)), (15, .inl (f_aload 0, 16)), (16, .inl (f_iload 1, 17)), (17, .inl (f_iload 3, 18)), (18, .inr (.inr (.inl (13, 21, 3, mX7_isOver)))), (21, .inr (.inl (b_if_eq, 39, 24))), (24, .inl (f_aload 0, 25)), (25, .inl (f_get 7 1, 28)), (28, .inl (f_iload 3, 29)), (29, .inl (f_ci (1), 30)), (30, .inl (f_isub, 31)), (31, .inl (f_ci (1), 32)), (32, .inr (.inr (.inl (14, 35, 2, mX7_at)))), (35, .inr (.inr (.inl (0, 36, 0, m0)))), (36, .inl (f_id, 40)), (39, .inl (f_ci (0), 40)), (40, .inl (f_iadd, 41)), (41, .inl (f_istore 4 2, 42)), (42, .inl (f_iinc 4 3 (1), 45)), (45, .inl (f_id, 4))]
set_option maxRecDepth 10000 in
theorem kX7_loadOver_0 {X : Ctx} (h : sCx X mX7_loadOver) : tab X mX7_loadOver tX7_loadOver_0 :=
  tab_cons (eS (st_iconst h (by decide +kernel) dX7_loadOver_0)) (
  tab_cons (eS (st_istoren h rfl dX7_loadOver_1)) (
  tab_cons (eS (st_iconst h (by decide +kernel) dX7_loadOver_2)) (
  tab_cons (eS (st_istoren h rfl dX7_loadOver_3)) (
  tab_cons (eS (st_iloadn h rfl dX7_loadOver_4)) (
  tab_cons (eS (st_aloadn h rfl dX7_loadOver_5)) (
  tab_cons (eS (st_get h (ci := 7) (k := 1) rfl giX7 (by decide) rfl gw_292 dX7_loadOver_6)) (
  tab_cons (eS (st_iconst h (by decide +kernel) dX7_loadOver_9)) (
  tab_cons (eO (so_iaload h dX7_loadOver_10)) (
  tab_cons (eB (sb_icmp_gt h dX7_loadOver_11 (by decide))) (
  tab_cons (eS (st_iloadn h rfl dX7_loadOver_14)) (
  tab_cons (eS (st_aloadn h rfl dX7_loadOver_15)) (
  tab_cons (eS (st_iloadn h rfl dX7_loadOver_16)) (
  tab_cons (eS (st_iloadn h rfl dX7_loadOver_17)) (
  tab_cons (eO (so_callV h gw_323 gw_324 gw_325 gw_295 gw_326 ⟨by decide +kernel, by decide +kernel, by decide +kernel, by decide +kernel⟩ ⟨by decide +kernel, by decide +kernel⟩ dX7_loadOver_18)) (
  tab_cons (eB (sb_if_eq h dX7_loadOver_21 (by decide))) (
  tab_cons (eS (st_aloadn h rfl dX7_loadOver_24)) (
  tab_cons (eS (st_get h (ci := 7) (k := 1) rfl giX7 (by decide) rfl gw_292 dX7_loadOver_25)) (
  tab_cons (eS (st_iloadn h rfl dX7_loadOver_28)) (
  tab_cons (eS (st_iconst h (by decide +kernel) dX7_loadOver_29)) (
  tab_cons (eS (st_isub h dX7_loadOver_30)) (
  tab_cons (eS (st_iconst h (by decide +kernel) dX7_loadOver_31)) (
  tab_cons (eO (so_callS h gw_312 gw_313 gw_295 gw_314 ⟨by decide +kernel, by decide +kernel, by decide +kernel⟩ ⟨by decide +kernel, by decide +kernel⟩ dX7_loadOver_32)) (
  tab_cons (eO (so_iaload h dX7_loadOver_35)) (
  tab_cons (eS (st_goto h dX7_loadOver_36 (by decide))) (
  tab_cons (eS (st_iconst h (by decide +kernel) dX7_loadOver_39)) (
  tab_cons (eS (st_iadd h dX7_loadOver_40)) (
  tab_cons (eS (st_istoren h rfl dX7_loadOver_41)) (
  tab_cons (eS (st_iinc h (by decide +kernel) dX7_loadOver_42)) (
  tab_cons (eS (st_goto h dX7_loadOver_45 (by decide))) (
  tab_nil))))))))))))))))))))))))))))))
def tX7_loadOver_1 : Tb := [(48, .inl (f_iload 2, 49)), (49, .inr (.inr (.inl (15, 50, 0, m0))))]
set_option maxRecDepth 10000 in
theorem kX7_loadOver_1 {X : Ctx} (h : sCx X mX7_loadOver) : tab X mX7_loadOver tX7_loadOver_1 :=
  tab_cons (eS (st_iloadn h rfl dX7_loadOver_48)) (
  tab_cons (eO (so_ireturn h dX7_loadOver_49)) (
  tab_nil))
def tX7_loadOver : Tb := tX7_loadOver_0 ++ (tX7_loadOver_1)
theorem kX7_loadOver {X : Ctx} (h : sCx X mX7_loadOver) : tab X mX7_loadOver tX7_loadOver := tab_app (kX7_loadOver_0 h) (kX7_loadOver_1 h)
theorem dX7_loadCurrent_0 : decode cX7_loadCurrent 0 = .ok (.aload_n 0, 1) := by decide +kernel
theorem dX7_loadCurrent_1 : decode cX7_loadCurrent 1 = .ok (.aload_n 0, 1) := by decide +kernel
theorem dX7_loadCurrent_2 : decode cX7_loadCurrent 2 = .ok (.iload_n 1, 1) := by decide +kernel
theorem dX7_loadCurrent_3 : decode cX7_loadCurrent 3 = .ok (.invokevirtual 86, 3) := by decide +kernel
theorem dX7_loadCurrent_6 : decode cX7_loadCurrent 6 = .ok (.ifCond .eq 7, 3) := by decide +kernel
theorem dX7_loadCurrent_9 : decode cX7_loadCurrent 9 = .ok (.iconst 0, 1) := by decide +kernel
theorem dX7_loadCurrent_10 : decode cX7_loadCurrent 10 = .ok (.goto 4, 3) := by decide +kernel
theorem dX7_loadCurrent_13 : decode cX7_loadCurrent 13 = .ok (.iconst 1, 1) := by decide +kernel
theorem dX7_loadCurrent_14 : decode cX7_loadCurrent 14 = .ok (.putfield 45, 3) := by decide +kernel
theorem dX7_loadCurrent_17 : decode cX7_loadCurrent 17 = .ok (.aload_n 0, 1) := by decide +kernel
theorem dX7_loadCurrent_18 : decode cX7_loadCurrent 18 = .ok (.getfield 45, 3) := by decide +kernel
theorem dX7_loadCurrent_21 : decode cX7_loadCurrent 21 = .ok (.ifCond .le 7, 3) := by decide +kernel
theorem dX7_loadCurrent_24 : decode cX7_loadCurrent 24 = .ok (.iconst 0, 1) := by decide +kernel
theorem dX7_loadCurrent_25 : decode cX7_loadCurrent 25 = .ok (.goto 8, 3) := by decide +kernel
theorem dX7_loadCurrent_28 : decode cX7_loadCurrent 28 = .ok (.aload_n 0, 1) := by decide +kernel
theorem dX7_loadCurrent_29 : decode cX7_loadCurrent 29 = .ok (.iload_n 1, 1) := by decide +kernel
theorem dX7_loadCurrent_30 : decode cX7_loadCurrent 30 = .ok (.invokevirtual 90, 3) := by decide +kernel
theorem dX7_loadCurrent_33 : decode cX7_loadCurrent 33 = .ok (.ireturn, 1) := by decide +kernel
def tX7_loadCurrent_0 : Tb := [(0, .inl (f_aload 0, 1)), (1, .inl (f_aload 0, 2)), (2, .inl (f_iload 1, 3)), (3, .inr (.inr (.inl (13, 6, 2, mX7_isLine)))), (6, .inr (.inl (b_if_eq, 13, 9))), (9, .inl (f_ci (0), 10)), (10, .inl (f_id, 14)), (13, .inl (f_ci (1), 14)), (14, .inl (f_putI 7 0, 17)), (17, .inl (f_aload 0, 18)), (18, .inl (f_get 7 0, 21)), (21, .inr (.inl (b_if_le, 28, 24))), (24, .inl (f_ci (0), 25)), (25, .inl (f_id, 33)), (28, .inl (f_aload 0, 29)), (29, .inl (f_iload 1, 30)), (30, .inr (.inr (.inl (13, 33, 2, mX7_loadOver)))), (33, .inr (.inr (.inl (15, 34, 0, m0))))]
set_option maxRecDepth 10000 in
theorem kX7_loadCurrent_0 {X : Ctx} (h : sCx X mX7_loadCurrent) : tab X mX7_loadCurrent tX7_loadCurrent_0 :=
  tab_cons (eS (st_aloadn h rfl dX7_loadCurrent_0)) (
  tab_cons (eS (st_aloadn h rfl dX7_loadCurrent_1)) (
  tab_cons (eS (st_iloadn h rfl dX7_loadCurrent_2)) (
  tab_cons (eO (so_callV h gw_327 gw_328 gw_329 gw_295 gw_330 ⟨by decide +kernel, by decide +kernel, by decide +kernel, by decide +kernel⟩ ⟨by decide +kernel, by decide +kernel⟩ dX7_loadCurrent_3)) (
  tab_cons (eB (sb_if_eq h dX7_loadCurrent_6 (by decide))) (
  tab_cons (eS (st_iconst h (by decide +kernel) dX7_loadCurrent_9)) (
  tab_cons (eS (st_goto h dX7_loadCurrent_10 (by decide))) (
  tab_cons (eS (st_iconst h (by decide +kernel) dX7_loadCurrent_13)) (
  tab_cons (eS (st_putI h (ci := 7) (k := 0) tyX7 tyX7_ok nmX7 rfl giX7 (by decide) rfl rfl (by decide +kernel) gw_291 dX7_loadCurrent_14)) (
  tab_cons (eS (st_aloadn h rfl dX7_loadCurrent_17)) (
  tab_cons (eS (st_get h (ci := 7) (k := 0) rfl giX7 (by decide) rfl gw_291 dX7_loadCurrent_18)) (
  tab_cons (eB (sb_if_le h dX7_loadCurrent_21 (by decide))) (
  tab_cons (eS (st_iconst h (by decide +kernel) dX7_loadCurrent_24)) (
  tab_cons (eS (st_goto h dX7_loadCurrent_25 (by decide))) (
  tab_cons (eS (st_aloadn h rfl dX7_loadCurrent_28)) (
  tab_cons (eS (st_iloadn h rfl dX7_loadCurrent_29)) (
  tab_cons (eO (so_callV h gw_331 gw_332 gw_333 gw_295 gw_334 ⟨by decide +kernel, by decide +kernel, by decide +kernel, by decide +kernel⟩ ⟨by decide +kernel, by decide +kernel⟩ dX7_loadCurrent_30)) (
  tab_cons (eO (so_ireturn h dX7_loadCurrent_33)) (
  tab_nil))))))))))))))))))
def tX7_loadCurrent : Tb := tX7_loadCurrent_0
theorem kX7_loadCurrent {X : Ctx} (h : sCx X mX7_loadCurrent) : tab X mX7_loadCurrent tX7_loadCurrent := kX7_loadCurrent_0 h
theorem dX7_findPath_0 : decode cX7_findPath 0 = .ok (.aload_n 0, 1) := by decide +kernel
theorem dX7_findPath_1 : decode cX7_findPath 1 = .ok (.iconst 0, 1) := by decide +kernel
theorem dX7_findPath_2 : decode cX7_findPath 2 = .ok (.putfield 93, 3) := by decide +kernel
theorem dX7_findPath_5 : decode cX7_findPath 5 = .ok (.iload_n 1, 1) := by decide +kernel
theorem dX7_findPath_6 : decode cX7_findPath 6 = .ok (.istore_n 2, 1) := by decide +kernel
theorem dX7_findPath_7 : decode cX7_findPath 7 = .ok (.iload_n 2, 1) := by decide +kernel
theorem dX7_findPath_8 : decode cX7_findPath 8 = .ok (.ifCond .lt 22, 3) := by decide +kernel
theorem dX7_findPath_11 : decode cX7_findPath 11 = .ok (.aload_n 0, 1) := by decide +kernel
theorem dX7_findPath_12 : decode cX7_findPath 12 = .ok (.dup, 1) := by decide +kernel
theorem dX7_findPath_13 : decode cX7_findPath 13 = .ok (.getfield 93, 3) := by decide +kernel
theorem dX7_findPath_16 : decode cX7_findPath 16 = .ok (.iconst 1, 1) := by decide +kernel
theorem dX7_findPath_17 : decode cX7_findPath 17 = .ok (.iadd, 1) := by decide +kernel
theorem dX7_findPath_18 : decode cX7_findPath 18 = .ok (.putfield 93, 3) := by decide +kernel
theorem dX7_findPath_21 : decode cX7_findPath 21 = .ok (.aload_n 0, 1) := by decide +kernel
theorem dX7_findPath_22 : decode cX7_findPath 22 = .ok (.iload_n 2, 1) := by decide +kernel
theorem dX7_findPath_23 : decode cX7_findPath 23 = .ok (.invokevirtual 78, 3) := by decide +kernel
theorem dX7_findPath_26 : decode cX7_findPath 26 = .ok (.istore_n 2, 1) := by decide +kernel
theorem dX7_findPath_27 : decode cX7_findPath 27 = .ok (.goto (-20), 3) := by decide +kernel
theorem dX7_findPath_30 : decode cX7_findPath 30 = .ok (.aload_n 0, 1) := by decide +kernel
theorem dX7_findPath_31 : decode cX7_findPath 31 = .ok (.getfield 93, 3) := by decide +kernel
theorem dX7_findPath_34 : decode cX7_findPath 34 = .ok (.istore_n 2, 1) := by decide +kernel
theorem dX7_findPath_35 : decode cX7_findPath 35 = .ok (.iload_n 1, 1) := by decide +kernel
theorem dX7_findPath_36 : decode cX7_findPath 36 = .ok (.istore_n 3, 1) := by decide +kernel
theorem dX7_findPath_37 : decode cX7_findPath 37 = .ok (.iload_n 3, 1) := by decide +kernel
theorem dX7_findPath_38 : decode cX7_findPath 38 = .ok (.ifCond .lt 22, 3) := by decide +kernel
theorem dX7_findPath_41 : decode cX7_findPath 41 = .ok (.iinc 2 (-1), 3) := by decide +kernel
theorem dX7_findPath_44 : decode cX7_findPath 44 = .ok (.aload_n 0, 1) := by decide +kernel
theorem dX7_findPath_45 : decode cX7_findPath 45 = .ok (.getfield 23, 3) := by decide +kernel
theorem dX7_findPath_48 : decode cX7_findPath 48 = .ok (.iload_n 2, 1) := by decide +kernel
theorem dX7_findPath_49 : decode cX7_findPath 49 = .ok (.iload_n 3, 1) := by decide +kernel
theorem dX7_findPath_50 : decode cX7_findPath 50 = .ok (.iastore, 1) := by decide +kernel
theorem dX7_findPath_51 : decode cX7_findPath 51 = .ok (.aload_n 0, 1) := by decide +kernel
theorem dX7_findPath_52 : decode cX7_findPath 52 = .ok (.iload_n 3, 1) := by decide +kernel
theorem dX7_findPath_53 : decode cX7_findPath 53 = .ok (.invokevirtual 78, 3) := by decide +kernel
theorem dX7_findPath_56 : decode cX7_findPath 56 = .ok (.istore_n 3, 1) := by decide +kernel
theorem dX7_findPath_57 : decode cX7_findPath 57 = .ok (.goto (-20), 3) := by decide +kernel
theorem dX7_findPath_60 : decode cX7_findPath 60 = .ok (.return_, 1) := by decide +kernel
def tX7_findPath_0 : Tb := [(0, .inl (f_aload 0, 1)), (1, .inl (f_ci (0), 2)), (2, .inl (f_putI 7 7, 5)), (5, .inl (f_iload 1, 6)), (6, .inl (f_istore 4 2, 7)), (7, .inl (f_iload 2, 8)), (8, .inr (.inl (b_if_lt, 30, 11))), (11, .inl (f_aload 0, 12)), (12, .inl (f_dup, 13)), (13, .inl (f_get 7 7, 16)), (16, .inl (f_ci (1), 17)), (17, .inl (f_iadd, 18)), (18, .inl (f_putI 7 7, 21)), (21, .inl (f_aload 0, 22)), (22, .inl (f_iload 2, 23)), (23, .inr (.inr (.inl (13, 26, 2, mX7_above)))), (26, .inl (f_istore 4 2, 27)), (27, .inl (f_id, 7)), (30, .inl (f_aload 0, 31)), (31, .inl (f_get 7 7, 34)), (34, .inl (f_istore 4 2, 35)), (35, .inl (f_iload 1, 36)), (36, .inl (f_istore 4 3, 37)), (37, .inl (f_iload 3, 38)), (38, .inr (.inl (b_if_lt, 60, 41))), (41, .inl (f_iinc 4 2 (-1), 44)), (44, .inl (f_aload 0, 45)), (45, .inl (f_get 7 6, 48)), (48, .inl (f_iload 2, 49)), (49, .inl (f_iload 3, 50))]
set_option maxRecDepth 10000 in
theorem kX7_findPath_0 {X : Ctx} (h : sCx X mX7_findPath) : tab X mX7_findPath tX7_findPath_0 :=
  tab_cons (eS (st_aloadn h rfl dX7_findPath_0)) (
  tab_cons (eS (st_iconst h (by decide +kernel) dX7_findPath_1)) (
  tab_cons (eS (st_putI h (ci := 7) (k := 7) tyX7 tyX7_ok nmX7 rfl giX7 (by decide) rfl rfl (by decide +kernel) gw_335 dX7_findPath_2)) (
  tab_cons (eS (st_iloadn h rfl dX7_findPath_5)) (
  tab_cons (eS (st_istoren h rfl dX7_findPath_6)) (
  tab_cons (eS (st_iloadn h rfl dX7_findPath_7)) (
  tab_cons (eB (sb_if_lt h dX7_findPath_8 (by decide))) (
  tab_cons (eS (st_aloadn h rfl dX7_findPath_11)) (
  tab_cons (eS (st_dup h dX7_findPath_12)) (
  tab_cons (eS (st_get h (ci := 7) (k := 7) rfl giX7 (by decide) rfl gw_335 dX7_findPath_13)) (
  tab_cons (eS (st_iconst h (by decide +kernel) dX7_findPath_16)) (
  tab_cons (eS (st_iadd h dX7_findPath_17)) (
  tab_cons (eS (st_putI h (ci := 7) (k := 7) tyX7 tyX7_ok nmX7 rfl giX7 (by decide) rfl rfl (by decide +kernel) gw_335 dX7_findPath_18)) (
  tab_cons (eS (st_aloadn h rfl dX7_findPath_21)) (
  tab_cons (eS (st_iloadn h rfl dX7_findPath_22)) (
  tab_cons (eO (so_callV h gw_319 gw_320 gw_321 gw_295 gw_322 ⟨by decide +kernel, by decide +kernel, by decide +kernel, by decide +kernel⟩ ⟨by decide +kernel, by decide +kernel⟩ dX7_findPath_23)) (
  tab_cons (eS (st_istoren h rfl dX7_findPath_26)) (
  tab_cons (eS (st_goto h dX7_findPath_27 (by decide))) (
  tab_cons (eS (st_aloadn h rfl dX7_findPath_30)) (
  tab_cons (eS (st_get h (ci := 7) (k := 7) rfl giX7 (by decide) rfl gw_335 dX7_findPath_31)) (
  tab_cons (eS (st_istoren h rfl dX7_findPath_34)) (
  tab_cons (eS (st_iloadn h rfl dX7_findPath_35)) (
  tab_cons (eS (st_istoren h rfl dX7_findPath_36)) (
  tab_cons (eS (st_iloadn h rfl dX7_findPath_37)) (
  tab_cons (eB (sb_if_lt h dX7_findPath_38 (by decide))) (
  tab_cons (eS (st_iinc h (by decide +kernel) dX7_findPath_41)) (
  tab_cons (eS (st_aloadn h rfl dX7_findPath_44)) (
  tab_cons (eS (st_get h (ci := 7) (k := 6) rfl giX7 (by decide) rfl gw_336 dX7_findPath_45)) (
  tab_cons (eS (st_iloadn h rfl dX7_findPath_48)) (
  tab_cons (eS (st_iloadn h rfl dX7_findPath_49)) (
  tab_nil))))))))))))))))))))))))))))))
def tX7_findPath_1 : Tb := [(50, .inr (.inr (.inl (4, 51, 0, m0)))), (51, .inl (f_aload 0, 52)), (52, .inl (f_iload 3, 53)), (53, .inr (.inr (.inl (13, 56, 2, mX7_above)))), (56, .inl (f_istore 4 3, 57)), (57, .inl (f_id, 37)), (60, .inr (.inr (.inl (18, 61, 0, m0))))]
set_option maxRecDepth 10000 in
theorem kX7_findPath_1 {X : Ctx} (h : sCx X mX7_findPath) : tab X mX7_findPath tX7_findPath_1 :=
  tab_cons (eO (so_iastore h dX7_findPath_50)) (
  tab_cons (eS (st_aloadn h rfl dX7_findPath_51)) (
  tab_cons (eS (st_iloadn h rfl dX7_findPath_52)) (
  tab_cons (eO (so_callV h gw_319 gw_320 gw_321 gw_295 gw_322 ⟨by decide +kernel, by decide +kernel, by decide +kernel, by decide +kernel⟩ ⟨by decide +kernel, by decide +kernel⟩ dX7_findPath_53)) (
  tab_cons (eS (st_istoren h rfl dX7_findPath_56)) (
  tab_cons (eS (st_goto h dX7_findPath_57 (by decide))) (
  tab_cons (eO (so_return h dX7_findPath_60)) (
  tab_nil)))))))
def tX7_findPath : Tb := tX7_findPath_0 ++ (tX7_findPath_1)
theorem kX7_findPath {X : Ctx} (h : sCx X mX7_findPath) : tab X mX7_findPath tX7_findPath := tab_app (kX7_findPath_0 h) (kX7_findPath_1 h)
theorem dX7_currentAt_0 : decode cX7_currentAt 0 = .ok (.aload_n 0, 1) := by decide +kernel
theorem dX7_currentAt_1 : decode cX7_currentAt 1 = .ok (.iload_n 1, 1) := by decide +kernel
theorem dX7_currentAt_2 : decode cX7_currentAt 2 = .ok (.invokevirtual 96, 3) := by decide +kernel
theorem dX7_currentAt_5 : decode cX7_currentAt 5 = .ok (.aload_n 0, 1) := by decide +kernel
theorem dX7_currentAt_6 : decode cX7_currentAt 6 = .ok (.getfield 13, 3) := by decide +kernel
theorem dX7_currentAt_9 : decode cX7_currentAt 9 = .ok (.iconst 1, 1) := by decide +kernel
theorem dX7_currentAt_10 : decode cX7_currentAt 10 = .ok (.daload, 1) := by decide +kernel
theorem dX7_currentAt_11 : decode cX7_currentAt 11 = .ok (.dstore_n 3, 1) := by decide +kernel
theorem dX7_currentAt_12 : decode cX7_currentAt 12 = .ok (.iconst 0, 1) := by decide +kernel
theorem dX7_currentAt_13 : decode cX7_currentAt 13 = .ok (.istore 5, 2) := by decide +kernel
theorem dX7_currentAt_15 : decode cX7_currentAt 15 = .ok (.iload 5, 2) := by decide +kernel
theorem dX7_currentAt_17 : decode cX7_currentAt 17 = .ok (.aload_n 0, 1) := by decide +kernel
theorem dX7_currentAt_18 : decode cX7_currentAt 18 = .ok (.getfield 93, 3) := by decide +kernel
theorem dX7_currentAt_21 : decode cX7_currentAt 21 = .ok (.iconst 1, 1) := by decide +kernel
theorem dX7_currentAt_22 : decode cX7_currentAt 22 = .ok (.isub, 1) := by decide +kernel
theorem dX7_currentAt_23 : decode cX7_currentAt 23 = .ok (.if_icmp .ge 26, 3) := by decide +kernel
theorem dX7_currentAt_26 : decode cX7_currentAt 26 = .ok (.dload_n 3, 1) := by decide +kernel
theorem dX7_currentAt_27 : decode cX7_currentAt 27 = .ok (.aload_n 0, 1) := by decide +kernel
theorem dX7_currentAt_28 : decode cX7_currentAt 28 = .ok (.getfield 13, 3) := by decide +kernel
theorem dX7_currentAt_31 : decode cX7_currentAt 31 = .ok (.iconst 4, 1) := by decide +kernel
theorem dX7_currentAt_32 : decode cX7_currentAt 32 = .ok (.aload_n 0, 1) := by decide +kernel
theorem dX7_currentAt_33 : decode cX7_currentAt 33 = .ok (.getfield 23, 3) := by decide +kernel
theorem dX7_currentAt_36 : decode cX7_currentAt 36 = .ok (.iload 5, 2) := by decide +kernel
theorem dX7_currentAt_38 : decode cX7_currentAt 38 = .ok (.iaload, 1) := by decide +kernel
theorem dX7_currentAt_39 : decode cX7_currentAt 39 = .ok (.iadd, 1) := by decide +kernel
theorem dX7_currentAt_40 : decode cX7_currentAt 40 = .ok (.daload, 1) := by decide +kernel
theorem dX7_currentAt_41 : decode cX7_currentAt 41 = .ok (.dadd, 1) := by decide +kernel
theorem dX7_currentAt_42 : decode cX7_currentAt 42 = .ok (.dstore_n 3, 1) := by decide +kernel
theorem dX7_currentAt_43 : decode cX7_currentAt 43 = .ok (.iinc 5 1, 3) := by decide +kernel
theorem dX7_currentAt_46 : decode cX7_currentAt 46 = .ok (.goto (-31), 3) := by decide +kernel
theorem dX7_currentAt_49 : decode cX7_currentAt 49 = .ok (.dload_n 3, 1) := by decide +kernel
theorem dX7_currentAt_50 : decode cX7_currentAt 50 = .ok (.aload_n 0, 1) := by decide +kernel
theorem dX7_currentAt_51 : decode cX7_currentAt 51 = .ok (.getfield 13, 3) := by decide +kernel
theorem dX7_currentAt_54 : decode cX7_currentAt 54 = .ok (.iconst 4, 1) := by decide +kernel
theorem dX7_currentAt_55 : decode cX7_currentAt 55 = .ok (.iload_n 1, 1) := by decide +kernel
theorem dX7_currentAt_56 : decode cX7_currentAt 56 = .ok (.iadd, 1) := by decide +kernel
theorem dX7_currentAt_57 : decode cX7_currentAt 57 = .ok (.daload, 1) := by decide +kernel
theorem dX7_currentAt_58 : decode cX7_currentAt 58 = .ok (.iload_n 2, 1) := by decide +kernel
theorem dX7_currentAt_59 : decode cX7_currentAt 59 = .ok (.i2d, 1) := by decide +kernel
theorem dX7_currentAt_60 : decode cX7_currentAt 60 = .ok (.dmul, 1) := by decide +kernel
theorem dX7_currentAt_61 : decode cX7_currentAt 61 = .ok (.ldc2_w 59, 3) := by decide +kernel
theorem dX7_currentAt_64 : decode cX7_currentAt 64 = .ok (.ddiv, 1) := by decide +kernel
theorem dX7_currentAt_65 : decode cX7_currentAt 65 = .ok (.dadd, 1) := by decide +kernel
theorem dX7_currentAt_66 : decode cX7_currentAt 66 = .ok (.dstore_n 3, 1) := by decide +kernel
theorem dX7_currentAt_67 : decode cX7_currentAt 67 = .ok (.aload_n 0, 1) := by decide +kernel
theorem dX7_currentAt_68 : decode cX7_currentAt 68 = .ok (.getfield 13, 3) := by decide +kernel
theorem dX7_currentAt_71 : decode cX7_currentAt 71 = .ok (.iconst 0, 1) := by decide +kernel
theorem dX7_currentAt_72 : decode cX7_currentAt 72 = .ok (.daload, 1) := by decide +kernel
theorem dX7_currentAt_73 : decode cX7_currentAt 73 = .ok (.dload_n 3, 1) := by decide +kernel
theorem dX7_currentAt_74 : decode cX7_currentAt 74 = .ok (.ddiv, 1) := by decide +kernel
theorem dX7_currentAt_75 : decode cX7_currentAt 75 = .ok (.dreturn, 1) := by decide +kernel
def tX7_currentAt_0 : Tb := [(0, .inl (f_aload 0, 1)), (1, .inl (f_iload 1, 2)), (2, .inr (.inr (.inl (13, 5, 2, mX7_findPath)))), (5, .inl (f_aload 0, 6)), (6, .inl (f_get 7 2, 9)), (9, .inl (f_ci (1), 10)), (10, .inr (.inr (.inl (1, 11, 0, m0)))), (11, .inl (f_dstore 6 3, 12)), (12, .inl (f_ci (0), 13)), (13, .inl (f_istore 6 5, 15)), (15, .inl (f_iload 5, 17)), (17, .inl (f_aload 0, 18)), (18, .inl (f_get 7 7, 21)), (21, .inl (f_ci (1), 22)), (22, .inl (f_isub, 23)), (23, .inr (.inl (b_icmp_ge, 49, 26))), (26, .inl (f_dload 3, 27)), (27, .inl (f_aload 0, 28)), (28, .inl (f_get 7 2, 31)), (31, .inl (f_ci (4), 32)), (32, .inl (f_aload 0, 33)), (33, .inl (f_get 7 6, 36)), (36, .inl (f_iload 5, 38)), (38, .inr (.inr (.inl (0, 39, 0, m0)))), (39, .inl (f_iadd, 40)), (40, .inr (.inr (.inl (1, 41, 0, m0)))), (41, .inr (.inr (.inl (7, 42, 0, m0)))), (42, .inl (f_dstore 6 3, 43)), (43, .inl (f_iinc 6 5 (1), 46)), (46, .inl (f_id, 15))]
set_option maxRecDepth 10000 in
theorem kX7_currentAt_0 {X : Ctx} (h : sCx X mX7_currentAt) : tab X mX7_currentAt tX7_currentAt_0 :=
  tab_cons (eS (st_aloadn h rfl dX7_currentAt_0)) (
  tab_cons (eS (st_iloadn h rfl dX7_currentAt_1)) (
  tab_cons (eO (so_callV h gw_337 gw_338 gw_339 gw_295 gw_340 ⟨by decide +kernel, by decide +kernel, by decide +kernel, by decide +kernel⟩ ⟨by decide +kernel, by decide +kernel⟩ dX7_currentAt_2)) (
  tab_cons (eS (st_aloadn h rfl dX7_currentAt_5)) (
  tab_cons (eS (st_get h (ci := 7) (k := 2) rfl giX7 (by decide) rfl gw_300 dX7_currentAt_6)) (
  tab_cons (eS (st_iconst h (by decide +kernel) dX7_currentAt_9)) (
  tab_cons (eO (so_daload h dX7_currentAt_10)) (
  tab_cons (eS (st_dstoren h rfl dX7_currentAt_11)) (
  tab_cons (eS (st_iconst h (by decide +kernel) dX7_currentAt_12)) (
  tab_cons (eS (st_istore h dX7_currentAt_13)) (
  tab_cons (eS (st_iload h dX7_currentAt_15)) (
  tab_cons (eS (st_aloadn h rfl dX7_currentAt_17)) (
  tab_cons (eS (st_get h (ci := 7) (k := 7) rfl giX7 (by decide) rfl gw_335 dX7_currentAt_18)) (
  tab_cons (eS (st_iconst h (by decide +kernel) dX7_currentAt_21)) (
  tab_cons (eS (st_isub h dX7_currentAt_22)) (
  tab_cons (eB (sb_icmp_ge h dX7_currentAt_23 (by decide))) (
  tab_cons (eS (st_dloadn h rfl dX7_currentAt_26)) (
  tab_cons (eS (st_aloadn h rfl dX7_currentAt_27)) (
  tab_cons (eS (st_get h (ci := 7) (k := 2) rfl giX7 (by decide) rfl gw_300 dX7_currentAt_28)) (
  tab_cons (eS (st_iconst h (by decide +kernel) dX7_currentAt_31)) (
  tab_cons (eS (st_aloadn h rfl dX7_currentAt_32)) (
  tab_cons (eS (st_get h (ci := 7) (k := 6) rfl giX7 (by decide) rfl gw_336 dX7_currentAt_33)) (
  tab_cons (eS (st_iload h dX7_currentAt_36)) (
  tab_cons (eO (so_iaload h dX7_currentAt_38)) (
  tab_cons (eS (st_iadd h dX7_currentAt_39)) (
  tab_cons (eO (so_daload h dX7_currentAt_40)) (
  tab_cons (eO (so_dadd h dX7_currentAt_41)) (
  tab_cons (eS (st_dstoren h rfl dX7_currentAt_42)) (
  tab_cons (eS (st_iinc h (by decide +kernel) dX7_currentAt_43)) (
  tab_cons (eS (st_goto h dX7_currentAt_46 (by decide))) (
  tab_nil))))))))))))))))))))))))))))))
def tX7_currentAt_1 : Tb := [(49, .inl (f_dload 3, 50)), (50, .inl (f_aload 0, 51)), (51, .inl (f_get 7 2, 54)), (54, .inl (f_ci (4), 55)), (55, .inl (f_iload 1, 56)), (56, .inl (f_iadd, 57)), (57, .inr (.inr (.inl (1, 58, 0, m0)))), (58, .inl (f_iload 2, 59)), (59, .inl (f_i2d, 60)), (60, .inr (.inr (.inl (9, 61, 0, m0)))), (61, .inl (f_cd 4636737291354636288, 64)), (64, .inr (.inr (.inl (10, 65, 0, m0)))), (65, .inr (.inr (.inl (7, 66, 0, m0)))), (66, .inl (f_dstore 6 3, 67)), (67, .inl (f_aload 0, 68)), (68, .inl (f_get 7 2, 71)), (71, .inl (f_ci (0), 72)), (72, .inr (.inr (.inl (1, 73, 0, m0)))), (73, .inl (f_dload 3, 74)), (74, .inr (.inr (.inl (10, 75, 0, m0)))), (75, .inr (.inr (.inl (16, 76, 0, m0))))]
set_option maxRecDepth 10000 in
theorem kX7_currentAt_1 {X : Ctx} (h : sCx X mX7_currentAt) : tab X mX7_currentAt tX7_currentAt_1 :=
  tab_cons (eS (st_dloadn h rfl dX7_currentAt_49)) (
  tab_cons (eS (st_aloadn h rfl dX7_currentAt_50)) (
  tab_cons (eS (st_get h (ci := 7) (k := 2) rfl giX7 (by decide) rfl gw_300 dX7_currentAt_51)) (
  tab_cons (eS (st_iconst h (by decide +kernel) dX7_currentAt_54)) (
  tab_cons (eS (st_iloadn h rfl dX7_currentAt_55)) (
  tab_cons (eS (st_iadd h dX7_currentAt_56)) (
  tab_cons (eO (so_daload h dX7_currentAt_57)) (
  tab_cons (eS (st_iloadn h rfl dX7_currentAt_58)) (
  tab_cons (eS (st_i2d h dX7_currentAt_59)) (
  tab_cons (eO (so_dmul h dX7_currentAt_60)) (
  tab_cons (eS (st_ldc2d h gw_305 dX7_currentAt_61)) (
  tab_cons (eO (so_ddiv h dX7_currentAt_64)) (
  tab_cons (eO (so_dadd h dX7_currentAt_65)) (
  tab_cons (eS (st_dstoren h rfl dX7_currentAt_66)) (
  tab_cons (eS (st_aloadn h rfl dX7_currentAt_67)) (
  tab_cons (eS (st_get h (ci := 7) (k := 2) rfl giX7 (by decide) rfl gw_300 dX7_currentAt_68)) (
  tab_cons (eS (st_iconst h (by decide +kernel) dX7_currentAt_71)) (
  tab_cons (eO (so_daload h dX7_currentAt_72)) (
  tab_cons (eS (st_dloadn h rfl dX7_currentAt_73)) (
  tab_cons (eO (so_ddiv h dX7_currentAt_74)) (
  tab_cons (eO (so_dreturn h dX7_currentAt_75)) (
  tab_nil)))))))))))))))))))))
def tX7_currentAt : Tb := tX7_currentAt_0 ++ (tX7_currentAt_1)
theorem kX7_currentAt {X : Ctx} (h : sCx X mX7_currentAt) : tab X mX7_currentAt tX7_currentAt := tab_app (kX7_currentAt_0 h) (kX7_currentAt_1 h)
theorem dX7_isLocation_0 : decode cX7_isLocation 0 = .ok (.aload_n 0, 1) := by decide +kernel
theorem dX7_isLocation_1 : decode cX7_isLocation 1 = .ok (.iload_n 1, 1) := by decide +kernel
theorem dX7_isLocation_2 : decode cX7_isLocation 2 = .ok (.invokevirtual 86, 3) := by decide +kernel
theorem dX7_isLocation_5 : decode cX7_isLocation 5 = .ok (.ifCond .eq 17, 3) := by decide +kernel
theorem dX7_isLocation_8 : decode cX7_isLocation 8 = .ok (.iload_n 2, 1) := by decide +kernel
theorem dX7_isLocation_9 : decode cX7_isLocation 9 = .ok (.iconst 0, 1) := by decide +kernel
theorem dX7_isLocation_10 : decode cX7_isLocation 10 = .ok (.bipush 100, 2) := by decide +kernel
theorem dX7_isLocation_12 : decode cX7_isLocation 12 = .ok (.invokestatic 49, 3) := by decide +kernel
theorem dX7_isLocation_15 : decode cX7_isLocation 15 = .ok (.ifCond .eq 7, 3) := by decide +kernel
theorem dX7_isLocation_18 : decode cX7_isLocation 18 = .ok (.iconst 1, 1) := by decide +kernel
theorem dX7_isLocation_19 : decode cX7_isLocation 19 = .ok (.goto 4, 3) := by decide +kernel
theorem dX7_isLocation_22 : decode cX7_isLocation 22 = .ok (.iconst 0, 1) := by decide +kernel
theorem dX7_isLocation_23 : decode cX7_isLocation 23 = .ok (.ireturn, 1) := by decide +kernel
def tX7_isLocation_0 : Tb := [(0, .inl (f_aload 0, 1)), (1, .inl (f_iload 1, 2)), (2, .inr (.inr (.inl (13, 5, 2, mX7_isLine)))), (5, .inr (.inl (b_if_eq, 22, 8))), (8, .inl (f_iload 2, 9)), (9, .inl (f_ci (0), 10)), (10, .inl (f_ci (100), 12)), (12, .inr (.inr (.inl (14, 15, 3, mX7_in)))), (15, .inr (.inl (b_if_eq, 22, 18))), (18, .inl (f_ci (1), 19)), (19, .inl (f_id, 23)), (22, .inl (f_ci (0), 23)), (23, .inr (.inr (.inl (15, 24, 0, m0))))]
set_option maxRecDepth 10000 in
theorem kX7_isLocation_0 {X : Ctx} (h : sCx X mX7_isLocation) : tab X mX7_isLocation tX7_isLocation_0 :=
  tab_cons (eS (st_aloadn h rfl dX7_isLocation_0)) (
  tab_cons (eS (st_iloadn h rfl dX7_isLocation_1)) (
  tab_cons (eO (so_callV h gw_327 gw_328 gw_329 gw_295 gw_330 ⟨by decide +kernel, by decide +kernel, by decide +kernel, by decide +kernel⟩ ⟨by decide +kernel, by decide +kernel⟩ dX7_isLocation_2)) (
  tab_cons (eB (sb_if_eq h dX7_isLocation_5 (by decide))) (
  tab_cons (eS (st_iloadn h rfl dX7_isLocation_8)) (
  tab_cons (eS (st_iconst h (by decide +kernel) dX7_isLocation_9)) (
  tab_cons (eS (st_bipush h (by decide +kernel) dX7_isLocation_10)) (
  tab_cons (eO (so_callS h gw_293 gw_294 gw_295 gw_296 ⟨by decide +kernel, by decide +kernel, by decide +kernel⟩ ⟨by decide +kernel, by decide +kernel⟩ dX7_isLocation_12)) (
  tab_cons (eB (sb_if_eq h dX7_isLocation_15 (by decide))) (
  tab_cons (eS (st_iconst h (by decide +kernel) dX7_isLocation_18)) (
  tab_cons (eS (st_goto h dX7_isLocation_19 (by decide))) (
  tab_cons (eS (st_iconst h (by decide +kernel) dX7_isLocation_22)) (
  tab_cons (eO (so_ireturn h dX7_isLocation_23)) (
  tab_nil)))))))))))))
def tX7_isLocation : Tb := tX7_isLocation_0
theorem kX7_isLocation {X : Ctx} (h : sCx X mX7_isLocation) : tab X mX7_isLocation tX7_isLocation := kX7_isLocation_0 h
theorem dX7_faultCurrent_0 : decode cX7_faultCurrent 0 = .ok (.aload_n 0, 1) := by decide +kernel
theorem dX7_faultCurrent_1 : decode cX7_faultCurrent 1 = .ok (.aload_n 0, 1) := by decide +kernel
theorem dX7_faultCurrent_2 : decode cX7_faultCurrent 2 = .ok (.iload_n 1, 1) := by decide +kernel
theorem dX7_faultCurrent_3 : decode cX7_faultCurrent 3 = .ok (.iload_n 2, 1) := by decide +kernel
theorem dX7_faultCurrent_4 : decode cX7_faultCurrent 4 = .ok (.invokevirtual 100, 3) := by decide +kernel
theorem dX7_faultCurrent_7 : decode cX7_faultCurrent 7 = .ok (.ifCond .eq 7, 3) := by decide +kernel
theorem dX7_faultCurrent_10 : decode cX7_faultCurrent 10 = .ok (.iconst 0, 1) := by decide +kernel
theorem dX7_faultCurrent_11 : decode cX7_faultCurrent 11 = .ok (.goto 4, 3) := by decide +kernel
theorem dX7_faultCurrent_14 : decode cX7_faultCurrent 14 = .ok (.iconst 1, 1) := by decide +kernel
theorem dX7_faultCurrent_15 : decode cX7_faultCurrent 15 = .ok (.putfield 45, 3) := by decide +kernel
theorem dX7_faultCurrent_18 : decode cX7_faultCurrent 18 = .ok (.aload_n 0, 1) := by decide +kernel
theorem dX7_faultCurrent_19 : decode cX7_faultCurrent 19 = .ok (.getfield 45, 3) := by decide +kernel
theorem dX7_faultCurrent_22 : decode cX7_faultCurrent 22 = .ok (.ifCond .le 7, 3) := by decide +kernel
theorem dX7_faultCurrent_25 : decode cX7_faultCurrent 25 = .ok (.dconst 0, 1) := by decide +kernel
theorem dX7_faultCurrent_26 : decode cX7_faultCurrent 26 = .ok (.goto 9, 3) := by decide +kernel
theorem dX7_faultCurrent_29 : decode cX7_faultCurrent 29 = .ok (.aload_n 0, 1) := by decide +kernel
theorem dX7_faultCurrent_30 : decode cX7_faultCurrent 30 = .ok (.iload_n 1, 1) := by decide +kernel
theorem dX7_faultCurrent_31 : decode cX7_faultCurrent 31 = .ok (.iload_n 2, 1) := by decide +kernel
theorem dX7_faultCurrent_32 : decode cX7_faultCurrent 32 = .ok (.invokevirtual 103, 3) := by decide +kernel
theorem dX7_faultCurrent_35 : decode cX7_faultCurrent 35 = .ok (.dreturn, 1) := by decide +kernel
def tX7_faultCurrent_0 : Tb := [(0, .inl (f_aload 0, 1)), (1, .inl (f_aload 0, 2)), (2, .inl (f_iload 1, 3)), (3, .inl (f_iload 2, 4)), (4, .inr (.inr (.inl (13, 7, 3, mX7_isLocation)))), (7, .inr (.inl (b_if_eq, 14, 10))), (10, .inl (f_ci (0), 11)), (11, .inl (f_id, 15)), (14, .inl (f_ci (1), 15)), (15, .inl (f_putI 7 0, 18)), (18, .inl (f_aload 0, 19)), (19, .inl (f_get 7 0, 22)), (22, .inr (.inl (b_if_le, 29, 25))), (25, .inl (f_cd 0, 26)), (26, .inl (f_id, 35)), (29, .inl (f_aload 0, 30)), (30, .inl (f_iload 1, 31)), (31, .inl (f_iload 2, 32)), (32, .inr (.inr (.inl (13, 35, 3, mX7_currentAt)))), (35, .inr (.inr (.inl (16, 36, 0, m0))))]
set_option maxRecDepth 10000 in
theorem kX7_faultCurrent_0 {X : Ctx} (h : sCx X mX7_faultCurrent) : tab X mX7_faultCurrent tX7_faultCurrent_0 :=
  tab_cons (eS (st_aloadn h rfl dX7_faultCurrent_0)) (
  tab_cons (eS (st_aloadn h rfl dX7_faultCurrent_1)) (
  tab_cons (eS (st_iloadn h rfl dX7_faultCurrent_2)) (
  tab_cons (eS (st_iloadn h rfl dX7_faultCurrent_3)) (
  tab_cons (eO (so_callV h gw_341 gw_342 gw_343 gw_295 gw_344 ⟨by decide +kernel, by decide +kernel, by decide +kernel, by decide +kernel⟩ ⟨by decide +kernel, by decide +kernel⟩ dX7_faultCurrent_4)) (
  tab_cons (eB (sb_if_eq h dX7_faultCurrent_7 (by decide))) (
  tab_cons (eS (st_iconst h (by decide +kernel) dX7_faultCurrent_10)) (
  tab_cons (eS (st_goto h dX7_faultCurrent_11 (by decide))) (
  tab_cons (eS (st_iconst h (by decide +kernel) dX7_faultCurrent_14)) (
  tab_cons (eS (st_putI h (ci := 7) (k := 0) tyX7 tyX7_ok nmX7 rfl giX7 (by decide) rfl rfl (by decide +kernel) gw_291 dX7_faultCurrent_15)) (
  tab_cons (eS (st_aloadn h rfl dX7_faultCurrent_18)) (
  tab_cons (eS (st_get h (ci := 7) (k := 0) rfl giX7 (by decide) rfl gw_291 dX7_faultCurrent_19)) (
  tab_cons (eB (sb_if_le h dX7_faultCurrent_22 (by decide))) (
  tab_cons (eS (st_dconst0 h rfl dX7_faultCurrent_25)) (
  tab_cons (eS (st_goto h dX7_faultCurrent_26 (by decide))) (
  tab_cons (eS (st_aloadn h rfl dX7_faultCurrent_29)) (
  tab_cons (eS (st_iloadn h rfl dX7_faultCurrent_30)) (
  tab_cons (eS (st_iloadn h rfl dX7_faultCurrent_31)) (
  tab_cons (eO (so_callV h gw_345 gw_346 gw_347 gw_295 gw_348 ⟨by decide +kernel, by decide +kernel, by decide +kernel, by decide +kernel⟩ ⟨by decide +kernel, by decide +kernel⟩ dX7_faultCurrent_32)) (
  tab_cons (eO (so_dreturn h dX7_faultCurrent_35)) (
  tab_nil))))))))))))))))))))
def tX7_faultCurrent : Tb := tX7_faultCurrent_0
theorem kX7_faultCurrent {X : Ctx} (h : sCx X mX7_faultCurrent) : tab X mX7_faultCurrent tX7_faultCurrent := kX7_faultCurrent_0 h
theorem dX7_setRelay_0 : decode cX7_setRelay 0 = .ok (.aload_n 0, 1) := by decide +kernel
theorem dX7_setRelay_1 : decode cX7_setRelay 1 = .ok (.aload_n 0, 1) := by decide +kernel
theorem dX7_setRelay_2 : decode cX7_setRelay 2 = .ok (.iload_n 1, 1) := by decide +kernel
theorem dX7_setRelay_3 : decode cX7_setRelay 3 = .ok (.invokevirtual 86, 3) := by decide +kernel
theorem dX7_setRelay_6 : decode cX7_setRelay 6 = .ok (.ifCond .eq 38, 3) := by decide +kernel
theorem dX7_setRelay_9 : decode cX7_setRelay 9 = .ok (.iload_n 2, 1) := by decide +kernel
theorem dX7_setRelay_10 : decode cX7_setRelay 10 = .ok (.iconst 1, 1) := by decide +kernel
theorem dX7_setRelay_11 : decode cX7_setRelay 11 = .ok (.sipush 20000, 3) := by decide +kernel
theorem dX7_setRelay_14 : decode cX7_setRelay 14 = .ok (.invokestatic 49, 3) := by decide +kernel
theorem dX7_setRelay_17 : decode cX7_setRelay 17 = .ok (.ifCond .eq 27, 3) := by decide +kernel
theorem dX7_setRelay_20 : decode cX7_setRelay 20 = .ok (.iload_n 3, 1) := by decide +kernel
theorem dX7_setRelay_21 : decode cX7_setRelay 21 = .ok (.iconst 0, 1) := by decide +kernel
theorem dX7_setRelay_22 : decode cX7_setRelay 22 = .ok (.iconst 3, 1) := by decide +kernel
theorem dX7_setRelay_23 : decode cX7_setRelay 23 = .ok (.invokestatic 49, 3) := by decide +kernel
theorem dX7_setRelay_26 : decode cX7_setRelay 26 = .ok (.ifCond .eq 18, 3) := by decide +kernel
theorem dX7_setRelay_29 : decode cX7_setRelay 29 = .ok (.iload 4, 2) := by decide +kernel
theorem dX7_setRelay_31 : decode cX7_setRelay 31 = .ok (.iconst 1, 1) := by decide +kernel
theorem dX7_setRelay_32 : decode cX7_setRelay 32 = .ok (.bipush 20, 2) := by decide +kernel
theorem dX7_setRelay_34 : decode cX7_setRelay 34 = .ok (.invokestatic 49, 3) := by decide +kernel
theorem dX7_setRelay_37 : decode cX7_setRelay 37 = .ok (.ifCond .eq 7, 3) := by decide +kernel
theorem dX7_setRelay_40 : decode cX7_setRelay 40 = .ok (.iconst 0, 1) := by decide +kernel
theorem dX7_setRelay_41 : decode cX7_setRelay 41 = .ok (.goto 4, 3) := by decide +kernel
theorem dX7_setRelay_44 : decode cX7_setRelay 44 = .ok (.iconst 1, 1) := by decide +kernel
theorem dX7_setRelay_45 : decode cX7_setRelay 45 = .ok (.putfield 45, 3) := by decide +kernel
theorem dX7_setRelay_48 : decode cX7_setRelay 48 = .ok (.aload_n 0, 1) := by decide +kernel
theorem dX7_setRelay_49 : decode cX7_setRelay 49 = .ok (.getfield 45, 3) := by decide +kernel
theorem dX7_setRelay_52 : decode cX7_setRelay 52 = .ok (.ifCond .le 5, 3) := by decide +kernel
theorem dX7_setRelay_55 : decode cX7_setRelay 55 = .ok (.iconst 0, 1) := by decide +kernel
theorem dX7_setRelay_56 : decode cX7_setRelay 56 = .ok (.ireturn, 1) := by decide +kernel
theorem dX7_setRelay_57 : decode cX7_setRelay 57 = .ok (.aload_n 0, 1) := by decide +kernel
theorem dX7_setRelay_58 : decode cX7_setRelay 58 = .ok (.iload_n 1, 1) := by decide +kernel
theorem dX7_setRelay_59 : decode cX7_setRelay 59 = .ok (.iconst 2, 1) := by decide +kernel
theorem dX7_setRelay_60 : decode cX7_setRelay 60 = .ok (.invokestatic 71, 3) := by decide +kernel
theorem dX7_setRelay_63 : decode cX7_setRelay 63 = .ok (.iload_n 2, 1) := by decide +kernel
theorem dX7_setRelay_64 : decode cX7_setRelay 64 = .ok (.invokevirtual 75, 3) := by decide +kernel
theorem dX7_setRelay_67 : decode cX7_setRelay 67 = .ok (.istore 5, 2) := by decide +kernel
theorem dX7_setRelay_69 : decode cX7_setRelay 69 = .ok (.aload_n 0, 1) := by decide +kernel
theorem dX7_setRelay_70 : decode cX7_setRelay 70 = .ok (.getfield 7, 3) := by decide +kernel
theorem dX7_setRelay_73 : decode cX7_setRelay 73 = .ok (.iload_n 1, 1) := by decide +kernel
theorem dX7_setRelay_74 : decode cX7_setRelay 74 = .ok (.iconst 3, 1) := by decide +kernel
theorem dX7_setRelay_75 : decode cX7_setRelay 75 = .ok (.invokestatic 71, 3) := by decide +kernel
theorem dX7_setRelay_78 : decode cX7_setRelay 78 = .ok (.iload_n 3, 1) := by decide +kernel
theorem dX7_setRelay_79 : decode cX7_setRelay 79 = .ok (.iastore, 1) := by decide +kernel
theorem dX7_setRelay_80 : decode cX7_setRelay 80 = .ok (.aload_n 0, 1) := by decide +kernel
theorem dX7_setRelay_81 : decode cX7_setRelay 81 = .ok (.getfield 7, 3) := by decide +kernel
theorem dX7_setRelay_84 : decode cX7_setRelay 84 = .ok (.iload_n 1, 1) := by decide +kernel
theorem dX7_setRelay_85 : decode cX7_setRelay 85 = .ok (.iconst 4, 1) := by decide +kernel
theorem dX7_setRelay_86 : decode cX7_setRelay 86 = .ok (.invokestatic 71, 3) := by decide +kernel
theorem dX7_setRelay_89 : decode cX7_setRelay 89 = .ok (.iload 4, 2) := by decide +kernel
theorem dX7_setRelay_91 : decode cX7_setRelay 91 = .ok (.iastore, 1) := by decide +kernel
theorem dX7_setRelay_92 : decode cX7_setRelay 92 = .ok (.iload 5, 2) := by decide +kernel
theorem dX7_setRelay_94 : decode cX7_setRelay 94 = .ok (.ireturn, 1) := by decide +kernel
def tX7_setRelay_0 : Tb := [(0, .inl (f_aload 0, 1)), (1, .inl (f_aload 0, 2)), (2, .inl (f_iload 1, 3)), (3, .inr (.inr (.inl (13, 6, 2, mX7_isLine)))), (6, .inr (.inl (b_if_eq, 44, 9))), (9, .inl (f_iload 2, 10)), (10, .inl (f_ci (1), 11)), (11, .inl (f_ci (20000), 14)), (14, .inr (.inr (.inl (14, 17, 3, mX7_in)))), (17, .inr (.inl (b_if_eq, 44, 20))), (20, .inl (f_iload 3, 21)), (21, .inl (f_ci (0), 22)), (22, .inl (f_ci (3), 23)), (23, .inr (.inr (.inl (14, 26, 3, mX7_in)))), (26, .inr (.inl (b_if_eq, 44, 29))), (29, .inl (f_iload 4, 31)), (31, .inl (f_ci (1), 32)), (32, .inl (f_ci (20), 34)), (34, .inr (.inr (.inl (14, 37, 3, mX7_in)))), (37, .inr (.inl (b_if_eq, 44, 40))), (40, .inl (f_ci (0), 41)), (41, .inl (f_id, 45)), (44, .inl (f_ci (1), 45)), (45, .inl (f_putI 7 0, 48)), (48, .inl (f_aload 0, 49)), (49, .inl (f_get 7 0, 52)), (52, .inr (.inl (b_if_le, 57, 55))), (55, .inl (f_ci (0), 56)), (56, .inr (.inr (.inl (15, 57, 0, m0)))), (57, .inl (f_aload 0, 58))]
set_option maxRecDepth 10000 in
theorem kX7_setRelay_0 {X : Ctx} (h : sCx X mX7_setRelay) : tab X mX7_setRelay tX7_setRelay_0 :=
  tab_cons (eS (st_aloadn h rfl dX7_setRelay_0)) (
  tab_cons (eS (st_aloadn h rfl dX7_setRelay_1)) (
  tab_cons (eS (st_iloadn h rfl dX7_setRelay_2)) (
  tab_cons (eO (so_callV h gw_327 gw_328 gw_329 gw_295 gw_330 ⟨by decide +kernel, by decide +kernel, by decide +kernel, by decide +kernel⟩ ⟨by decide +kernel, by decide +kernel⟩ dX7_setRelay_3)) (
  tab_cons (eB (sb_if_eq h dX7_setRelay_6 (by decide))) (
  tab_cons (eS (st_iloadn h rfl dX7_setRelay_9)) (
  tab_cons (eS (st_iconst h (by decide +kernel) dX7_setRelay_10)) (
  tab_cons (eS (st_sipush h (by decide +kernel) dX7_setRelay_11)) (
  tab_cons (eO (so_callS h gw_293 gw_294 gw_295 gw_296 ⟨by decide +kernel, by decide +kernel, by decide +kernel⟩ ⟨by decide +kernel, by decide +kernel⟩ dX7_setRelay_14)) (
  tab_cons (eB (sb_if_eq h dX7_setRelay_17 (by decide))) (
  tab_cons (eS (st_iloadn h rfl dX7_setRelay_20)) (
  tab_cons (eS (st_iconst h (by decide +kernel) dX7_setRelay_21)) (
  tab_cons (eS (st_iconst h (by decide +kernel) dX7_setRelay_22)) (
  tab_cons (eO (so_callS h gw_293 gw_294 gw_295 gw_296 ⟨by decide +kernel, by decide +kernel, by decide +kernel⟩ ⟨by decide +kernel, by decide +kernel⟩ dX7_setRelay_23)) (
  tab_cons (eB (sb_if_eq h dX7_setRelay_26 (by decide))) (
  tab_cons (eS (st_iload h dX7_setRelay_29)) (
  tab_cons (eS (st_iconst h (by decide +kernel) dX7_setRelay_31)) (
  tab_cons (eS (st_bipush h (by decide +kernel) dX7_setRelay_32)) (
  tab_cons (eO (so_callS h gw_293 gw_294 gw_295 gw_296 ⟨by decide +kernel, by decide +kernel, by decide +kernel⟩ ⟨by decide +kernel, by decide +kernel⟩ dX7_setRelay_34)) (
  tab_cons (eB (sb_if_eq h dX7_setRelay_37 (by decide))) (
  tab_cons (eS (st_iconst h (by decide +kernel) dX7_setRelay_40)) (
  tab_cons (eS (st_goto h dX7_setRelay_41 (by decide))) (
  tab_cons (eS (st_iconst h (by decide +kernel) dX7_setRelay_44)) (
  tab_cons (eS (st_putI h (ci := 7) (k := 0) tyX7 tyX7_ok nmX7 rfl giX7 (by decide) rfl rfl (by decide +kernel) gw_291 dX7_setRelay_45)) (
  tab_cons (eS (st_aloadn h rfl dX7_setRelay_48)) (
  tab_cons (eS (st_get h (ci := 7) (k := 0) rfl giX7 (by decide) rfl gw_291 dX7_setRelay_49)) (
  tab_cons (eB (sb_if_le h dX7_setRelay_52 (by decide))) (
  tab_cons (eS (st_iconst h (by decide +kernel) dX7_setRelay_55)) (
  tab_cons (eO (so_ireturn h dX7_setRelay_56)) (
  tab_cons (eS (st_aloadn h rfl dX7_setRelay_57)) (
  tab_nil))))))))))))))))))))))))))))))
def tX7_setRelay_1 : Tb := [(58, .inl (f_iload 1, 59)), (59, .inl (f_ci (2), 60)), (60, .inr (.inr (.inl (14, 63, 2, mX7_at)))), (63, .inl (f_iload 2, 64)), (64, .inr (.inr (.inl (13, 67, 3, mX7_change)))), (67, .inl (f_istore 6 5, 69)), (69, .inl (f_aload 0, 70)), (70, .inl (f_get 7 1, 73)), (73, .inl (f_iload 1, 74)), (74, .inl (f_ci (3), 75)), (75, .inr (.inr (.inl (14, 78, 2, mX7_at)))), (78, .inl (f_iload 3, 79)), (79, .inr (.inr (.inl (4, 80, 0, m0)))), (80, .inl (f_aload 0, 81)), (81, .inl (f_get 7 1, 84)), (84, .inl (f_iload 1, 85)), (85, .inl (f_ci (4), 86)), (86, .inr (.inr (.inl (14, 89, 2, mX7_at)))), (89, .inl (f_iload 4, 91)), (91, .inr (.inr (.inl (4, 92, 0, m0)))), (92, .inl (f_iload 5, 94)), (94, .inr (.inr (.inl (15, 95, 0, m0))))]
set_option maxRecDepth 10000 in
theorem kX7_setRelay_1 {X : Ctx} (h : sCx X mX7_setRelay) : tab X mX7_setRelay tX7_setRelay_1 :=
  tab_cons (eS (st_iloadn h rfl dX7_setRelay_58)) (
  tab_cons (eS (st_iconst h (by decide +kernel) dX7_setRelay_59)) (
  tab_cons (eO (so_callS h gw_312 gw_313 gw_295 gw_314 ⟨by decide +kernel, by decide +kernel, by decide +kernel⟩ ⟨by decide +kernel, by decide +kernel⟩ dX7_setRelay_60)) (
  tab_cons (eS (st_iloadn h rfl dX7_setRelay_63)) (
  tab_cons (eO (so_callV h gw_315 gw_316 gw_317 gw_295 gw_318 ⟨by decide +kernel, by decide +kernel, by decide +kernel, by decide +kernel⟩ ⟨by decide +kernel, by decide +kernel⟩ dX7_setRelay_64)) (
  tab_cons (eS (st_istore h dX7_setRelay_67)) (
  tab_cons (eS (st_aloadn h rfl dX7_setRelay_69)) (
  tab_cons (eS (st_get h (ci := 7) (k := 1) rfl giX7 (by decide) rfl gw_292 dX7_setRelay_70)) (
  tab_cons (eS (st_iloadn h rfl dX7_setRelay_73)) (
  tab_cons (eS (st_iconst h (by decide +kernel) dX7_setRelay_74)) (
  tab_cons (eO (so_callS h gw_312 gw_313 gw_295 gw_314 ⟨by decide +kernel, by decide +kernel, by decide +kernel⟩ ⟨by decide +kernel, by decide +kernel⟩ dX7_setRelay_75)) (
  tab_cons (eS (st_iloadn h rfl dX7_setRelay_78)) (
  tab_cons (eO (so_iastore h dX7_setRelay_79)) (
  tab_cons (eS (st_aloadn h rfl dX7_setRelay_80)) (
  tab_cons (eS (st_get h (ci := 7) (k := 1) rfl giX7 (by decide) rfl gw_292 dX7_setRelay_81)) (
  tab_cons (eS (st_iloadn h rfl dX7_setRelay_84)) (
  tab_cons (eS (st_iconst h (by decide +kernel) dX7_setRelay_85)) (
  tab_cons (eO (so_callS h gw_312 gw_313 gw_295 gw_314 ⟨by decide +kernel, by decide +kernel, by decide +kernel⟩ ⟨by decide +kernel, by decide +kernel⟩ dX7_setRelay_86)) (
  tab_cons (eS (st_iload h dX7_setRelay_89)) (
  tab_cons (eO (so_iastore h dX7_setRelay_91)) (
  tab_cons (eS (st_iload h dX7_setRelay_92)) (
  tab_cons (eO (so_ireturn h dX7_setRelay_94)) (
  tab_nil))))))))))))))))))))))
def tX7_setRelay : Tb := tX7_setRelay_0 ++ (tX7_setRelay_1)
theorem kX7_setRelay {X : Ctx} (h : sCx X mX7_setRelay) : tab X mX7_setRelay tX7_setRelay := tab_app (kX7_setRelay_0 h) (kX7_setRelay_1 h)
theorem dX7_setInstantaneous_0 : decode cX7_setInstantaneous 0 = .ok (.aload_n 0, 1) := by decide +kernel
theorem dX7_setInstantaneous_1 : decode cX7_setInstantaneous 1 = .ok (.aload_n 0, 1) := by decide +kernel
theorem dX7_setInstantaneous_2 : decode cX7_setInstantaneous 2 = .ok (.iload_n 1, 1) := by decide +kernel
theorem dX7_setInstantaneous_3 : decode cX7_setInstantaneous 3 = .ok (.invokevirtual 86, 3) := by decide +kernel
theorem dX7_setInstantaneous_6 : decode cX7_setInstantaneous 6 = .ok (.ifCond .eq 17, 3) := by decide +kernel
theorem dX7_setInstantaneous_9 : decode cX7_setInstantaneous 9 = .ok (.iload_n 2, 1) := by decide +kernel
theorem dX7_setInstantaneous_10 : decode cX7_setInstantaneous 10 = .ok (.iconst 0, 1) := by decide +kernel
theorem dX7_setInstantaneous_11 : decode cX7_setInstantaneous 11 = .ok (.ldc 107, 2) := by decide +kernel
theorem dX7_setInstantaneous_13 : decode cX7_setInstantaneous 13 = .ok (.invokestatic 49, 3) := by decide +kernel
theorem dX7_setInstantaneous_16 : decode cX7_setInstantaneous 16 = .ok (.ifCond .eq 7, 3) := by decide +kernel
theorem dX7_setInstantaneous_19 : decode cX7_setInstantaneous 19 = .ok (.iconst 0, 1) := by decide +kernel
theorem dX7_setInstantaneous_20 : decode cX7_setInstantaneous 20 = .ok (.goto 4, 3) := by decide +kernel
theorem dX7_setInstantaneous_23 : decode cX7_setInstantaneous 23 = .ok (.iconst 1, 1) := by decide +kernel
theorem dX7_setInstantaneous_24 : decode cX7_setInstantaneous 24 = .ok (.putfield 45, 3) := by decide +kernel
theorem dX7_setInstantaneous_27 : decode cX7_setInstantaneous 27 = .ok (.aload_n 0, 1) := by decide +kernel
theorem dX7_setInstantaneous_28 : decode cX7_setInstantaneous 28 = .ok (.getfield 45, 3) := by decide +kernel
theorem dX7_setInstantaneous_31 : decode cX7_setInstantaneous 31 = .ok (.ifCond .le 7, 3) := by decide +kernel
theorem dX7_setInstantaneous_34 : decode cX7_setInstantaneous 34 = .ok (.iconst 0, 1) := by decide +kernel
theorem dX7_setInstantaneous_35 : decode cX7_setInstantaneous 35 = .ok (.goto 13, 3) := by decide +kernel
theorem dX7_setInstantaneous_38 : decode cX7_setInstantaneous 38 = .ok (.aload_n 0, 1) := by decide +kernel
theorem dX7_setInstantaneous_39 : decode cX7_setInstantaneous 39 = .ok (.iload_n 1, 1) := by decide +kernel
theorem dX7_setInstantaneous_40 : decode cX7_setInstantaneous 40 = .ok (.iconst 5, 1) := by decide +kernel
theorem dX7_setInstantaneous_41 : decode cX7_setInstantaneous 41 = .ok (.invokestatic 71, 3) := by decide +kernel
theorem dX7_setInstantaneous_44 : decode cX7_setInstantaneous 44 = .ok (.iload_n 2, 1) := by decide +kernel
theorem dX7_setInstantaneous_45 : decode cX7_setInstantaneous 45 = .ok (.invokevirtual 75, 3) := by decide +kernel
theorem dX7_setInstantaneous_48 : decode cX7_setInstantaneous 48 = .ok (.ireturn, 1) := by decide +kernel
def tX7_setInstantaneous_0 : Tb := [(0, .inl (f_aload 0, 1)), (1, .inl (f_aload 0, 2)), (2, .inl (f_iload 1, 3)), (3, .inr (.inr (.inl (13, 6, 2, mX7_isLine)))), (6, .inr (.inl (b_if_eq, 23, 9))), (9, .inl (f_iload 2, 10)), (10, .inl (f_ci (0), 11)), (11, .inl (f_ci (100000), 13)), (13, .inr (.inr (.inl (14, 16, 3, mX7_in)))), (16, .inr (.inl (b_if_eq, 23, 19))), (19, .inl (f_ci (0), 20)), (20, .inl (f_id, 24)), (23, .inl (f_ci (1), 24)), (24, .inl (f_putI 7 0, 27)), (27, .inl (f_aload 0, 28)), (28, .inl (f_get 7 0, 31)), (31, .inr (.inl (b_if_le, 38, 34))), (34, .inl (f_ci (0), 35)), (35, .inl (f_id, 48)), (38, .inl (f_aload 0, 39)), (39, .inl (f_iload 1, 40)), (40, .inl (f_ci (5), 41)), (41, .inr (.inr (.inl (14, 44, 2, mX7_at)))), (44, .inl (f_iload 2, 45)), (45, .inr (.inr (.inl (13, 48, 3, mX7_change)))), (48, .inr (.inr (.inl (15, 49, 0, m0))))]
set_option maxRecDepth 10000 in
theorem kX7_setInstantaneous_0 {X : Ctx} (h : sCx X mX7_setInstantaneous) : tab X mX7_setInstantaneous tX7_setInstantaneous_0 :=
  tab_cons (eS (st_aloadn h rfl dX7_setInstantaneous_0)) (
  tab_cons (eS (st_aloadn h rfl dX7_setInstantaneous_1)) (
  tab_cons (eS (st_iloadn h rfl dX7_setInstantaneous_2)) (
  tab_cons (eO (so_callV h gw_327 gw_328 gw_329 gw_295 gw_330 ⟨by decide +kernel, by decide +kernel, by decide +kernel, by decide +kernel⟩ ⟨by decide +kernel, by decide +kernel⟩ dX7_setInstantaneous_3)) (
  tab_cons (eB (sb_if_eq h dX7_setInstantaneous_6 (by decide))) (
  tab_cons (eS (st_iloadn h rfl dX7_setInstantaneous_9)) (
  tab_cons (eS (st_iconst h (by decide +kernel) dX7_setInstantaneous_10)) (
  tab_cons (eS (st_ldc h gw_349 dX7_setInstantaneous_11)) (
  tab_cons (eO (so_callS h gw_293 gw_294 gw_295 gw_296 ⟨by decide +kernel, by decide +kernel, by decide +kernel⟩ ⟨by decide +kernel, by decide +kernel⟩ dX7_setInstantaneous_13)) (
  tab_cons (eB (sb_if_eq h dX7_setInstantaneous_16 (by decide))) (
  tab_cons (eS (st_iconst h (by decide +kernel) dX7_setInstantaneous_19)) (
  tab_cons (eS (st_goto h dX7_setInstantaneous_20 (by decide))) (
  tab_cons (eS (st_iconst h (by decide +kernel) dX7_setInstantaneous_23)) (
  tab_cons (eS (st_putI h (ci := 7) (k := 0) tyX7 tyX7_ok nmX7 rfl giX7 (by decide) rfl rfl (by decide +kernel) gw_291 dX7_setInstantaneous_24)) (
  tab_cons (eS (st_aloadn h rfl dX7_setInstantaneous_27)) (
  tab_cons (eS (st_get h (ci := 7) (k := 0) rfl giX7 (by decide) rfl gw_291 dX7_setInstantaneous_28)) (
  tab_cons (eB (sb_if_le h dX7_setInstantaneous_31 (by decide))) (
  tab_cons (eS (st_iconst h (by decide +kernel) dX7_setInstantaneous_34)) (
  tab_cons (eS (st_goto h dX7_setInstantaneous_35 (by decide))) (
  tab_cons (eS (st_aloadn h rfl dX7_setInstantaneous_38)) (
  tab_cons (eS (st_iloadn h rfl dX7_setInstantaneous_39)) (
  tab_cons (eS (st_iconst h (by decide +kernel) dX7_setInstantaneous_40)) (
  tab_cons (eO (so_callS h gw_312 gw_313 gw_295 gw_314 ⟨by decide +kernel, by decide +kernel, by decide +kernel⟩ ⟨by decide +kernel, by decide +kernel⟩ dX7_setInstantaneous_41)) (
  tab_cons (eS (st_iloadn h rfl dX7_setInstantaneous_44)) (
  tab_cons (eO (so_callV h gw_315 gw_316 gw_317 gw_295 gw_318 ⟨by decide +kernel, by decide +kernel, by decide +kernel, by decide +kernel⟩ ⟨by decide +kernel, by decide +kernel⟩ dX7_setInstantaneous_45)) (
  tab_cons (eO (so_ireturn h dX7_setInstantaneous_48)) (
  tab_nil))))))))))))))))))))))))))
def tX7_setInstantaneous : Tb := tX7_setInstantaneous_0
theorem kX7_setInstantaneous {X : Ctx} (h : sCx X mX7_setInstantaneous) : tab X mX7_setInstantaneous tX7_setInstantaneous := kX7_setInstantaneous_0 h
theorem dX7_setShots_0 : decode cX7_setShots 0 = .ok (.aload_n 0, 1) := by decide +kernel
theorem dX7_setShots_1 : decode cX7_setShots 1 = .ok (.aload_n 0, 1) := by decide +kernel
theorem dX7_setShots_2 : decode cX7_setShots 2 = .ok (.iload_n 1, 1) := by decide +kernel
theorem dX7_setShots_3 : decode cX7_setShots 3 = .ok (.invokevirtual 86, 3) := by decide +kernel
theorem dX7_setShots_6 : decode cX7_setShots 6 = .ok (.ifCond .eq 16, 3) := by decide +kernel
theorem dX7_setShots_9 : decode cX7_setShots 9 = .ok (.iload_n 2, 1) := by decide +kernel
theorem dX7_setShots_10 : decode cX7_setShots 10 = .ok (.iconst 0, 1) := by decide +kernel
theorem dX7_setShots_11 : decode cX7_setShots 11 = .ok (.iconst 3, 1) := by decide +kernel
theorem dX7_setShots_12 : decode cX7_setShots 12 = .ok (.invokestatic 49, 3) := by decide +kernel
theorem dX7_setShots_15 : decode cX7_setShots 15 = .ok (.ifCond .eq 7, 3) := by decide +kernel
theorem dX7_setShots_18 : decode cX7_setShots 18 = .ok (.iconst 0, 1) := by decide +kernel
theorem dX7_setShots_19 : decode cX7_setShots 19 = .ok (.goto 4, 3) := by decide +kernel
theorem dX7_setShots_22 : decode cX7_setShots 22 = .ok (.iconst 1, 1) := by decide +kernel
theorem dX7_setShots_23 : decode cX7_setShots 23 = .ok (.putfield 45, 3) := by decide +kernel
theorem dX7_setShots_26 : decode cX7_setShots 26 = .ok (.aload_n 0, 1) := by decide +kernel
theorem dX7_setShots_27 : decode cX7_setShots 27 = .ok (.getfield 45, 3) := by decide +kernel
theorem dX7_setShots_30 : decode cX7_setShots 30 = .ok (.ifCond .le 7, 3) := by decide +kernel
theorem dX7_setShots_33 : decode cX7_setShots 33 = .ok (.iconst 0, 1) := by decide +kernel
theorem dX7_setShots_34 : decode cX7_setShots 34 = .ok (.goto 14, 3) := by decide +kernel
theorem dX7_setShots_37 : decode cX7_setShots 37 = .ok (.aload_n 0, 1) := by decide +kernel
theorem dX7_setShots_38 : decode cX7_setShots 38 = .ok (.iload_n 1, 1) := by decide +kernel
theorem dX7_setShots_39 : decode cX7_setShots 39 = .ok (.bipush 6, 2) := by decide +kernel
theorem dX7_setShots_41 : decode cX7_setShots 41 = .ok (.invokestatic 71, 3) := by decide +kernel
theorem dX7_setShots_44 : decode cX7_setShots 44 = .ok (.iload_n 2, 1) := by decide +kernel
theorem dX7_setShots_45 : decode cX7_setShots 45 = .ok (.invokevirtual 75, 3) := by decide +kernel
theorem dX7_setShots_48 : decode cX7_setShots 48 = .ok (.ireturn, 1) := by decide +kernel
def tX7_setShots_0 : Tb := [(0, .inl (f_aload 0, 1)), (1, .inl (f_aload 0, 2)), (2, .inl (f_iload 1, 3)), (3, .inr (.inr (.inl (13, 6, 2, mX7_isLine)))), (6, .inr (.inl (b_if_eq, 22, 9))), (9, .inl (f_iload 2, 10)), (10, .inl (f_ci (0), 11)), (11, .inl (f_ci (3), 12)), (12, .inr (.inr (.inl (14, 15, 3, mX7_in)))), (15, .inr (.inl (b_if_eq, 22, 18))), (18, .inl (f_ci (0), 19)), (19, .inl (f_id, 23)), (22, .inl (f_ci (1), 23)), (23, .inl (f_putI 7 0, 26)), (26, .inl (f_aload 0, 27)), (27, .inl (f_get 7 0, 30)), (30, .inr (.inl (b_if_le, 37, 33))), (33, .inl (f_ci (0), 34)), (34, .inl (f_id, 48)), (37, .inl (f_aload 0, 38)), (38, .inl (f_iload 1, 39)), (39, .inl (f_ci (6), 41)), (41, .inr (.inr (.inl (14, 44, 2, mX7_at)))), (44, .inl (f_iload 2, 45)), (45, .inr (.inr (.inl (13, 48, 3, mX7_change)))), (48, .inr (.inr (.inl (15, 49, 0, m0))))]
set_option maxRecDepth 10000 in
theorem kX7_setShots_0 {X : Ctx} (h : sCx X mX7_setShots) : tab X mX7_setShots tX7_setShots_0 :=
  tab_cons (eS (st_aloadn h rfl dX7_setShots_0)) (
  tab_cons (eS (st_aloadn h rfl dX7_setShots_1)) (
  tab_cons (eS (st_iloadn h rfl dX7_setShots_2)) (
  tab_cons (eO (so_callV h gw_327 gw_328 gw_329 gw_295 gw_330 ⟨by decide +kernel, by decide +kernel, by decide +kernel, by decide +kernel⟩ ⟨by decide +kernel, by decide +kernel⟩ dX7_setShots_3)) (
  tab_cons (eB (sb_if_eq h dX7_setShots_6 (by decide))) (
  tab_cons (eS (st_iloadn h rfl dX7_setShots_9)) (
  tab_cons (eS (st_iconst h (by decide +kernel) dX7_setShots_10)) (
  tab_cons (eS (st_iconst h (by decide +kernel) dX7_setShots_11)) (
  tab_cons (eO (so_callS h gw_293 gw_294 gw_295 gw_296 ⟨by decide +kernel, by decide +kernel, by decide +kernel⟩ ⟨by decide +kernel, by decide +kernel⟩ dX7_setShots_12)) (
  tab_cons (eB (sb_if_eq h dX7_setShots_15 (by decide))) (
  tab_cons (eS (st_iconst h (by decide +kernel) dX7_setShots_18)) (
  tab_cons (eS (st_goto h dX7_setShots_19 (by decide))) (
  tab_cons (eS (st_iconst h (by decide +kernel) dX7_setShots_22)) (
  tab_cons (eS (st_putI h (ci := 7) (k := 0) tyX7 tyX7_ok nmX7 rfl giX7 (by decide) rfl rfl (by decide +kernel) gw_291 dX7_setShots_23)) (
  tab_cons (eS (st_aloadn h rfl dX7_setShots_26)) (
  tab_cons (eS (st_get h (ci := 7) (k := 0) rfl giX7 (by decide) rfl gw_291 dX7_setShots_27)) (
  tab_cons (eB (sb_if_le h dX7_setShots_30 (by decide))) (
  tab_cons (eS (st_iconst h (by decide +kernel) dX7_setShots_33)) (
  tab_cons (eS (st_goto h dX7_setShots_34 (by decide))) (
  tab_cons (eS (st_aloadn h rfl dX7_setShots_37)) (
  tab_cons (eS (st_iloadn h rfl dX7_setShots_38)) (
  tab_cons (eS (st_bipush h (by decide +kernel) dX7_setShots_39)) (
  tab_cons (eO (so_callS h gw_312 gw_313 gw_295 gw_314 ⟨by decide +kernel, by decide +kernel, by decide +kernel⟩ ⟨by decide +kernel, by decide +kernel⟩ dX7_setShots_41)) (
  tab_cons (eS (st_iloadn h rfl dX7_setShots_44)) (
  tab_cons (eO (so_callV h gw_315 gw_316 gw_317 gw_295 gw_318 ⟨by decide +kernel, by decide +kernel, by decide +kernel, by decide +kernel⟩ ⟨by decide +kernel, by decide +kernel⟩ dX7_setShots_45)) (
  tab_cons (eO (so_ireturn h dX7_setShots_48)) (
  tab_nil))))))))))))))))))))))))))
def tX7_setShots : Tb := tX7_setShots_0
theorem kX7_setShots {X : Ctx} (h : sCx X mX7_setShots) : tab X mX7_setShots tX7_setShots := kX7_setShots_0 h
theorem dX7_setStuck_0 : decode cX7_setStuck 0 = .ok (.aload_n 0, 1) := by decide +kernel
theorem dX7_setStuck_1 : decode cX7_setStuck 1 = .ok (.aload_n 0, 1) := by decide +kernel
theorem dX7_setStuck_2 : decode cX7_setStuck 2 = .ok (.iload_n 1, 1) := by decide +kernel
theorem dX7_setStuck_3 : decode cX7_setStuck 3 = .ok (.invokevirtual 86, 3) := by decide +kernel
theorem dX7_setStuck_6 : decode cX7_setStuck 6 = .ok (.ifCond .eq 7, 3) := by decide +kernel
theorem dX7_setStuck_9 : decode cX7_setStuck 9 = .ok (.iconst 0, 1) := by decide +kernel
theorem dX7_setStuck_10 : decode cX7_setStuck 10 = .ok (.goto 4, 3) := by decide +kernel
theorem dX7_setStuck_13 : decode cX7_setStuck 13 = .ok (.iconst 1, 1) := by decide +kernel
theorem dX7_setStuck_14 : decode cX7_setStuck 14 = .ok (.putfield 45, 3) := by decide +kernel
theorem dX7_setStuck_17 : decode cX7_setStuck 17 = .ok (.aload_n 0, 1) := by decide +kernel
theorem dX7_setStuck_18 : decode cX7_setStuck 18 = .ok (.getfield 45, 3) := by decide +kernel
theorem dX7_setStuck_21 : decode cX7_setStuck 21 = .ok (.ifCond .ne 30, 3) := by decide +kernel
theorem dX7_setStuck_24 : decode cX7_setStuck 24 = .ok (.aload_n 0, 1) := by decide +kernel
theorem dX7_setStuck_25 : decode cX7_setStuck 25 = .ok (.iload_n 1, 1) := by decide +kernel
theorem dX7_setStuck_26 : decode cX7_setStuck 26 = .ok (.bipush 7, 2) := by decide +kernel
theorem dX7_setStuck_28 : decode cX7_setStuck 28 = .ok (.invokestatic 71, 3) := by decide +kernel
theorem dX7_setStuck_31 : decode cX7_setStuck 31 = .ok (.iload_n 2, 1) := by decide +kernel
theorem dX7_setStuck_32 : decode cX7_setStuck 32 = .ok (.ifCond .eq 7, 3) := by decide +kernel
theorem dX7_setStuck_35 : decode cX7_setStuck 35 = .ok (.iconst 1, 1) := by decide +kernel
theorem dX7_setStuck_36 : decode cX7_setStuck 36 = .ok (.goto 4, 3) := by decide +kernel
theorem dX7_setStuck_39 : decode cX7_setStuck 39 = .ok (.iconst 0, 1) := by decide +kernel
theorem dX7_setStuck_40 : decode cX7_setStuck 40 = .ok (.invokevirtual 75, 3) := by decide +kernel
theorem dX7_setStuck_43 : decode cX7_setStuck 43 = .ok (.iconst 1, 1) := by decide +kernel
theorem dX7_setStuck_44 : decode cX7_setStuck 44 = .ok (.if_icmp .ne 7, 3) := by decide +kernel
theorem dX7_setStuck_47 : decode cX7_setStuck 47 = .ok (.iconst 1, 1) := by decide +kernel
theorem dX7_setStuck_48 : decode cX7_setStuck 48 = .ok (.goto 4, 3) := by decide +kernel
theorem dX7_setStuck_51 : decode cX7_setStuck 51 = .ok (.iconst 0, 1) := by decide +kernel
theorem dX7_setStuck_52 : decode cX7_setStuck 52 = .ok (.ireturn, 1) := by decide +kernel
def tX7_setStuck_0 : Tb := [(0, .inl (f_aload 0, 1)), (1, .inl (f_aload 0, 2)), (2, .inl (f_iload 1, 3)), (3, .inr (.inr (.inl (13, 6, 2, mX7_isLine)))), (6, .inr (.inl (b_if_eq, 13, 9))), (9, .inl (f_ci (0), 10)), (10, .inl (f_id, 14)), (13, .inl (f_ci (1), 14)), (14, .inl (f_putI 7 0, 17)), (17, .inl (f_aload 0, 18)), (18, .inl (f_get 7 0, 21)), (21, .inr (.inl (b_if_eq, 24, 51))), (24, .inl (f_aload 0, 25)), (25, .inl (f_iload 1, 26)), (26, .inl (f_ci (7), 28)), (28, .inr (.inr (.inl (14, 31, 2, mX7_at)))), (31, .inl (f_iload 2, 32)), (32, .inr (.inl (b_if_eq, 39, 35))), (35, .inl (f_ci (1), 36)), (36, .inl (f_id, 40)), (39, .inl (f_ci (0), 40)), (40, .inr (.inr (.inl (13, 43, 3, mX7_change)))), (43, .inl (f_ci (1), 44)), (44, .inr (.inl (b_icmp_eq, 47, 51))), (47, .inl (f_ci (1), 48)), (48, .inl (f_id, 52)), (51, .inl (f_ci (0), 52)), (52, .inr (.inr (.inl (15, 53, 0, m0))))]
set_option maxRecDepth 10000 in
theorem kX7_setStuck_0 {X : Ctx} (h : sCx X mX7_setStuck) : tab X mX7_setStuck tX7_setStuck_0 :=
  tab_cons (eS (st_aloadn h rfl dX7_setStuck_0)) (
  tab_cons (eS (st_aloadn h rfl dX7_setStuck_1)) (
  tab_cons (eS (st_iloadn h rfl dX7_setStuck_2)) (
  tab_cons (eO (so_callV h gw_327 gw_328 gw_329 gw_295 gw_330 ⟨by decide +kernel, by decide +kernel, by decide +kernel, by decide +kernel⟩ ⟨by decide +kernel, by decide +kernel⟩ dX7_setStuck_3)) (
  tab_cons (eB (sb_if_eq h dX7_setStuck_6 (by decide))) (
  tab_cons (eS (st_iconst h (by decide +kernel) dX7_setStuck_9)) (
  tab_cons (eS (st_goto h dX7_setStuck_10 (by decide))) (
  tab_cons (eS (st_iconst h (by decide +kernel) dX7_setStuck_13)) (
  tab_cons (eS (st_putI h (ci := 7) (k := 0) tyX7 tyX7_ok nmX7 rfl giX7 (by decide) rfl rfl (by decide +kernel) gw_291 dX7_setStuck_14)) (
  tab_cons (eS (st_aloadn h rfl dX7_setStuck_17)) (
  tab_cons (eS (st_get h (ci := 7) (k := 0) rfl giX7 (by decide) rfl gw_291 dX7_setStuck_18)) (
  tab_cons (eB (sb_if_ne h dX7_setStuck_21 (by decide))) (
  tab_cons (eS (st_aloadn h rfl dX7_setStuck_24)) (
  tab_cons (eS (st_iloadn h rfl dX7_setStuck_25)) (
  tab_cons (eS (st_bipush h (by decide +kernel) dX7_setStuck_26)) (
  tab_cons (eO (so_callS h gw_312 gw_313 gw_295 gw_314 ⟨by decide +kernel, by decide +kernel, by decide +kernel⟩ ⟨by decide +kernel, by decide +kernel⟩ dX7_setStuck_28)) (
  tab_cons (eS (st_iloadn h rfl dX7_setStuck_31)) (
  tab_cons (eB (sb_if_eq h dX7_setStuck_32 (by decide))) (
  tab_cons (eS (st_iconst h (by decide +kernel) dX7_setStuck_35)) (
  tab_cons (eS (st_goto h dX7_setStuck_36 (by decide))) (
  tab_cons (eS (st_iconst h (by decide +kernel) dX7_setStuck_39)) (
  tab_cons (eO (so_callV h gw_315 gw_316 gw_317 gw_295 gw_318 ⟨by decide +kernel, by decide +kernel, by decide +kernel, by decide +kernel⟩ ⟨by decide +kernel, by decide +kernel⟩ dX7_setStuck_40)) (
  tab_cons (eS (st_iconst h (by decide +kernel) dX7_setStuck_43)) (
  tab_cons (eB (sb_icmp_ne h dX7_setStuck_44 (by decide))) (
  tab_cons (eS (st_iconst h (by decide +kernel) dX7_setStuck_47)) (
  tab_cons (eS (st_goto h dX7_setStuck_48 (by decide))) (
  tab_cons (eS (st_iconst h (by decide +kernel) dX7_setStuck_51)) (
  tab_cons (eO (so_ireturn h dX7_setStuck_52)) (
  tab_nil))))))))))))))))))))))))))))
def tX7_setStuck : Tb := tX7_setStuck_0
theorem kX7_setStuck {X : Ctx} (h : sCx X mX7_setStuck) : tab X mX7_setStuck tX7_setStuck := kX7_setStuck_0 h
theorem dX7_told_0 : decode cX7_told 0 = .ok (.aload_n 0, 1) := by decide +kernel
theorem dX7_told_1 : decode cX7_told 1 = .ok (.aload_n 0, 1) := by decide +kernel
theorem dX7_told_2 : decode cX7_told 2 = .ok (.iload_n 1, 1) := by decide +kernel
theorem dX7_told_3 : decode cX7_told 3 = .ok (.invokevirtual 86, 3) := by decide +kernel
theorem dX7_told_6 : decode cX7_told 6 = .ok (.ifCond .eq 7, 3) := by decide +kernel
theorem dX7_told_9 : decode cX7_told 9 = .ok (.iconst 0, 1) := by decide +kernel
theorem dX7_told_10 : decode cX7_told 10 = .ok (.goto 4, 3) := by decide +kernel
theorem dX7_told_13 : decode cX7_told 13 = .ok (.iconst 1, 1) := by decide +kernel
theorem dX7_told_14 : decode cX7_told 14 = .ok (.putfield 45, 3) := by decide +kernel
theorem dX7_told_17 : decode cX7_told 17 = .ok (.aload_n 0, 1) := by decide +kernel
theorem dX7_told_18 : decode cX7_told 18 = .ok (.getfield 45, 3) := by decide +kernel
theorem dX7_told_21 : decode cX7_told 21 = .ok (.ifCond .le 7, 3) := by decide +kernel
theorem dX7_told_24 : decode cX7_told 24 = .ok (.iconst 0, 1) := by decide +kernel
theorem dX7_told_25 : decode cX7_told 25 = .ok (.goto 13, 3) := by decide +kernel
theorem dX7_told_28 : decode cX7_told 28 = .ok (.aload_n 0, 1) := by decide +kernel
theorem dX7_told_29 : decode cX7_told 29 = .ok (.getfield 7, 3) := by decide +kernel
theorem dX7_told_32 : decode cX7_told 32 = .ok (.iload_n 1, 1) := by decide +kernel
theorem dX7_told_33 : decode cX7_told 33 = .ok (.iload_n 2, 1) := by decide +kernel
theorem dX7_told_34 : decode cX7_told 34 = .ok (.invokestatic 71, 3) := by decide +kernel
theorem dX7_told_37 : decode cX7_told 37 = .ok (.iaload, 1) := by decide +kernel
theorem dX7_told_38 : decode cX7_told 38 = .ok (.ireturn, 1) := by decide +kernel
def tX7_told_0 : Tb := [(0, .inl (f_aload 0, 1)), (1, .inl (f_aload 0, 2)), (2, .inl (f_iload 1, 3)), (3, .inr (.inr (.inl (13, 6, 2, mX7_isLine)))), (6, .inr (.inl (b_if_eq, 13, 9))), (9, .inl (f_ci (0), 10)), (10, .inl (f_id, 14)), (13, .inl (f_ci (1), 14)), (14, .inl (f_putI 7 0, 17)), (17, .inl (f_aload 0, 18)), (18, .inl (f_get 7 0, 21)), (21, .inr (.inl (b_if_le, 28, 24))), (24, .inl (f_ci (0), 25)), (25, .inl (f_id, 38)), (28, .inl (f_aload 0, 29)), (29, .inl (f_get 7 1, 32)), (32, .inl (f_iload 1, 33)), (33, .inl (f_iload 2, 34)), (34, .inr (.inr (.inl (14, 37, 2, mX7_at)))), (37, .inr (.inr (.inl (0, 38, 0, m0)))), (38, .inr (.inr (.inl (15, 39, 0, m0))))]
set_option maxRecDepth 10000 in
theorem kX7_told_0 {X : Ctx} (h : sCx X mX7_told) : tab X mX7_told tX7_told_0 :=
  tab_cons (eS (st_aloadn h rfl dX7_told_0)) (
  tab_cons (eS (st_aloadn h rfl dX7_told_1)) (
  tab_cons (eS (st_iloadn h rfl dX7_told_2)) (
  tab_cons (eO (so_callV h gw_327 gw_328 gw_329 gw_295 gw_330 ⟨by decide +kernel, by decide +kernel, by decide +kernel, by decide +kernel⟩ ⟨by decide +kernel, by decide +kernel⟩ dX7_told_3)) (
  tab_cons (eB (sb_if_eq h dX7_told_6 (by decide))) (
  tab_cons (eS (st_iconst h (by decide +kernel) dX7_told_9)) (
  tab_cons (eS (st_goto h dX7_told_10 (by decide))) (
  tab_cons (eS (st_iconst h (by decide +kernel) dX7_told_13)) (
  tab_cons (eS (st_putI h (ci := 7) (k := 0) tyX7 tyX7_ok nmX7 rfl giX7 (by decide) rfl rfl (by decide +kernel) gw_291 dX7_told_14)) (
  tab_cons (eS (st_aloadn h rfl dX7_told_17)) (
  tab_cons (eS (st_get h (ci := 7) (k := 0) rfl giX7 (by decide) rfl gw_291 dX7_told_18)) (
  tab_cons (eB (sb_if_le h dX7_told_21 (by decide))) (
  tab_cons (eS (st_iconst h (by decide +kernel) dX7_told_24)) (
  tab_cons (eS (st_goto h dX7_told_25 (by decide))) (
  tab_cons (eS (st_aloadn h rfl dX7_told_28)) (
  tab_cons (eS (st_get h (ci := 7) (k := 1) rfl giX7 (by decide) rfl gw_292 dX7_told_29)) (
  tab_cons (eS (st_iloadn h rfl dX7_told_32)) (
  tab_cons (eS (st_iloadn h rfl dX7_told_33)) (
  tab_cons (eO (so_callS h gw_312 gw_313 gw_295 gw_314 ⟨by decide +kernel, by decide +kernel, by decide +kernel⟩ ⟨by decide +kernel, by decide +kernel⟩ dX7_told_34)) (
  tab_cons (eO (so_iaload h dX7_told_37)) (
  tab_cons (eO (so_ireturn h dX7_told_38)) (
  tab_nil)))))))))))))))))))))
def tX7_told : Tb := tX7_told_0
theorem kX7_told {X : Ctx} (h : sCx X mX7_told) : tab X mX7_told tX7_told := kX7_told_0 h
theorem dX7_pickup_0 : decode cX7_pickup 0 = .ok (.aload_n 0, 1) := by decide +kernel
theorem dX7_pickup_1 : decode cX7_pickup 1 = .ok (.iload_n 1, 1) := by decide +kernel
theorem dX7_pickup_2 : decode cX7_pickup 2 = .ok (.iconst 2, 1) := by decide +kernel
theorem dX7_pickup_3 : decode cX7_pickup 3 = .ok (.invokevirtual 108, 3) := by decide +kernel
theorem dX7_pickup_6 : decode cX7_pickup 6 = .ok (.ireturn, 1) := by decide +kernel
def tX7_pickup_0 : Tb := [(0, .inl (f_aload 0, 1)), (1, .inl (f_iload 1, 2)), (2, .inl (f_ci (2), 3)), (3, .inr (.inr (.inl (13, 6, 3, mX7_told)))), (6, .inr (.inr (.inl (15, 7, 0, m0))))]
set_option maxRecDepth 10000 in
theorem kX7_pickup_0 {X : Ctx} (h : sCx X mX7_pickup) : tab X mX7_pickup tX7_pickup_0 :=
  tab_cons (eS (st_aloadn h rfl dX7_pickup_0)) (
  tab_cons (eS (st_iloadn h rfl dX7_pickup_1)) (
  tab_cons (eS (st_iconst h (by decide +kernel) dX7_pickup_2)) (
  tab_cons (eO (so_callV h gw_350 gw_351 gw_352 gw_295 gw_353 ⟨by decide +kernel, by decide +kernel, by decide +kernel, by decide +kernel⟩ ⟨by decide +kernel, by decide +kernel⟩ dX7_pickup_3)) (
  tab_cons (eO (so_ireturn h dX7_pickup_6)) (
  tab_nil)))))
def tX7_pickup : Tb := tX7_pickup_0
theorem kX7_pickup {X : Ctx} (h : sCx X mX7_pickup) : tab X mX7_pickup tX7_pickup := kX7_pickup_0 h
theorem dX7_steps_0 : decode cX7_steps 0 = .ok (.aload_n 0, 1) := by decide +kernel
theorem dX7_steps_1 : decode cX7_steps 1 = .ok (.iload_n 1, 1) := by decide +kernel
theorem dX7_steps_2 : decode cX7_steps 2 = .ok (.iconst 4, 1) := by decide +kernel
theorem dX7_steps_3 : decode cX7_steps 3 = .ok (.invokevirtual 108, 3) := by decide +kernel
theorem dX7_steps_6 : decode cX7_steps 6 = .ok (.ireturn, 1) := by decide +kernel
def tX7_steps_0 : Tb := [(0, .inl (f_aload 0, 1)), (1, .inl (f_iload 1, 2)), (2, .inl (f_ci (4), 3)), (3, .inr (.inr (.inl (13, 6, 3, mX7_told)))), (6, .inr (.inr (.inl (15, 7, 0, m0))))]
set_option maxRecDepth 10000 in
theorem kX7_steps_0 {X : Ctx} (h : sCx X mX7_steps) : tab X mX7_steps tX7_steps_0 :=
  tab_cons (eS (st_aloadn h rfl dX7_steps_0)) (
  tab_cons (eS (st_iloadn h rfl dX7_steps_1)) (
  tab_cons (eS (st_iconst h (by decide +kernel) dX7_steps_2)) (
  tab_cons (eO (so_callV h gw_350 gw_351 gw_352 gw_295 gw_353 ⟨by decide +kernel, by decide +kernel, by decide +kernel, by decide +kernel⟩ ⟨by decide +kernel, by decide +kernel⟩ dX7_steps_3)) (
  tab_cons (eO (so_ireturn h dX7_steps_6)) (
  tab_nil)))))
def tX7_steps : Tb := tX7_steps_0
theorem kX7_steps {X : Ctx} (h : sCx X mX7_steps) : tab X mX7_steps tX7_steps := kX7_steps_0 h
theorem dX7_upstream_0 : decode cX7_upstream 0 = .ok (.aload_n 0, 1) := by decide +kernel
theorem dX7_upstream_1 : decode cX7_upstream 1 = .ok (.iload_n 1, 1) := by decide +kernel
theorem dX7_upstream_2 : decode cX7_upstream 2 = .ok (.iconst 0, 1) := by decide +kernel
theorem dX7_upstream_3 : decode cX7_upstream 3 = .ok (.invokevirtual 108, 3) := by decide +kernel
theorem dX7_upstream_6 : decode cX7_upstream 6 = .ok (.istore_n 2, 1) := by decide +kernel
theorem dX7_upstream_7 : decode cX7_upstream 7 = .ok (.aload_n 0, 1) := by decide +kernel
theorem dX7_upstream_8 : decode cX7_upstream 8 = .ok (.getfield 45, 3) := by decide +kernel
theorem dX7_upstream_11 : decode cX7_upstream 11 = .ok (.ifCond .le 7, 3) := by decide +kernel
theorem dX7_upstream_14 : decode cX7_upstream 14 = .ok (.iconst 0, 1) := by decide +kernel
theorem dX7_upstream_15 : decode cX7_upstream 15 = .ok (.goto 14, 3) := by decide +kernel
theorem dX7_upstream_18 : decode cX7_upstream 18 = .ok (.iload_n 2, 1) := by decide +kernel
theorem dX7_upstream_19 : decode cX7_upstream 19 = .ok (.ifCond .ne 7, 3) := by decide +kernel
theorem dX7_upstream_22 : decode cX7_upstream 22 = .ok (.iconst (-1), 1) := by decide +kernel
theorem dX7_upstream_23 : decode cX7_upstream 23 = .ok (.goto 6, 3) := by decide +kernel
theorem dX7_upstream_26 : decode cX7_upstream 26 = .ok (.iload_n 2, 1) := by decide +kernel
theorem dX7_upstream_27 : decode cX7_upstream 27 = .ok (.iconst 1, 1) := by decide +kernel
theorem dX7_upstream_28 : decode cX7_upstream 28 = .ok (.isub, 1) := by decide +kernel
theorem dX7_upstream_29 : decode cX7_upstream 29 = .ok (.ireturn, 1) := by decide +kernel
def tX7_upstream_0 : Tb := [(0, .inl (f_aload 0, 1)), (1, .inl (f_iload 1, 2)), (2, .inl (f_ci (0), 3)), (3, .inr (.inr (.inl (13, 6, 3, mX7_told)))), (6, .inl (f_istore 3 2, 7)), (7, .inl (f_aload 0, 8)), (8, .inl (f_get 7 0, 11)), (11, .inr (.inl (b_if_le, 18, 14))), (14, .inl (f_ci (0), 15)), (15, .inl (f_id, 29)), (18, .inl (f_iload 2, 19)), (19, .inr (.inl (b_if_eq, 22, 26))), (22, .inl (f_ci (-1), 23)), (23, .inl (f_id, 29)), (26, .inl (f_iload 2, 27)), (27, .inl (f_ci (1), 28)), (28, .inl (f_isub, 29)), (29, .inr (.inr (.inl (15, 30, 0, m0))))]
set_option maxRecDepth 10000 in
theorem kX7_upstream_0 {X : Ctx} (h : sCx X mX7_upstream) : tab X mX7_upstream tX7_upstream_0 :=
  tab_cons (eS (st_aloadn h rfl dX7_upstream_0)) (
  tab_cons (eS (st_iloadn h rfl dX7_upstream_1)) (
  tab_cons (eS (st_iconst h (by decide +kernel) dX7_upstream_2)) (
  tab_cons (eO (so_callV h gw_350 gw_351 gw_352 gw_295 gw_353 ⟨by decide +kernel, by decide +kernel, by decide +kernel, by decide +kernel⟩ ⟨by decide +kernel, by decide +kernel⟩ dX7_upstream_3)) (
  tab_cons (eS (st_istoren h rfl dX7_upstream_6)) (
  tab_cons (eS (st_aloadn h rfl dX7_upstream_7)) (
  tab_cons (eS (st_get h (ci := 7) (k := 0) rfl giX7 (by decide) rfl gw_291 dX7_upstream_8)) (
  tab_cons (eB (sb_if_le h dX7_upstream_11 (by decide))) (
  tab_cons (eS (st_iconst h (by decide +kernel) dX7_upstream_14)) (
  tab_cons (eS (st_goto h dX7_upstream_15 (by decide))) (
  tab_cons (eS (st_iloadn h rfl dX7_upstream_18)) (
  tab_cons (eB (sb_if_ne h dX7_upstream_19 (by decide))) (
  tab_cons (eS (st_iconst h (by decide +kernel) dX7_upstream_22)) (
  tab_cons (eS (st_goto h dX7_upstream_23 (by decide))) (
  tab_cons (eS (st_iloadn h rfl dX7_upstream_26)) (
  tab_cons (eS (st_iconst h (by decide +kernel) dX7_upstream_27)) (
  tab_cons (eS (st_isub h dX7_upstream_28)) (
  tab_cons (eO (so_ireturn h dX7_upstream_29)) (
  tab_nil))))))))))))))))))
def tX7_upstream : Tb := tX7_upstream_0
theorem kX7_upstream {X : Ctx} (h : sCx X mX7_upstream) : tab X mX7_upstream tX7_upstream := kX7_upstream_0 h
theorem dX7_timeOf_0 : decode cX7_timeOf 0 = .ok (.aload_n 0, 1) := by decide +kernel
theorem dX7_timeOf_1 : decode cX7_timeOf 1 = .ok (.getfield 7, 3) := by decide +kernel
theorem dX7_timeOf_4 : decode cX7_timeOf 4 = .ok (.iload_n 1, 1) := by decide +kernel
theorem dX7_timeOf_5 : decode cX7_timeOf 5 = .ok (.iconst 5, 1) := by decide +kernel
theorem dX7_timeOf_6 : decode cX7_timeOf 6 = .ok (.invokestatic 71, 3) := by decide +kernel
theorem dX7_timeOf_9 : decode cX7_timeOf 9 = .ok (.iaload, 1) := by decide +kernel
theorem dX7_timeOf_10 : decode cX7_timeOf 10 = .ok (.istore 4, 2) := by decide +kernel
theorem dX7_timeOf_12 : decode cX7_timeOf 12 = .ok (.iload 4, 2) := by decide +kernel
theorem dX7_timeOf_14 : decode cX7_timeOf 14 = .ok (.ifCond .le 15, 3) := by decide +kernel
theorem dX7_timeOf_17 : decode cX7_timeOf 17 = .ok (.dload_n 2, 1) := by decide +kernel
theorem dX7_timeOf_18 : decode cX7_timeOf 18 = .ok (.iload 4, 2) := by decide +kernel
theorem dX7_timeOf_20 : decode cX7_timeOf 20 = .ok (.i2d, 1) := by decide +kernel
theorem dX7_timeOf_21 : decode cX7_timeOf 21 = .ok (.dcmp .l, 1) := by decide +kernel
theorem dX7_timeOf_22 : decode cX7_timeOf 22 = .ok (.ifCond .lt 7, 3) := by decide +kernel
theorem dX7_timeOf_25 : decode cX7_timeOf 25 = .ok (.ldc2_w 111, 3) := by decide +kernel
theorem dX7_timeOf_28 : decode cX7_timeOf 28 = .ok (.dreturn, 1) := by decide +kernel
theorem dX7_timeOf_29 : decode cX7_timeOf 29 = .ok (.dload_n 2, 1) := by decide +kernel
theorem dX7_timeOf_30 : decode cX7_timeOf 30 = .ok (.aload_n 0, 1) := by decide +kernel
theorem dX7_timeOf_31 : decode cX7_timeOf 31 = .ok (.getfield 7, 3) := by decide +kernel
theorem dX7_timeOf_34 : decode cX7_timeOf 34 = .ok (.iload_n 1, 1) := by decide +kernel
theorem dX7_timeOf_35 : decode cX7_timeOf 35 = .ok (.iconst 2, 1) := by decide +kernel
theorem dX7_timeOf_36 : decode cX7_timeOf 36 = .ok (.invokestatic 71, 3) := by decide +kernel
theorem dX7_timeOf_39 : decode cX7_timeOf 39 = .ok (.iaload, 1) := by decide +kernel
theorem dX7_timeOf_40 : decode cX7_timeOf 40 = .ok (.i2d, 1) := by decide +kernel
theorem dX7_timeOf_41 : decode cX7_timeOf 41 = .ok (.ddiv, 1) := by decide +kernel
theorem dX7_timeOf_42 : decode cX7_timeOf 42 = .ok (.dstore 5, 2) := by decide +kernel
theorem dX7_timeOf_44 : decode cX7_timeOf 44 = .ok (.dload 5, 2) := by decide +kernel
theorem dX7_timeOf_46 : decode cX7_timeOf 46 = .ok (.dconst 1, 1) := by decide +kernel
theorem dX7_timeOf_47 : decode cX7_timeOf 47 = .ok (.dcmp .l, 1) := by decide +kernel
theorem dX7_timeOf_48 : decode cX7_timeOf 48 = .ok (.ifCond .gt 7, 3) := by decide +kernel
theorem dX7_timeOf_51 : decode cX7_timeOf 51 = .ok (.ldc2_w 113, 3) := by decide +kernel
theorem dX7_timeOf_54 : decode cX7_timeOf 54 = .ok (.dreturn, 1) := by decide +kernel
theorem dX7_timeOf_55 : decode cX7_timeOf 55 = .ok (.ldc2_w 115, 3) := by decide +kernel
theorem dX7_timeOf_58 : decode cX7_timeOf 58 = .ok (.aload_n 0, 1) := by decide +kernel
theorem dX7_timeOf_59 : decode cX7_timeOf 59 = .ok (.getfield 7, 3) := by decide +kernel
theorem dX7_timeOf_62 : decode cX7_timeOf 62 = .ok (.iload_n 1, 1) := by decide +kernel
theorem dX7_timeOf_63 : decode cX7_timeOf 63 = .ok (.iconst 4, 1) := by decide +kernel
theorem dX7_timeOf_64 : decode cX7_timeOf 64 = .ok (.invokestatic 71, 3) := by decide +kernel
theorem dX7_timeOf_67 : decode cX7_timeOf 67 = .ok (.iaload, 1) := by decide +kernel
theorem dX7_timeOf_68 : decode cX7_timeOf 68 = .ok (.i2d, 1) := by decide +kernel
theorem dX7_timeOf_69 : decode cX7_timeOf 69 = .ok (.dmul, 1) := by decide +kernel
theorem dX7_timeOf_70 : decode cX7_timeOf 70 = .ok (.dstore 7, 2) := by decide +kernel
theorem dX7_timeOf_72 : decode cX7_timeOf 72 = .ok (.aload_n 0, 1) := by decide +kernel
theorem dX7_timeOf_73 : decode cX7_timeOf 73 = .ok (.getfield 7, 3) := by decide +kernel
theorem dX7_timeOf_76 : decode cX7_timeOf 76 = .ok (.iload_n 1, 1) := by decide +kernel
theorem dX7_timeOf_77 : decode cX7_timeOf 77 = .ok (.iconst 3, 1) := by decide +kernel
theorem dX7_timeOf_78 : decode cX7_timeOf 78 = .ok (.invokestatic 71, 3) := by decide +kernel
theorem dX7_timeOf_81 : decode cX7_timeOf 81 = .ok (.iaload, 1) := by decide +kernel
theorem dX7_timeOf_82 : decode cX7_timeOf 82 = .ok (.tableswitch 56 0 2 #[26, 29, 41], 26) := by decide +kernel
theorem dX7_timeOf_108 : decode cX7_timeOf 108 = .ok (.dload 7, 2) := by decide +kernel
theorem dX7_timeOf_110 : decode cX7_timeOf 110 = .ok (.dreturn, 1) := by decide +kernel
theorem dX7_timeOf_111 : decode cX7_timeOf 111 = .ok (.dload 7, 2) := by decide +kernel
theorem dX7_timeOf_113 : decode cX7_timeOf 113 = .ok (.ldc2_w 117, 3) := by decide +kernel
theorem dX7_timeOf_116 : decode cX7_timeOf 116 = .ok (.dmul, 1) := by decide +kernel
theorem dX7_timeOf_117 : decode cX7_timeOf 117 = .ok (.dload 5, 2) := by decide +kernel
theorem dX7_timeOf_119 : decode cX7_timeOf 119 = .ok (.dconst 1, 1) := by decide +kernel
theorem dX7_timeOf_120 : decode cX7_timeOf 120 = .ok (.dsub, 1) := by decide +kernel
theorem dX7_timeOf_121 : decode cX7_timeOf 121 = .ok (.ddiv, 1) := by decide +kernel
theorem dX7_timeOf_122 : decode cX7_timeOf 122 = .ok (.dreturn, 1) := by decide +kernel
theorem dX7_timeOf_123 : decode cX7_timeOf 123 = .ok (.dload 7, 2) := by decide +kernel
theorem dX7_timeOf_125 : decode cX7_timeOf 125 = .ok (.ldc2_w 119, 3) := by decide +kernel
theorem dX7_timeOf_128 : decode cX7_timeOf 128 = .ok (.dmul, 1) := by decide +kernel
theorem dX7_timeOf_129 : decode cX7_timeOf 129 = .ok (.dload 5, 2) := by decide +kernel
theorem dX7_timeOf_131 : decode cX7_timeOf 131 = .ok (.dload 5, 2) := by decide +kernel
theorem dX7_timeOf_133 : decode cX7_timeOf 133 = .ok (.dmul, 1) := by decide +kernel
theorem dX7_timeOf_134 : decode cX7_timeOf 134 = .ok (.dconst 1, 1) := by decide +kernel
theorem dX7_timeOf_135 : decode cX7_timeOf 135 = .ok (.dsub, 1) := by decide +kernel
theorem dX7_timeOf_136 : decode cX7_timeOf 136 = .ok (.ddiv, 1) := by decide +kernel
theorem dX7_timeOf_137 : decode cX7_timeOf 137 = .ok (.dreturn, 1) := by decide +kernel
theorem dX7_timeOf_138 : decode cX7_timeOf 138 = .ok (.dload 7, 2) := by decide +kernel
theorem dX7_timeOf_140 : decode cX7_timeOf 140 = .ok (.ldc2_w 121, 3) := by decide +kernel
theorem dX7_timeOf_143 : decode cX7_timeOf 143 = .ok (.dmul, 1) := by decide +kernel
theorem dX7_timeOf_144 : decode cX7_timeOf 144 = .ok (.dload 5, 2) := by decide +kernel
theorem dX7_timeOf_146 : decode cX7_timeOf 146 = .ok (.dconst 1, 1) := by decide +kernel
theorem dX7_timeOf_147 : decode cX7_timeOf 147 = .ok (.dsub, 1) := by decide +kernel
theorem dX7_timeOf_148 : decode cX7_timeOf 148 = .ok (.ddiv, 1) := by decide +kernel
theorem dX7_timeOf_149 : decode cX7_timeOf 149 = .ok (.dreturn, 1) := by decide +kernel
def tX7_timeOf_0 : Tb := [(0, .inl (f_aload 0, 1)), (1, .inl (f_get 7 1, 4)), (4, .inl (f_iload 1, 5)), (5, .inl (f_ci (5), 6)), (6, .inr (.inr (.inl (14, 9, 2, mX7_at)))), (9, .inr (.inr (.inl (0, 10, 0, m0)))), (10, .inl (f_istore 9 4, 12)), (12, .inl (f_iload 4, 14)), (14, .inr (.inl (b_if_le, 29, 17))), (17, .inl (f_dload 2, 18)), (18, .inl (f_iload 4, 20)), (20, .inl (f_i2d, 21)), (21, .inl (f_dcmpl, 22)), (22, .inr (.inl (b_if_lt, 29, 25))), (25, .inl (f_cd 4585925428558828667, 28)), (28, .inr (.inr (.inl (16, 29, 0, m0)))), (29, .inl (f_dload 2, 30)), (30, .inl (f_aload 0, 31)), (31, .inl (f_get 7 1, 34)), (34, .inl (f_iload 1, 35)), (35, .inl (f_ci (2), 36)), (36, .inr (.inr (.inl (14, 39, 2, mX7_at)))), (39, .inr (.inr (.inl (0, 40, 0, m0)))), (40, .inl (f_i2d, 41)), (41, .inr (.inr (.inl (10, 42, 0, m0)))), (42, .inl (f_dstore 9 5, 44)), (44, .inl (f_dload 5, 46)), (46, .inl (f_cd 4607182418800017408, 47)), (47, .inl (f_dcmpl, 48)), (48, .inr (.inl (b_if_gt, 55, 51)))]
set_option maxRecDepth 10000 in
theorem kX7_timeOf_0 {X : Ctx} (h : sCx X mX7_timeOf) : tab X mX7_timeOf tX7_timeOf_0 :=
  tab_cons (eS (st_aloadn h rfl dX7_timeOf_0)) (
  tab_cons (eS (st_get h (ci := 7) (k := 1) rfl giX7 (by decide) rfl gw_292 dX7_timeOf_1)) (
  tab_cons (eS (st_iloadn h rfl dX7_timeOf_4)) (
  tab_cons (eS (st_iconst h (by decide +kernel) dX7_timeOf_5)) (
  tab_cons (eO (so_callS h gw_312 gw_313 gw_295 gw_314 ⟨by decide +kernel, by decide +kernel, by decide +kernel⟩ ⟨by decide +kernel, by decide +kernel⟩ dX7_timeOf_6)) (
  tab_cons (eO (so_iaload h dX7_timeOf_9)) (
  tab_cons (eS (st_istore h dX7_timeOf_10)) (
  tab_cons (eS (st_iload h dX7_timeOf_12)) (
  tab_cons (eB (sb_if_le h dX7_timeOf_14 (by decide))) (
  tab_cons (eS (st_dloadn h rfl dX7_timeOf_17)) (
  tab_cons (eS (st_iload h dX7_timeOf_18)) (
  tab_cons (eS (st_i2d h dX7_timeOf_20)) (
  tab_cons (eS (st_dcmpl h dX7_timeOf_21)) (
  tab_cons (eB (sb_if_lt h dX7_timeOf_22 (by decide))) (
  tab_cons (eS (st_ldc2d h gw_354 dX7_timeOf_25)) (
  tab_cons (eO (so_dreturn h dX7_timeOf_28)) (
  tab_cons (eS (st_dloadn h rfl dX7_timeOf_29)) (
  tab_cons (eS (st_aloadn h rfl dX7_timeOf_30)) (
  tab_cons (eS (st_get h (ci := 7) (k := 1) rfl giX7 (by decide) rfl gw_292 dX7_timeOf_31)) (
  tab_cons (eS (st_iloadn h rfl dX7_timeOf_34)) (
  tab_cons (eS (st_iconst h (by decide +kernel) dX7_timeOf_35)) (
  tab_cons (eO (so_callS h gw_312 gw_313 gw_295 gw_314 ⟨by decide +kernel, by decide +kernel, by decide +kernel⟩ ⟨by decide +kernel, by decide +kernel⟩ dX7_timeOf_36)) (
  tab_cons (eO (so_iaload h dX7_timeOf_39)) (
  tab_cons (eS (st_i2d h dX7_timeOf_40)) (
  tab_cons (eO (so_ddiv h dX7_timeOf_41)) (
  tab_cons (eS (st_dstore h dX7_timeOf_42)) (
  tab_cons (eS (st_dload h dX7_timeOf_44)) (
  tab_cons (eS (st_dconst1 h rfl dX7_timeOf_46)) (
  tab_cons (eS (st_dcmpl h dX7_timeOf_47)) (
  tab_cons (eB (sb_if_gt h dX7_timeOf_48 (by decide))) (
  tab_nil))))))))))))))))))))))))))))))
def tX7_timeOf_1 : Tb := [(51, .inl (f_cd 9218868437227405312, 54)), (54, .inr (.inr (.inl (16, 55, 0, m0)))), (55, .inl (f_cd 4587366580439587226, 58)), (58, .inl (f_aload 0, 59)), (59, .inl (f_get 7 1, 62)), (62, .inl (f_iload 1, 63)), (63, .inl (f_ci (4), 64)), (64, .inr (.inr (.inl (14, 67, 2, mX7_at)))), (67, .inr (.inr (.inl (0, 68, 0, m0)))), (68, .inl (f_i2d, 69)), (69, .inr (.inr (.inl (9, 70, 0, m0)))), (70, .inl (f_dstore 9 7, 72)), (72, .inl (f_aload 0, 73)), (73, .inl (f_get 7 1, 76)), (76, .inl (f_iload 1, 77)), (77, .inl (f_ci (3), 78)), (78, .inr (.inr (.inl (14, 81, 2, mX7_at)))), (81, .inr (.inr (.inl (0, 82, 0, m0)))), (82, .inr (.inr (.inr (0, [108, 111, 123], 138)))), (108, .inl (f_dload 7, 110)), (110, .inr (.inr (.inl (16, 111, 0, m0)))), (111, .inl (f_dload 7, 113)), (113, .inl (f_cd 4623789442425946112, 116)), (116, .inr (.inr (.inl (9, 117, 0, m0)))), (117, .inl (f_dload 5, 119)), (119, .inl (f_cd 4607182418800017408, 120)), (120, .inr (.inr (.inl (8, 121, 0, m0)))), (121, .inr (.inr (.inl (10, 122, 0, m0)))), (122, .inr (.inr (.inl (16, 123, 0, m0)))), (123, .inl (f_dload 7, 125))]
set_option maxRecDepth 10000 in
theorem kX7_timeOf_1 {X : Ctx} (h : sCx X mX7_timeOf) : tab X mX7_timeOf tX7_timeOf_1 :=
  tab_cons (eS (st_ldc2d h gw_355 dX7_timeOf_51)) (
  tab_cons (eO (so_dreturn h dX7_timeOf_54)) (
  tab_cons (eS (st_ldc2d h gw_356 dX7_timeOf_55)) (
  tab_cons (eS (st_aloadn h rfl dX7_timeOf_58)) (
  tab_cons (eS (st_get h (ci := 7) (k := 1) rfl giX7 (by decide) rfl gw_292 dX7_timeOf_59)) (
  tab_cons (eS (st_iloadn h rfl dX7_timeOf_62)) (
  tab_cons (eS (st_iconst h (by decide +kernel) dX7_timeOf_63)) (
  tab_cons (eO (so_callS h gw_312 gw_313 gw_295 gw_314 ⟨by decide +kernel, by decide +kernel, by decide +kernel⟩ ⟨by decide +kernel, by decide +kernel⟩ dX7_timeOf_64)) (
  tab_cons (eO (so_iaload h dX7_timeOf_67)) (
  tab_cons (eS (st_i2d h dX7_timeOf_68)) (
  tab_cons (eO (so_dmul h dX7_timeOf_69)) (
  tab_cons (eS (st_dstore h dX7_timeOf_70)) (
  tab_cons (eS (st_aloadn h rfl dX7_timeOf_72)) (
  tab_cons (eS (st_get h (ci := 7) (k := 1) rfl giX7 (by decide) rfl gw_292 dX7_timeOf_73)) (
  tab_cons (eS (st_iloadn h rfl dX7_timeOf_76)) (
  tab_cons (eS (st_iconst h (by decide +kernel) dX7_timeOf_77)) (
  tab_cons (eO (so_callS h gw_312 gw_313 gw_295 gw_314 ⟨by decide +kernel, by decide +kernel, by decide +kernel⟩ ⟨by decide +kernel, by decide +kernel⟩ dX7_timeOf_78)) (
  tab_cons (eO (so_iaload h dX7_timeOf_81)) (
  tab_cons (eT (so_tsw h (by decide) (by decide) (by decide) dX7_timeOf_82)) (
  tab_cons (eS (st_dload h dX7_timeOf_108)) (
  tab_cons (eO (so_dreturn h dX7_timeOf_110)) (
  tab_cons (eS (st_dload h dX7_timeOf_111)) (
  tab_cons (eS (st_ldc2d h gw_357 dX7_timeOf_113)) (
  tab_cons (eO (so_dmul h dX7_timeOf_116)) (
  tab_cons (eS (st_dload h dX7_timeOf_117)) (
  tab_cons (eS (st_dconst1 h rfl dX7_timeOf_119)) (
  tab_cons (eO (so_dsub h dX7_timeOf_120)) (
  tab_cons (eO (so_ddiv h dX7_timeOf_121)) (
  tab_cons (eO (so_dreturn h dX7_timeOf_122)) (
  tab_cons (eS (st_dload h dX7_timeOf_123)) (
  tab_nil))))))))))))))))))))))))))))))
def tX7_timeOf_2 : Tb := [(125, .inl (f_cd 4635329916471083008, 128)), (128, .inr (.inr (.inl (9, 129, 0, m0)))), (129, .inl (f_dload 5, 131)), (131, .inl (f_dload 5, 133)), (133, .inr (.inr (.inl (9, 134, 0, m0)))), (134, .inl (f_cd 4607182418800017408, 135)), (135, .inr (.inr (.inl (8, 136, 0, m0)))), (136, .inr (.inr (.inl (10, 137, 0, m0)))), (137, .inr (.inr (.inl (16, 138, 0, m0)))), (138, .inl (f_dload 7, 140)), (140, .inl (f_cd 4638144666238189568, 143)), (143, .inr (.inr (.inl (9, 144, 0, m0)))), (144, .inl (f_dload 5, 146)), (146, .inl (f_cd 4607182418800017408, 147)), (147, .inr (.inr (.inl (8, 148, 0, m0)))), (148, .inr (.inr (.inl (10, 149, 0, m0)))), (149, .inr (.inr (.inl (16, 150, 0, m0))))]
set_option maxRecDepth 10000 in
theorem kX7_timeOf_2 {X : Ctx} (h : sCx X mX7_timeOf) : tab X mX7_timeOf tX7_timeOf_2 :=
  tab_cons (eS (st_ldc2d h gw_358 dX7_timeOf_125)) (
  tab_cons (eO (so_dmul h dX7_timeOf_128)) (
  tab_cons (eS (st_dload h dX7_timeOf_129)) (
  tab_cons (eS (st_dload h dX7_timeOf_131)) (
  tab_cons (eO (so_dmul h dX7_timeOf_133)) (
  tab_cons (eS (st_dconst1 h rfl dX7_timeOf_134)) (
  tab_cons (eO (so_dsub h dX7_timeOf_135)) (
  tab_cons (eO (so_ddiv h dX7_timeOf_136)) (
  tab_cons (eO (so_dreturn h dX7_timeOf_137)) (
  tab_cons (eS (st_dload h dX7_timeOf_138)) (
  tab_cons (eS (st_ldc2d h gw_359 dX7_timeOf_140)) (
  tab_cons (eO (so_dmul h dX7_timeOf_143)) (
  tab_cons (eS (st_dload h dX7_timeOf_144)) (
  tab_cons (eS (st_dconst1 h rfl dX7_timeOf_146)) (
  tab_cons (eO (so_dsub h dX7_timeOf_147)) (
  tab_cons (eO (so_ddiv h dX7_timeOf_148)) (
  tab_cons (eO (so_dreturn h dX7_timeOf_149)) (
  tab_nil)))))))))))))))))
def tX7_timeOf : Tb := tX7_timeOf_0 ++ (tX7_timeOf_1 ++ (tX7_timeOf_2))
theorem kX7_timeOf {X : Ctx} (h : sCx X mX7_timeOf) : tab X mX7_timeOf tX7_timeOf := tab_app (kX7_timeOf_0 h) (tab_app (kX7_timeOf_1 h) (kX7_timeOf_2 h))
theorem dX7_operatingTime_0 : decode cX7_operatingTime 0 = .ok (.aload_n 0, 1) := by decide +kernel
theorem dX7_operatingTime_1 : decode cX7_operatingTime 1 = .ok (.aload_n 0, 1) := by decide +kernel
theorem dX7_operatingTime_2 : decode cX7_operatingTime 2 = .ok (.iload_n 1, 1) := by decide +kernel
theorem dX7_operatingTime_3 : decode cX7_operatingTime 3 = .ok (.invokevirtual 86, 3) := by decide +kernel
theorem dX7_operatingTime_6 : decode cX7_operatingTime 6 = .ok (.ifCond .eq 18, 3) := by decide +kernel
theorem dX7_operatingTime_9 : decode cX7_operatingTime 9 = .ok (.dload_n 2, 1) := by decide +kernel
theorem dX7_operatingTime_10 : decode cX7_operatingTime 10 = .ok (.dconst 0, 1) := by decide +kernel
theorem dX7_operatingTime_11 : decode cX7_operatingTime 11 = .ok (.ldc2_w 123, 3) := by decide +kernel
theorem dX7_operatingTime_14 : decode cX7_operatingTime 14 = .ok (.invokestatic 63, 3) := by decide +kernel
theorem dX7_operatingTime_17 : decode cX7_operatingTime 17 = .ok (.ifCond .eq 7, 3) := by decide +kernel
theorem dX7_operatingTime_20 : decode cX7_operatingTime 20 = .ok (.iconst 0, 1) := by decide +kernel
theorem dX7_operatingTime_21 : decode cX7_operatingTime 21 = .ok (.goto 4, 3) := by decide +kernel
theorem dX7_operatingTime_24 : decode cX7_operatingTime 24 = .ok (.iconst 1, 1) := by decide +kernel
theorem dX7_operatingTime_25 : decode cX7_operatingTime 25 = .ok (.putfield 45, 3) := by decide +kernel
theorem dX7_operatingTime_28 : decode cX7_operatingTime 28 = .ok (.aload_n 0, 1) := by decide +kernel
theorem dX7_operatingTime_29 : decode cX7_operatingTime 29 = .ok (.getfield 45, 3) := by decide +kernel
theorem dX7_operatingTime_32 : decode cX7_operatingTime 32 = .ok (.ifCond .le 7, 3) := by decide +kernel
theorem dX7_operatingTime_35 : decode cX7_operatingTime 35 = .ok (.dconst 0, 1) := by decide +kernel
theorem dX7_operatingTime_36 : decode cX7_operatingTime 36 = .ok (.goto 9, 3) := by decide +kernel
theorem dX7_operatingTime_39 : decode cX7_operatingTime 39 = .ok (.aload_n 0, 1) := by decide +kernel
theorem dX7_operatingTime_40 : decode cX7_operatingTime 40 = .ok (.iload_n 1, 1) := by decide +kernel
theorem dX7_operatingTime_41 : decode cX7_operatingTime 41 = .ok (.dload_n 2, 1) := by decide +kernel
theorem dX7_operatingTime_42 : decode cX7_operatingTime 42 = .ok (.invokevirtual 125, 3) := by decide +kernel
theorem dX7_operatingTime_45 : decode cX7_operatingTime 45 = .ok (.dreturn, 1) := by decide +kernel
def tX7_operatingTime_0 : Tb := [(0, .inl (f_aload 0, 1)), (1, .inl (f_aload 0, 2)), (2, .inl (f_iload 1, 3)), (3, .inr (.inr (.inl (13, 6, 2, mX7_isLine)))), (6, .inr (.inl (b_if_eq, 24, 9))), (9, .inl (f_dload 2, 10)), (10, .inl (f_cd 0, 11)), (11, .inl (f_cd 4741671816366391296, 14)), (14, .inr (.inr (.inl (14, 17, 3, mX7_inReal)))), (17, .inr (.inl (b_if_eq, 24, 20))), (20, .inl (f_ci (0), 21)), (21, .inl (f_id, 25)), (24, .inl (f_ci (1), 25)), (25, .inl (f_putI 7 0, 28)), (28, .inl (f_aload 0, 29)), (29, .inl (f_get 7 0, 32)), (32, .inr (.inl (b_if_le, 39, 35))), (35, .inl (f_cd 0, 36)), (36, .inl (f_id, 45)), (39, .inl (f_aload 0, 40)), (40, .inl (f_iload 1, 41)), (41, .inl (f_dload 2, 42)), (42, .inr (.inr (.inl (13, 45, 3, mX7_timeOf)))), (45, .inr (.inr (.inl (16, 46, 0, m0))))]
set_option maxRecDepth 10000 in
theorem kX7_operatingTime_0 {X : Ctx} (h : sCx X mX7_operatingTime) : tab X mX7_operatingTime tX7_operatingTime_0 :=
  tab_cons (eS (st_aloadn h rfl dX7_operatingTime_0)) (
  tab_cons (eS (st_aloadn h rfl dX7_operatingTime_1)) (
  tab_cons (eS (st_iloadn h rfl dX7_operatingTime_2)) (
  tab_cons (eO (so_callV h gw_327 gw_328 gw_329 gw_295 gw_330 ⟨by decide +kernel, by decide +kernel, by decide +kernel, by decide +kernel⟩ ⟨by decide +kernel, by decide +kernel⟩ dX7_operatingTime_3)) (
  tab_cons (eB (sb_if_eq h dX7_operatingTime_6 (by decide))) (
  tab_cons (eS (st_dloadn h rfl dX7_operatingTime_9)) (
  tab_cons (eS (st_dconst0 h rfl dX7_operatingTime_10)) (
  tab_cons (eS (st_ldc2d h gw_360 dX7_operatingTime_11)) (
  tab_cons (eO (so_callS h gw_307 gw_308 gw_295 gw_309 ⟨by decide +kernel, by decide +kernel, by decide +kernel⟩ ⟨by decide +kernel, by decide +kernel⟩ dX7_operatingTime_14)) (
  tab_cons (eB (sb_if_eq h dX7_operatingTime_17 (by decide))) (
  tab_cons (eS (st_iconst h (by decide +kernel) dX7_operatingTime_20)) (
  tab_cons (eS (st_goto h dX7_operatingTime_21 (by decide))) (
  tab_cons (eS (st_iconst h (by decide +kernel) dX7_operatingTime_24)) (
  tab_cons (eS (st_putI h (ci := 7) (k := 0) tyX7 tyX7_ok nmX7 rfl giX7 (by decide) rfl rfl (by decide +kernel) gw_291 dX7_operatingTime_25)) (
  tab_cons (eS (st_aloadn h rfl dX7_operatingTime_28)) (
  tab_cons (eS (st_get h (ci := 7) (k := 0) rfl giX7 (by decide) rfl gw_291 dX7_operatingTime_29)) (
  tab_cons (eB (sb_if_le h dX7_operatingTime_32 (by decide))) (
  tab_cons (eS (st_dconst0 h rfl dX7_operatingTime_35)) (
  tab_cons (eS (st_goto h dX7_operatingTime_36 (by decide))) (
  tab_cons (eS (st_aloadn h rfl dX7_operatingTime_39)) (
  tab_cons (eS (st_iloadn h rfl dX7_operatingTime_40)) (
  tab_cons (eS (st_dloadn h rfl dX7_operatingTime_41)) (
  tab_cons (eO (so_callV h gw_361 gw_362 gw_363 gw_295 gw_364 ⟨by decide +kernel, by decide +kernel, by decide +kernel, by decide +kernel⟩ ⟨by decide +kernel, by decide +kernel⟩ dX7_operatingTime_42)) (
  tab_cons (eO (so_dreturn h dX7_operatingTime_45)) (
  tab_nil))))))))))))))))))))))))
def tX7_operatingTime : Tb := tX7_operatingTime_0
theorem kX7_operatingTime {X : Ctx} (h : sCx X mX7_operatingTime) : tab X mX7_operatingTime tX7_operatingTime := kX7_operatingTime_0 h
theorem dX7_sensitivity_0 : decode cX7_sensitivity 0 = .ok (.aload_n 0, 1) := by decide +kernel
theorem dX7_sensitivity_1 : decode cX7_sensitivity 1 = .ok (.aload_n 0, 1) := by decide +kernel
theorem dX7_sensitivity_2 : decode cX7_sensitivity 2 = .ok (.iload_n 1, 1) := by decide +kernel
theorem dX7_sensitivity_3 : decode cX7_sensitivity 3 = .ok (.invokevirtual 86, 3) := by decide +kernel
theorem dX7_sensitivity_6 : decode cX7_sensitivity 6 = .ok (.ifCond .eq 7, 3) := by decide +kernel
theorem dX7_sensitivity_9 : decode cX7_sensitivity 9 = .ok (.iconst 0, 1) := by decide +kernel
theorem dX7_sensitivity_10 : decode cX7_sensitivity 10 = .ok (.goto 4, 3) := by decide +kernel
theorem dX7_sensitivity_13 : decode cX7_sensitivity 13 = .ok (.iconst 1, 1) := by decide +kernel
theorem dX7_sensitivity_14 : decode cX7_sensitivity 14 = .ok (.putfield 45, 3) := by decide +kernel
theorem dX7_sensitivity_17 : decode cX7_sensitivity 17 = .ok (.aload_n 0, 1) := by decide +kernel
theorem dX7_sensitivity_18 : decode cX7_sensitivity 18 = .ok (.getfield 45, 3) := by decide +kernel
theorem dX7_sensitivity_21 : decode cX7_sensitivity 21 = .ok (.ifCond .le 7, 3) := by decide +kernel
theorem dX7_sensitivity_24 : decode cX7_sensitivity 24 = .ok (.dconst 0, 1) := by decide +kernel
theorem dX7_sensitivity_25 : decode cX7_sensitivity 25 = .ok (.goto 26, 3) := by decide +kernel
theorem dX7_sensitivity_28 : decode cX7_sensitivity 28 = .ok (.aload_n 0, 1) := by decide +kernel
theorem dX7_sensitivity_29 : decode cX7_sensitivity 29 = .ok (.iload_n 1, 1) := by decide +kernel
theorem dX7_sensitivity_30 : decode cX7_sensitivity 30 = .ok (.bipush 100, 2) := by decide +kernel
theorem dX7_sensitivity_32 : decode cX7_sensitivity 32 = .ok (.invokevirtual 103, 3) := by decide +kernel
theorem dX7_sensitivity_35 : decode cX7_sensitivity 35 = .ok (.ldc2_w 129, 3) := by decide +kernel
theorem dX7_sensitivity_38 : decode cX7_sensitivity 38 = .ok (.dmul, 1) := by decide +kernel
theorem dX7_sensitivity_39 : decode cX7_sensitivity 39 = .ok (.aload_n 0, 1) := by decide +kernel
theorem dX7_sensitivity_40 : decode cX7_sensitivity 40 = .ok (.getfield 7, 3) := by decide +kernel
theorem dX7_sensitivity_43 : decode cX7_sensitivity 43 = .ok (.iload_n 1, 1) := by decide +kernel
theorem dX7_sensitivity_44 : decode cX7_sensitivity 44 = .ok (.iconst 2, 1) := by decide +kernel
theorem dX7_sensitivity_45 : decode cX7_sensitivity 45 = .ok (.invokestatic 71, 3) := by decide +kernel
theorem dX7_sensitivity_48 : decode cX7_sensitivity 48 = .ok (.iaload, 1) := by decide +kernel
theorem dX7_sensitivity_49 : decode cX7_sensitivity 49 = .ok (.i2d, 1) := by decide +kernel
theorem dX7_sensitivity_50 : decode cX7_sensitivity 50 = .ok (.ddiv, 1) := by decide +kernel
theorem dX7_sensitivity_51 : decode cX7_sensitivity 51 = .ok (.dreturn, 1) := by decide +kernel
def tX7_sensitivity_0 : Tb := [(0, .inl (f_aload 0, 1)), (1, .inl (f_aload 0, 2)), (2, .inl (f_iload 1, 3)), (3, .inr (.inr (.inl (13, 6, 2, mX7_isLine)))), (6, .inr (.inl (b_if_eq, 13, 9))), (9, .inl (f_ci (0), 10)), (10, .inl (f_id, 14)), (13, .inl (f_ci (1), 14)), (14, .inl (f_putI 7 0, 17)), (17, .inl (f_aload 0, 18)), (18, .inl (f_get 7 0, 21)), (21, .inr (.inl (b_if_le, 28, 24))), (24, .inl (f_cd 0, 25)), (25, .inl (f_id, 51)), (28, .inl (f_aload 0, 29)), (29, .inl (f_iload 1, 30)), (30, .inl (f_ci (100), 32)), (32, .inr (.inr (.inl (13, 35, 3, mX7_currentAt)))), (35, .inl (f_cd 4605975454099882115, 38)), (38, .inr (.inr (.inl (9, 39, 0, m0)))), (39, .inl (f_aload 0, 40)), (40, .inl (f_get 7 1, 43)), (43, .inl (f_iload 1, 44)), (44, .inl (f_ci (2), 45)), (45, .inr (.inr (.inl (14, 48, 2, mX7_at)))), (48, .inr (.inr (.inl (0, 49, 0, m0)))), (49, .inl (f_i2d, 50)), (50, .inr (.inr (.inl (10, 51, 0, m0)))), (51, .inr (.inr (.inl (16, 52, 0, m0))))]
set_option maxRecDepth 10000 in
theorem kX7_sensitivity_0 {X : Ctx} (h : sCx X mX7_sensitivity) : tab X mX7_sensitivity tX7_sensitivity_0 :=
  tab_cons (eS (st_aloadn h rfl dX7_sensitivity_0)) (
  tab_cons (eS (st_aloadn h rfl dX7_sensitivity_1)) (
  tab_cons (eS (st_iloadn h rfl dX7_sensitivity_2)) (
  tab_cons (eO (so_callV h gw_327 gw_328 gw_329 gw_295 gw_330 ⟨by decide +kernel, by decide +kernel, by decide +kernel, by decide +kernel⟩ ⟨by decide +kernel, by decide +kernel⟩ dX7_sensitivity_3)) (
  tab_cons (eB (sb_if_eq h dX7_sensitivity_6 (by decide))) (
  tab_cons (eS (st_iconst h (by decide +kernel) dX7_sensitivity_9)) (
  tab_cons (eS (st_goto h dX7_sensitivity_10 (by decide))) (
  tab_cons (eS (st_iconst h (by decide +kernel) dX7_sensitivity_13)) (
  tab_cons (eS (st_putI h (ci := 7) (k := 0) tyX7 tyX7_ok nmX7 rfl giX7 (by decide) rfl rfl (by decide +kernel) gw_291 dX7_sensitivity_14)) (
  tab_cons (eS (st_aloadn h rfl dX7_sensitivity_17)) (
  tab_cons (eS (st_get h (ci := 7) (k := 0) rfl giX7 (by decide) rfl gw_291 dX7_sensitivity_18)) (
  tab_cons (eB (sb_if_le h dX7_sensitivity_21 (by decide))) (
  tab_cons (eS (st_dconst0 h rfl dX7_sensitivity_24)) (
  tab_cons (eS (st_goto h dX7_sensitivity_25 (by decide))) (
  tab_cons (eS (st_aloadn h rfl dX7_sensitivity_28)) (
  tab_cons (eS (st_iloadn h rfl dX7_sensitivity_29)) (
  tab_cons (eS (st_bipush h (by decide +kernel) dX7_sensitivity_30)) (
  tab_cons (eO (so_callV h gw_345 gw_346 gw_347 gw_295 gw_348 ⟨by decide +kernel, by decide +kernel, by decide +kernel, by decide +kernel⟩ ⟨by decide +kernel, by decide +kernel⟩ dX7_sensitivity_32)) (
  tab_cons (eS (st_ldc2d h gw_365 dX7_sensitivity_35)) (
  tab_cons (eO (so_dmul h dX7_sensitivity_38)) (
  tab_cons (eS (st_aloadn h rfl dX7_sensitivity_39)) (
  tab_cons (eS (st_get h (ci := 7) (k := 1) rfl giX7 (by decide) rfl gw_292 dX7_sensitivity_40)) (
  tab_cons (eS (st_iloadn h rfl dX7_sensitivity_43)) (
  tab_cons (eS (st_iconst h (by decide +kernel) dX7_sensitivity_44)) (
  tab_cons (eO (so_callS h gw_312 gw_313 gw_295 gw_314 ⟨by decide +kernel, by decide +kernel, by decide +kernel⟩ ⟨by decide +kernel, by decide +kernel⟩ dX7_sensitivity_45)) (
  tab_cons (eO (so_iaload h dX7_sensitivity_48)) (
  tab_cons (eS (st_i2d h dX7_sensitivity_49)) (
  tab_cons (eO (so_ddiv h dX7_sensitivity_50)) (
  tab_cons (eO (so_dreturn h dX7_sensitivity_51)) (
  tab_nil)))))))))))))))))))))))))))))
def tX7_sensitivity : Tb := tX7_sensitivity_0
theorem kX7_sensitivity {X : Ctx} (h : sCx X mX7_sensitivity) : tab X mX7_sensitivity tX7_sensitivity := kX7_sensitivity_0 h
theorem dX7_setMargin_0 : decode cX7_setMargin 0 = .ok (.aload_n 0, 1) := by decide +kernel
theorem dX7_setMargin_1 : decode cX7_setMargin 1 = .ok (.dload_n 1, 1) := by decide +kernel
theorem dX7_setMargin_2 : decode cX7_setMargin 2 = .ok (.ldc2_w 115, 3) := by decide +kernel
theorem dX7_setMargin_5 : decode cX7_setMargin 5 = .ok (.ldc2_w 131, 3) := by decide +kernel
theorem dX7_setMargin_8 : decode cX7_setMargin 8 = .ok (.invokestatic 63, 3) := by decide +kernel
theorem dX7_setMargin_11 : decode cX7_setMargin 11 = .ok (.ifCond .eq 7, 3) := by decide +kernel
theorem dX7_setMargin_14 : decode cX7_setMargin 14 = .ok (.iconst 0, 1) := by decide +kernel
theorem dX7_setMargin_15 : decode cX7_setMargin 15 = .ok (.goto 4, 3) := by decide +kernel
theorem dX7_setMargin_18 : decode cX7_setMargin 18 = .ok (.iconst 1, 1) := by decide +kernel
theorem dX7_setMargin_19 : decode cX7_setMargin 19 = .ok (.putfield 45, 3) := by decide +kernel
theorem dX7_setMargin_22 : decode cX7_setMargin 22 = .ok (.aload_n 0, 1) := by decide +kernel
theorem dX7_setMargin_23 : decode cX7_setMargin 23 = .ok (.getfield 45, 3) := by decide +kernel
theorem dX7_setMargin_26 : decode cX7_setMargin 26 = .ok (.ifCond .le 5, 3) := by decide +kernel
theorem dX7_setMargin_29 : decode cX7_setMargin 29 = .ok (.dconst 0, 1) := by decide +kernel
theorem dX7_setMargin_30 : decode cX7_setMargin 30 = .ok (.dreturn, 1) := by decide +kernel
theorem dX7_setMargin_31 : decode cX7_setMargin 31 = .ok (.aload_n 0, 1) := by decide +kernel
theorem dX7_setMargin_32 : decode cX7_setMargin 32 = .ok (.invokevirtual 56, 3) := by decide +kernel
theorem dX7_setMargin_35 : decode cX7_setMargin 35 = .ok (.aload_n 0, 1) := by decide +kernel
theorem dX7_setMargin_36 : decode cX7_setMargin 36 = .ok (.getfield 13, 3) := by decide +kernel
theorem dX7_setMargin_39 : decode cX7_setMargin 39 = .ok (.iconst 2, 1) := by decide +kernel
theorem dX7_setMargin_40 : decode cX7_setMargin 40 = .ok (.daload, 1) := by decide +kernel
theorem dX7_setMargin_41 : decode cX7_setMargin 41 = .ok (.dstore_n 3, 1) := by decide +kernel
theorem dX7_setMargin_42 : decode cX7_setMargin 42 = .ok (.aload_n 0, 1) := by decide +kernel
theorem dX7_setMargin_43 : decode cX7_setMargin 43 = .ok (.getfield 13, 3) := by decide +kernel
theorem dX7_setMargin_46 : decode cX7_setMargin 46 = .ok (.iconst 2, 1) := by decide +kernel
theorem dX7_setMargin_47 : decode cX7_setMargin 47 = .ok (.dload_n 1, 1) := by decide +kernel
theorem dX7_setMargin_48 : decode cX7_setMargin 48 = .ok (.dastore, 1) := by decide +kernel
theorem dX7_setMargin_49 : decode cX7_setMargin 49 = .ok (.dload_n 3, 1) := by decide +kernel
theorem dX7_setMargin_50 : decode cX7_setMargin 50 = .ok (.dreturn, 1) := by decide +kernel
def tX7_setMargin_0 : Tb := [(0, .inl (f_aload 0, 1)), (1, .inl (f_dload 1, 2)), (2, .inl (f_cd 4587366580439587226, 5)), (5, .inl (f_cd 4617315517961601024, 8)), (8, .inr (.inr (.inl (14, 11, 3, mX7_inReal)))), (11, .inr (.inl (b_if_eq, 18, 14))), (14, .inl (f_ci (0), 15)), (15, .inl (f_id, 19)), (18, .inl (f_ci (1), 19)), (19, .inl (f_putI 7 0, 22)), (22, .inl (f_aload 0, 23)), (23, .inl (f_get 7 0, 26)), (26, .inr (.inl (b_if_le, 31, 29))), (29, .inl (f_cd 0, 30)), (30, .inr (.inr (.inl (16, 31, 0, m0)))), (31, .inl (f_aload 0, 32)), (32, .inr (.inr (.inl (13, 35, 1, mX7_save)))), (35, .inl (f_aload 0, 36)), (36, .inl (f_get 7 2, 39)), (39, .inl (f_ci (2), 40)), (40, .inr (.inr (.inl (1, 41, 0, m0)))), (41, .inl (f_dstore 5 3, 42)), (42, .inl (f_aload 0, 43)), (43, .inl (f_get 7 2, 46)), (46, .inl (f_ci (2), 47)), (47, .inl (f_dload 1, 48)), (48, .inr (.inr (.inl (5, 49, 0, m0)))), (49, .inl (f_dload 3, 50)), (50, .inr (.inr (.inl (16, 51, 0, m0))))]
set_option maxRecDepth 10000 in
theorem kX7_setMargin_0 {X : Ctx} (h : sCx X mX7_setMargin) : tab X mX7_setMargin tX7_setMargin_0 :=
  tab_cons (eS (st_aloadn h rfl dX7_setMargin_0)) (
  tab_cons (eS (st_dloadn h rfl dX7_setMargin_1)) (
  tab_cons (eS (st_ldc2d h gw_356 dX7_setMargin_2)) (
  tab_cons (eS (st_ldc2d h gw_366 dX7_setMargin_5)) (
  tab_cons (eO (so_callS h gw_307 gw_308 gw_295 gw_309 ⟨by decide +kernel, by decide +kernel, by decide +kernel⟩ ⟨by decide +kernel, by decide +kernel⟩ dX7_setMargin_8)) (
  tab_cons (eB (sb_if_eq h dX7_setMargin_11 (by decide))) (
  tab_cons (eS (st_iconst h (by decide +kernel) dX7_setMargin_14)) (
  tab_cons (eS (st_goto h dX7_setMargin_15 (by decide))) (
  tab_cons (eS (st_iconst h (by decide +kernel) dX7_setMargin_18)) (
  tab_cons (eS (st_putI h (ci := 7) (k := 0) tyX7 tyX7_ok nmX7 rfl giX7 (by decide) rfl rfl (by decide +kernel) gw_291 dX7_setMargin_19)) (
  tab_cons (eS (st_aloadn h rfl dX7_setMargin_22)) (
  tab_cons (eS (st_get h (ci := 7) (k := 0) rfl giX7 (by decide) rfl gw_291 dX7_setMargin_23)) (
  tab_cons (eB (sb_if_le h dX7_setMargin_26 (by decide))) (
  tab_cons (eS (st_dconst0 h rfl dX7_setMargin_29)) (
  tab_cons (eO (so_dreturn h dX7_setMargin_30)) (
  tab_cons (eS (st_aloadn h rfl dX7_setMargin_31)) (
  tab_cons (eO (so_callV h gw_301 gw_302 gw_303 gw_295 gw_304 ⟨by decide +kernel, by decide +kernel, by decide +kernel, by decide +kernel⟩ ⟨by decide +kernel, by decide +kernel⟩ dX7_setMargin_32)) (
  tab_cons (eS (st_aloadn h rfl dX7_setMargin_35)) (
  tab_cons (eS (st_get h (ci := 7) (k := 2) rfl giX7 (by decide) rfl gw_300 dX7_setMargin_36)) (
  tab_cons (eS (st_iconst h (by decide +kernel) dX7_setMargin_39)) (
  tab_cons (eO (so_daload h dX7_setMargin_40)) (
  tab_cons (eS (st_dstoren h rfl dX7_setMargin_41)) (
  tab_cons (eS (st_aloadn h rfl dX7_setMargin_42)) (
  tab_cons (eS (st_get h (ci := 7) (k := 2) rfl giX7 (by decide) rfl gw_300 dX7_setMargin_43)) (
  tab_cons (eS (st_iconst h (by decide +kernel) dX7_setMargin_46)) (
  tab_cons (eS (st_dloadn h rfl dX7_setMargin_47)) (
  tab_cons (eO (so_dastore h dX7_setMargin_48)) (
  tab_cons (eS (st_dloadn h rfl dX7_setMargin_49)) (
  tab_cons (eO (so_dreturn h dX7_setMargin_50)) (
  tab_nil)))))))))))))))))))))))))))))
def tX7_setMargin : Tb := tX7_setMargin_0
theorem kX7_setMargin {X : Ctx} (h : sCx X mX7_setMargin) : tab X mX7_setMargin tX7_setMargin := kX7_setMargin_0 h
theorem dX7_marginOf_0 : decode cX7_marginOf 0 = .ok (.aload_n 0, 1) := by decide +kernel
theorem dX7_marginOf_1 : decode cX7_marginOf 1 = .ok (.iload_n 1, 1) := by decide +kernel
theorem dX7_marginOf_2 : decode cX7_marginOf 2 = .ok (.iload_n 2, 1) := by decide +kernel
theorem dX7_marginOf_3 : decode cX7_marginOf 3 = .ok (.invokevirtual 103, 3) := by decide +kernel
theorem dX7_marginOf_6 : decode cX7_marginOf 6 = .ok (.dstore_n 3, 1) := by decide +kernel
theorem dX7_marginOf_7 : decode cX7_marginOf 7 = .ok (.aload_n 0, 1) := by decide +kernel
theorem dX7_marginOf_8 : decode cX7_marginOf 8 = .ok (.aload_n 0, 1) := by decide +kernel
theorem dX7_marginOf_9 : decode cX7_marginOf 9 = .ok (.iload_n 1, 1) := by decide +kernel
theorem dX7_marginOf_10 : decode cX7_marginOf 10 = .ok (.invokevirtual 78, 3) := by decide +kernel
theorem dX7_marginOf_13 : decode cX7_marginOf 13 = .ok (.dload_n 3, 1) := by decide +kernel
theorem dX7_marginOf_14 : decode cX7_marginOf 14 = .ok (.invokevirtual 125, 3) := by decide +kernel
theorem dX7_marginOf_17 : decode cX7_marginOf 17 = .ok (.dstore 5, 2) := by decide +kernel
theorem dX7_marginOf_19 : decode cX7_marginOf 19 = .ok (.aload_n 0, 1) := by decide +kernel
theorem dX7_marginOf_20 : decode cX7_marginOf 20 = .ok (.iload_n 1, 1) := by decide +kernel
theorem dX7_marginOf_21 : decode cX7_marginOf 21 = .ok (.dload_n 3, 1) := by decide +kernel
theorem dX7_marginOf_22 : decode cX7_marginOf 22 = .ok (.invokevirtual 125, 3) := by decide +kernel
theorem dX7_marginOf_25 : decode cX7_marginOf 25 = .ok (.dstore 7, 2) := by decide +kernel
theorem dX7_marginOf_27 : decode cX7_marginOf 27 = .ok (.dload 5, 2) := by decide +kernel
theorem dX7_marginOf_29 : decode cX7_marginOf 29 = .ok (.ldc2_w 113, 3) := by decide +kernel
theorem dX7_marginOf_32 : decode cX7_marginOf 32 = .ok (.dcmp .l, 1) := by decide +kernel
theorem dX7_marginOf_33 : decode cX7_marginOf 33 = .ok (.ifCond .ne 9, 3) := by decide +kernel
theorem dX7_marginOf_36 : decode cX7_marginOf 36 = .ok (.ldc2_w 113, 3) := by decide +kernel
theorem dX7_marginOf_39 : decode cX7_marginOf 39 = .ok (.goto 23, 3) := by decide +kernel
theorem dX7_marginOf_42 : decode cX7_marginOf 42 = .ok (.dload 7, 2) := by decide +kernel
theorem dX7_marginOf_44 : decode cX7_marginOf 44 = .ok (.ldc2_w 113, 3) := by decide +kernel
theorem dX7_marginOf_47 : decode cX7_marginOf 47 = .ok (.dcmp .l, 1) := by decide +kernel
theorem dX7_marginOf_48 : decode cX7_marginOf 48 = .ok (.ifCond .ne 9, 3) := by decide +kernel
theorem dX7_marginOf_51 : decode cX7_marginOf 51 = .ok (.ldc2_w 133, 3) := by decide +kernel
theorem dX7_marginOf_54 : decode cX7_marginOf 54 = .ok (.goto 8, 3) := by decide +kernel
theorem dX7_marginOf_57 : decode cX7_marginOf 57 = .ok (.dload 5, 2) := by decide +kernel
theorem dX7_marginOf_59 : decode cX7_marginOf 59 = .ok (.dload 7, 2) := by decide +kernel
theorem dX7_marginOf_61 : decode cX7_marginOf 61 = .ok (.dsub, 1) := by decide +kernel
theorem dX7_marginOf_62 : decode cX7_marginOf 62 = .ok (.dreturn, 1) := by decide +kernel
def tX7_marginOf_0 : Tb := [(0, .inl (f_aload 0, 1)), (1, .inl (f_iload 1, 2)), (2, .inl (f_iload 2, 3)), (3, .inr (.inr (.inl (13, 6, 3, mX7_currentAt)))), (6, .inl (f_dstore 9 3, 7)), (7, .inl (f_aload 0, 8)), (8, .inl (f_aload 0, 9)), (9, .inl (f_iload 1, 10)), (10, .inr (.inr (.inl (13, 13, 2, mX7_above)))), (13, .inl (f_dload 3, 14)), (14, .inr (.inr (.inl (13, 17, 3, mX7_timeOf)))), (17, .inl (f_dstore 9 5, 19)), (19, .inl (f_aload 0, 20)), (20, .inl (f_iload 1, 21)), (21, .inl (f_dload 3, 22)), (22, .inr (.inr (.inl (13, 25, 3, mX7_timeOf)))), (25, .inl (f_dstore 9 7, 27)), (27, .inl (f_dload 5, 29)), (29, .inl (f_cd 9218868437227405312, 32)), (32, .inl (f_dcmpl, 33)), (33, .inr (.inl (b_if_eq, 36, 42))), (36, .inl (f_cd 9218868437227405312, 39)), (39, .inl (f_id, 62)), (42, .inl (f_dload 7, 44)), (44, .inl (f_cd 9218868437227405312, 47)), (47, .inl (f_dcmpl, 48)), (48, .inr (.inl (b_if_eq, 51, 57))), (51, .inl (f_cd 18442240474082181120, 54)), (54, .inl (f_id, 62)), (57, .inl (f_dload 5, 59))]
set_option maxRecDepth 10000 in
theorem kX7_marginOf_0 {X : Ctx} (h : sCx X mX7_marginOf) : tab X mX7_marginOf tX7_marginOf_0 :=
  tab_cons (eS (st_aloadn h rfl dX7_marginOf_0)) (
  tab_cons (eS (st_iloadn h rfl dX7_marginOf_1)) (
  tab_cons (eS (st_iloadn h rfl dX7_marginOf_2)) (
  tab_cons (eO (so_callV h gw_345 gw_346 gw_347 gw_295 gw_348 ⟨by decide +kernel, by decide +kernel, by decide +kernel, by decide +kernel⟩ ⟨by decide +kernel, by decide +kernel⟩ dX7_marginOf_3)) (
  tab_cons (eS (st_dstoren h rfl dX7_marginOf_6)) (
  tab_cons (eS (st_aloadn h rfl dX7_marginOf_7)) (
  tab_cons (eS (st_aloadn h rfl dX7_marginOf_8)) (
  tab_cons (eS (st_iloadn h rfl dX7_marginOf_9)) (
  tab_cons (eO (so_callV h gw_319 gw_320 gw_321 gw_295 gw_322 ⟨by decide +kernel, by decide +kernel, by decide +kernel, by decide +kernel⟩ ⟨by decide +kernel, by decide +kernel⟩ dX7_marginOf_10)) (
  tab_cons (eS (st_dloadn h rfl dX7_marginOf_13)) (
  tab_cons (eO (so_callV h gw_361 gw_362 gw_363 gw_295 gw_364 ⟨by decide +kernel, by decide +kernel, by decide +kernel, by decide +kernel⟩ ⟨by decide +kernel, by decide +kernel⟩ dX7_marginOf_14)) (
  tab_cons (eS (st_dstore h dX7_marginOf_17)) (
  tab_cons (eS (st_aloadn h rfl dX7_marginOf_19)) (
  tab_cons (eS (st_iloadn h rfl dX7_marginOf_20)) (
  tab_cons (eS (st_dloadn h rfl dX7_marginOf_21)) (
  tab_cons (eO (so_callV h gw_361 gw_362 gw_363 gw_295 gw_364 ⟨by decide +kernel, by decide +kernel, by decide +kernel, by decide +kernel⟩ ⟨by decide +kernel, by decide +kernel⟩ dX7_marginOf_22)) (
  tab_cons (eS (st_dstore h dX7_marginOf_25)) (
  tab_cons (eS (st_dload h dX7_marginOf_27)) (
  tab_cons (eS (st_ldc2d h gw_355 dX7_marginOf_29)) (
  tab_cons (eS (st_dcmpl h dX7_marginOf_32)) (
  tab_cons (eB (sb_if_ne h dX7_marginOf_33 (by decide))) (
  tab_cons (eS (st_ldc2d h gw_355 dX7_marginOf_36)) (
  tab_cons (eS (st_goto h dX7_marginOf_39 (by decide))) (
  tab_cons (eS (st_dload h dX7_marginOf_42)) (
  tab_cons (eS (st_ldc2d h gw_355 dX7_marginOf_44)) (
  tab_cons (eS (st_dcmpl h dX7_marginOf_47)) (
  tab_cons (eB (sb_if_ne h dX7_marginOf_48 (by decide))) (
  tab_cons (eS (st_ldc2d h gw_367 dX7_marginOf_51)) (
  tab_cons (eS (st_goto h dX7_marginOf_54 (by decide))) (
  tab_cons (eS (st_dload h dX7_marginOf_57)) (
  tab_nil))))))))))))))))))))))))))))))
def tX7_marginOf_1 : Tb := [(59, .inl (f_dload 7, 61)), (61, .inr (.inr (.inl (8, 62, 0, m0)))), (62, .inr (.inr (.inl (16, 63, 0, m0))))]
set_option maxRecDepth 10000 in
theorem kX7_marginOf_1 {X : Ctx} (h : sCx X mX7_marginOf) : tab X mX7_marginOf tX7_marginOf_1 :=
  tab_cons (eS (st_dload h dX7_marginOf_59)) (
  tab_cons (eO (so_dsub h dX7_marginOf_61)) (
  tab_cons (eO (so_dreturn h dX7_marginOf_62)) (
  tab_nil)))
def tX7_marginOf : Tb := tX7_marginOf_0 ++ (tX7_marginOf_1)
theorem kX7_marginOf {X : Ctx} (h : sCx X mX7_marginOf) : tab X mX7_marginOf tX7_marginOf := tab_app (kX7_marginOf_0 h) (kX7_marginOf_1 h)
theorem dX7_margin_0 : decode cX7_margin 0 = .ok (.aload_n 0, 1) := by decide +kernel
theorem dX7_margin_1 : decode cX7_margin 1 = .ok (.aload_n 0, 1) := by decide +kernel
theorem dX7_margin_2 : decode cX7_margin 2 = .ok (.iload_n 1, 1) := by decide +kernel
theorem dX7_margin_3 : decode cX7_margin 3 = .ok (.iload_n 2, 1) := by decide +kernel
theorem dX7_margin_4 : decode cX7_margin 4 = .ok (.invokevirtual 100, 3) := by decide +kernel
theorem dX7_margin_7 : decode cX7_margin 7 = .ok (.ifCond .ne 7, 3) := by decide +kernel
theorem dX7_margin_10 : decode cX7_margin 10 = .ok (.iconst 1, 1) := by decide +kernel
theorem dX7_margin_11 : decode cX7_margin 11 = .ok (.goto 16, 3) := by decide +kernel
theorem dX7_margin_14 : decode cX7_margin 14 = .ok (.aload_n 0, 1) := by decide +kernel
theorem dX7_margin_15 : decode cX7_margin 15 = .ok (.iload_n 1, 1) := by decide +kernel
theorem dX7_margin_16 : decode cX7_margin 16 = .ok (.invokevirtual 78, 3) := by decide +kernel
theorem dX7_margin_19 : decode cX7_margin 19 = .ok (.ifCond .ge 7, 3) := by decide +kernel
theorem dX7_margin_22 : decode cX7_margin 22 = .ok (.iconst 2, 1) := by decide +kernel
theorem dX7_margin_23 : decode cX7_margin 23 = .ok (.goto 4, 3) := by decide +kernel
theorem dX7_margin_26 : decode cX7_margin 26 = .ok (.iconst 0, 1) := by decide +kernel
theorem dX7_margin_27 : decode cX7_margin 27 = .ok (.putfield 45, 3) := by decide +kernel
theorem dX7_margin_30 : decode cX7_margin 30 = .ok (.aload_n 0, 1) := by decide +kernel
theorem dX7_margin_31 : decode cX7_margin 31 = .ok (.getfield 45, 3) := by decide +kernel
theorem dX7_margin_34 : decode cX7_margin 34 = .ok (.ifCond .le 7, 3) := by decide +kernel
theorem dX7_margin_37 : decode cX7_margin 37 = .ok (.dconst 0, 1) := by decide +kernel
theorem dX7_margin_38 : decode cX7_margin 38 = .ok (.goto 9, 3) := by decide +kernel
theorem dX7_margin_41 : decode cX7_margin 41 = .ok (.aload_n 0, 1) := by decide +kernel
theorem dX7_margin_42 : decode cX7_margin 42 = .ok (.iload_n 1, 1) := by decide +kernel
theorem dX7_margin_43 : decode cX7_margin 43 = .ok (.iload_n 2, 1) := by decide +kernel
theorem dX7_margin_44 : decode cX7_margin 44 = .ok (.invokevirtual 135, 3) := by decide +kernel
theorem dX7_margin_47 : decode cX7_margin 47 = .ok (.dreturn, 1) := by decide +kernel
def tX7_margin_0 : Tb := [(0, .inl (f_aload 0, 1)), (1, .inl (f_aload 0, 2)), (2, .inl (f_iload 1, 3)), (3, .inl (f_iload 2, 4)), (4, .inr (.inr (.inl (13, 7, 3, mX7_isLocation)))), (7, .inr (.inl (b_if_eq, 10, 14))), (10, .inl (f_ci (1), 11)), (11, .inl (f_id, 27)), (14, .inl (f_aload 0, 15)), (15, .inl (f_iload 1, 16)), (16, .inr (.inr (.inl (13, 19, 2, mX7_above)))), (19, .inr (.inl (b_if_ge, 26, 22))), (22, .inl (f_ci (2), 23)), (23, .inl (f_id, 27)), (26, .inl (f_ci (0), 27)), (27, .inl (f_putI 7 0, 30)), (30, .inl (f_aload 0, 31)), (31, .inl (f_get 7 0, 34)), (34, .inr (.inl (b_if_le, 41, 37))), (37, .inl (f_cd 0, 38)), (38, .inl (f_id, 47)), (41, .inl (f_aload 0, 42)), (42, .inl (f_iload 1, 43)), (43, .inl (f_iload 2, 44)), (44, .inr (.inr (.inl (13, 47, 3, mX7_marginOf)))), (47, .inr (.inr (.inl (16, 48, 0, m0))))]
set_option maxRecDepth 10000 in
theorem kX7_margin_0 {X : Ctx} (h : sCx X mX7_margin) : tab X mX7_margin tX7_margin_0 :=
  tab_cons (eS (st_aloadn h rfl dX7_margin_0)) (
  tab_cons (eS (st_aloadn h rfl dX7_margin_1)) (
  tab_cons (eS (st_iloadn h rfl dX7_margin_2)) (
  tab_cons (eS (st_iloadn h rfl dX7_margin_3)) (
  tab_cons (eO (so_callV h gw_341 gw_342 gw_343 gw_295 gw_344 ⟨by decide +kernel, by decide +kernel, by decide +kernel, by decide +kernel⟩ ⟨by decide +kernel, by decide +kernel⟩ dX7_margin_4)) (
  tab_cons (eB (sb_if_ne h dX7_margin_7 (by decide))) (
  tab_cons (eS (st_iconst h (by decide +kernel) dX7_margin_10)) (
  tab_cons (eS (st_goto h dX7_margin_11 (by decide))) (
  tab_cons (eS (st_aloadn h rfl dX7_margin_14)) (
  tab_cons (eS (st_iloadn h rfl dX7_margin_15)) (
  tab_cons (eO (so_callV h gw_319 gw_320 gw_321 gw_295 gw_322 ⟨by decide +kernel, by decide +kernel, by decide +kernel, by decide +kernel⟩ ⟨by decide +kernel, by decide +kernel⟩ dX7_margin_16)) (
  tab_cons (eB (sb_if_ge h dX7_margin_19 (by decide))) (
  tab_cons (eS (st_iconst h (by decide +kernel) dX7_margin_22)) (
  tab_cons (eS (st_goto h dX7_margin_23 (by decide))) (
  tab_cons (eS (st_iconst h (by decide +kernel) dX7_margin_26)) (
  tab_cons (eS (st_putI h (ci := 7) (k := 0) tyX7 tyX7_ok nmX7 rfl giX7 (by decide) rfl rfl (by decide +kernel) gw_291 dX7_margin_27)) (
  tab_cons (eS (st_aloadn h rfl dX7_margin_30)) (
  tab_cons (eS (st_get h (ci := 7) (k := 0) rfl giX7 (by decide) rfl gw_291 dX7_margin_31)) (
  tab_cons (eB (sb_if_le h dX7_margin_34 (by decide))) (
  tab_cons (eS (st_dconst0 h rfl dX7_margin_37)) (
  tab_cons (eS (st_goto h dX7_margin_38 (by decide))) (
  tab_cons (eS (st_aloadn h rfl dX7_margin_41)) (
  tab_cons (eS (st_iloadn h rfl dX7_margin_42)) (
  tab_cons (eS (st_iloadn h rfl dX7_margin_43)) (
  tab_cons (eO (so_callV h gw_368 gw_369 gw_370 gw_295 gw_371 ⟨by decide +kernel, by decide +kernel, by decide +kernel, by decide +kernel⟩ ⟨by decide +kernel, by decide +kernel⟩ dX7_margin_44)) (
  tab_cons (eO (so_dreturn h dX7_margin_47)) (
  tab_nil))))))))))))))))))))))))))
def tX7_margin : Tb := tX7_margin_0
theorem kX7_margin {X : Ctx} (h : sCx X mX7_margin) : tab X mX7_margin tX7_margin := kX7_margin_0 h
theorem dX7_worst_0 : decode cX7_worst 0 = .ok (.aload_n 0, 1) := by decide +kernel
theorem dX7_worst_1 : decode cX7_worst 1 = .ok (.iload_n 1, 1) := by decide +kernel
theorem dX7_worst_2 : decode cX7_worst 2 = .ok (.iconst 0, 1) := by decide +kernel
theorem dX7_worst_3 : decode cX7_worst 3 = .ok (.invokevirtual 135, 3) := by decide +kernel
theorem dX7_worst_6 : decode cX7_worst 6 = .ok (.dstore_n 2, 1) := by decide +kernel
theorem dX7_worst_7 : decode cX7_worst 7 = .ok (.aload_n 0, 1) := by decide +kernel
theorem dX7_worst_8 : decode cX7_worst 8 = .ok (.iload_n 1, 1) := by decide +kernel
theorem dX7_worst_9 : decode cX7_worst 9 = .ok (.bipush 100, 2) := by decide +kernel
theorem dX7_worst_11 : decode cX7_worst 11 = .ok (.invokevirtual 135, 3) := by decide +kernel
theorem dX7_worst_14 : decode cX7_worst 14 = .ok (.dstore 4, 2) := by decide +kernel
theorem dX7_worst_16 : decode cX7_worst 16 = .ok (.dload_n 2, 1) := by decide +kernel
theorem dX7_worst_17 : decode cX7_worst 17 = .ok (.dload 4, 2) := by decide +kernel
theorem dX7_worst_19 : decode cX7_worst 19 = .ok (.dcmp .g, 1) := by decide +kernel
theorem dX7_worst_20 : decode cX7_worst 20 = .ok (.ifCond .ge 7, 3) := by decide +kernel
theorem dX7_worst_23 : decode cX7_worst 23 = .ok (.dload_n 2, 1) := by decide +kernel
theorem dX7_worst_24 : decode cX7_worst 24 = .ok (.goto 5, 3) := by decide +kernel
theorem dX7_worst_27 : decode cX7_worst 27 = .ok (.dload 4, 2) := by decide +kernel
theorem dX7_worst_29 : decode cX7_worst 29 = .ok (.dreturn, 1) := by decide +kernel
def tX7_worst_0 : Tb := [(0, .inl (f_aload 0, 1)), (1, .inl (f_iload 1, 2)), (2, .inl (f_ci (0), 3)), (3, .inr (.inr (.inl (13, 6, 3, mX7_marginOf)))), (6, .inl (f_dstore 6 2, 7)), (7, .inl (f_aload 0, 8)), (8, .inl (f_iload 1, 9)), (9, .inl (f_ci (100), 11)), (11, .inr (.inr (.inl (13, 14, 3, mX7_marginOf)))), (14, .inl (f_dstore 6 4, 16)), (16, .inl (f_dload 2, 17)), (17, .inl (f_dload 4, 19)), (19, .inl (f_dcmpg, 20)), (20, .inr (.inl (b_if_ge, 27, 23))), (23, .inl (f_dload 2, 24)), (24, .inl (f_id, 29)), (27, .inl (f_dload 4, 29)), (29, .inr (.inr (.inl (16, 30, 0, m0))))]
set_option maxRecDepth 10000 in
theorem kX7_worst_0 {X : Ctx} (h : sCx X mX7_worst) : tab X mX7_worst tX7_worst_0 :=
  tab_cons (eS (st_aloadn h rfl dX7_worst_0)) (
  tab_cons (eS (st_iloadn h rfl dX7_worst_1)) (
  tab_cons (eS (st_iconst h (by decide +kernel) dX7_worst_2)) (
  tab_cons (eO (so_callV h gw_368 gw_369 gw_370 gw_295 gw_371 ⟨by decide +kernel, by decide +kernel, by decide +kernel, by decide +kernel⟩ ⟨by decide +kernel, by decide +kernel⟩ dX7_worst_3)) (
  tab_cons (eS (st_dstoren h rfl dX7_worst_6)) (
  tab_cons (eS (st_aloadn h rfl dX7_worst_7)) (
  tab_cons (eS (st_iloadn h rfl dX7_worst_8)) (
  tab_cons (eS (st_bipush h (by decide +kernel) dX7_worst_9)) (
  tab_cons (eO (so_callV h gw_368 gw_369 gw_370 gw_295 gw_371 ⟨by decide +kernel, by decide +kernel, by decide +kernel, by decide +kernel⟩ ⟨by decide +kernel, by decide +kernel⟩ dX7_worst_11)) (
  tab_cons (eS (st_dstore h dX7_worst_14)) (
  tab_cons (eS (st_dloadn h rfl dX7_worst_16)) (
  tab_cons (eS (st_dload h dX7_worst_17)) (
  tab_cons (eS (st_dcmpg h dX7_worst_19)) (
  tab_cons (eB (sb_if_ge h dX7_worst_20 (by decide))) (
  tab_cons (eS (st_dloadn h rfl dX7_worst_23)) (
  tab_cons (eS (st_goto h dX7_worst_24 (by decide))) (
  tab_cons (eS (st_dload h dX7_worst_27)) (
  tab_cons (eO (so_dreturn h dX7_worst_29)) (
  tab_nil))))))))))))))))))
def tX7_worst : Tb := tX7_worst_0
theorem kX7_worst {X : Ctx} (h : sCx X mX7_worst) : tab X mX7_worst tX7_worst := kX7_worst_0 h
theorem dX7_isViolation_0 : decode cX7_isViolation 0 = .ok (.aload_n 0, 1) := by decide +kernel
theorem dX7_isViolation_1 : decode cX7_isViolation 1 = .ok (.iload_n 1, 1) := by decide +kernel
theorem dX7_isViolation_2 : decode cX7_isViolation 2 = .ok (.invokevirtual 78, 3) := by decide +kernel
theorem dX7_isViolation_5 : decode cX7_isViolation 5 = .ok (.ifCond .lt 22, 3) := by decide +kernel
theorem dX7_isViolation_8 : decode cX7_isViolation 8 = .ok (.aload_n 0, 1) := by decide +kernel
theorem dX7_isViolation_9 : decode cX7_isViolation 9 = .ok (.iload_n 1, 1) := by decide +kernel
theorem dX7_isViolation_10 : decode cX7_isViolation 10 = .ok (.invokevirtual 138, 3) := by decide +kernel
theorem dX7_isViolation_13 : decode cX7_isViolation 13 = .ok (.aload_n 0, 1) := by decide +kernel
theorem dX7_isViolation_14 : decode cX7_isViolation 14 = .ok (.getfield 13, 3) := by decide +kernel
theorem dX7_isViolation_17 : decode cX7_isViolation 17 = .ok (.iconst 2, 1) := by decide +kernel
theorem dX7_isViolation_18 : decode cX7_isViolation 18 = .ok (.daload, 1) := by decide +kernel
theorem dX7_isViolation_19 : decode cX7_isViolation 19 = .ok (.dcmp .g, 1) := by decide +kernel
theorem dX7_isViolation_20 : decode cX7_isViolation 20 = .ok (.ifCond .ge 7, 3) := by decide +kernel
theorem dX7_isViolation_23 : decode cX7_isViolation 23 = .ok (.iconst 1, 1) := by decide +kernel
theorem dX7_isViolation_24 : decode cX7_isViolation 24 = .ok (.goto 4, 3) := by decide +kernel
theorem dX7_isViolation_27 : decode cX7_isViolation 27 = .ok (.iconst 0, 1) := by decide +kernel
theorem dX7_isViolation_28 : decode cX7_isViolation 28 = .ok (.ireturn, 1) := by decide +kernel
def tX7_isViolation_0 : Tb := [(0, .inl (f_aload 0, 1)), (1, .inl (f_iload 1, 2)), (2, .inr (.inr (.inl (13, 5, 2, mX7_above)))), (5, .inr (.inl (b_if_lt, 27, 8))), (8, .inl (f_aload 0, 9)), (9, .inl (f_iload 1, 10)), (10, .inr (.inr (.inl (13, 13, 2, mX7_worst)))), (13, .inl (f_aload 0, 14)), (14, .inl (f_get 7 2, 17)), (17, .inl (f_ci (2), 18)), (18, .inr (.inr (.inl (1, 19, 0, m0)))), (19, .inl (f_dcmpg, 20)), (20, .inr (.inl (b_if_ge, 27, 23))), (23, .inl (f_ci (1), 24)), (24, .inl (f_id, 28)), (27, .inl (f_ci (0), 28)), (28, .inr (.inr (.inl (15, 29, 0, m0))))]
set_option maxRecDepth 10000 in
theorem kX7_isViolation_0 {X : Ctx} (h : sCx X mX7_isViolation) : tab X mX7_isViolation tX7_isViolation_0 :=
  tab_cons (eS (st_aloadn h rfl dX7_isViolation_0)) (
  tab_cons (eS (st_iloadn h rfl dX7_isViolation_1)) (
  tab_cons (eO (so_callV h gw_319 gw_320 gw_321 gw_295 gw_322 ⟨by decide +kernel, by decide +kernel, by decide +kernel, by decide +kernel⟩ ⟨by decide +kernel, by decide +kernel⟩ dX7_isViolation_2)) (
  tab_cons (eB (sb_if_lt h dX7_isViolation_5 (by decide))) (
  tab_cons (eS (st_aloadn h rfl dX7_isViolation_8)) (
  tab_cons (eS (st_iloadn h rfl dX7_isViolation_9)) (
  tab_cons (eO (so_callV h gw_372 gw_373 gw_374 gw_295 gw_375 ⟨by decide +kernel, by decide +kernel, by decide +kernel, by decide +kernel⟩ ⟨by decide +kernel, by decide +kernel⟩ dX7_isViolation_10)) (
  tab_cons (eS (st_aloadn h rfl dX7_isViolation_13)) (
  tab_cons (eS (st_get h (ci := 7) (k := 2) rfl giX7 (by decide) rfl gw_300 dX7_isViolation_14)) (
  tab_cons (eS (st_iconst h (by decide +kernel) dX7_isViolation_17)) (
  tab_cons (eO (so_daload h dX7_isViolation_18)) (
  tab_cons (eS (st_dcmpg h dX7_isViolation_19)) (
  tab_cons (eB (sb_if_ge h dX7_isViolation_20 (by decide))) (
  tab_cons (eS (st_iconst h (by decide +kernel) dX7_isViolation_23)) (
  tab_cons (eS (st_goto h dX7_isViolation_24 (by decide))) (
  tab_cons (eS (st_iconst h (by decide +kernel) dX7_isViolation_27)) (
  tab_cons (eO (so_ireturn h dX7_isViolation_28)) (
  tab_nil)))))))))))))))))
def tX7_isViolation : Tb := tX7_isViolation_0
theorem kX7_isViolation {X : Ctx} (h : sCx X mX7_isViolation) : tab X mX7_isViolation tX7_isViolation := kX7_isViolation_0 h
theorem dX7_violations_0 : decode cX7_violations 0 = .ok (.iconst 0, 1) := by decide +kernel
theorem dX7_violations_1 : decode cX7_violations 1 = .ok (.istore_n 1, 1) := by decide +kernel
theorem dX7_violations_2 : decode cX7_violations 2 = .ok (.iconst 0, 1) := by decide +kernel
theorem dX7_violations_3 : decode cX7_violations 3 = .ok (.istore_n 2, 1) := by decide +kernel
theorem dX7_violations_4 : decode cX7_violations 4 = .ok (.iload_n 2, 1) := by decide +kernel
theorem dX7_violations_5 : decode cX7_violations 5 = .ok (.aload_n 0, 1) := by decide +kernel
theorem dX7_violations_6 : decode cX7_violations 6 = .ok (.getfield 7, 3) := by decide +kernel
theorem dX7_violations_9 : decode cX7_violations 9 = .ok (.iconst 0, 1) := by decide +kernel
theorem dX7_violations_10 : decode cX7_violations 10 = .ok (.iaload, 1) := by decide +kernel
theorem dX7_violations_11 : decode cX7_violations 11 = .ok (.if_icmp .ge 25, 3) := by decide +kernel
theorem dX7_violations_14 : decode cX7_violations 14 = .ok (.iload_n 1, 1) := by decide +kernel
theorem dX7_violations_15 : decode cX7_violations 15 = .ok (.aload_n 0, 1) := by decide +kernel
theorem dX7_violations_16 : decode cX7_violations 16 = .ok (.iload_n 2, 1) := by decide +kernel
theorem dX7_violations_17 : decode cX7_violations 17 = .ok (.invokevirtual 142, 3) := by decide +kernel
theorem dX7_violations_20 : decode cX7_violations 20 = .ok (.ifCond .eq 7, 3) := by decide +kernel
theorem dX7_violations_23 : decode cX7_violations 23 = .ok (.iconst 1, 1) := by decide +kernel
theorem dX7_violations_24 : decode cX7_violations 24 = .ok (.goto 4, 3) := by decide +kernel
theorem dX7_violations_27 : decode cX7_violations 27 = .ok (.iconst 0, 1) := by decide +kernel
theorem dX7_violations_28 : decode cX7_violations 28 = .ok (.iadd, 1) := by decide +kernel
theorem dX7_violations_29 : decode cX7_violations 29 = .ok (.istore_n 1, 1) := by decide +kernel
theorem dX7_violations_30 : decode cX7_violations 30 = .ok (.iinc 2 1, 3) := by decide +kernel
theorem dX7_violations_33 : decode cX7_violations 33 = .ok (.goto (-29), 3) := by decide +kernel
theorem dX7_violations_36 : decode cX7_violations 36 = .ok (.iload_n 1, 1) := by decide +kernel
theorem dX7_violations_37 : decode cX7_violations 37 = .ok (.ireturn, 1) := by decide +kernel
def tX7_violations_0 : Tb := [(0, .inl (f_ci (0), 1)), (1, .inl (f_istore 3 1, 2)), (2, .inl (f_ci (0), 3)), (3, .inl (f_istore 3 2, 4)), (4, .inl (f_iload 2, 5)), (5, .inl (f_aload 0, 6)), (6, .inl (f_get 7 1, 9)), (9, .inl (f_ci (0), 10)), (10, .inr (.inr (.inl (0, 11, 0, m0)))), (11, .inr (.inl (b_icmp_ge, 36, 14))), (14, .inl (f_iload 1, 15)), (15, .inl (f_aload 0, 16)), (16, .inl (f_iload 2, 17)), (17, .inr (.inr (.inl (13, 20, 2, mX7_isViolation)))), (20, .inr (.inl (b_if_eq, 27, 23))), (23, .inl (f_ci (1), 24)), (24, .inl (f_id, 28)), (27, .inl (f_ci (0), 28)), (28, .inl (f_iadd, 29)), (29, .inl (f_istore 3 1, 30)), (30, .inl (f_iinc 3 2 (1), 33)), (33, .inl (f_id, 4)), (36, .inl (f_iload 1, 37)), (37, .inr (.inr (.inl (15, 38, 0, m0))))]
set_option maxRecDepth 10000 in
theorem kX7_violations_0 {X : Ctx} (h : sCx X mX7_violations) : tab X mX7_violations tX7_violations_0 :=
  tab_cons (eS (st_iconst h (by decide +kernel) dX7_violations_0)) (
  tab_cons (eS (st_istoren h rfl dX7_violations_1)) (
  tab_cons (eS (st_iconst h (by decide +kernel) dX7_violations_2)) (
  tab_cons (eS (st_istoren h rfl dX7_violations_3)) (
  tab_cons (eS (st_iloadn h rfl dX7_violations_4)) (
  tab_cons (eS (st_aloadn h rfl dX7_violations_5)) (
  tab_cons (eS (st_get h (ci := 7) (k := 1) rfl giX7 (by decide) rfl gw_292 dX7_violations_6)) (
  tab_cons (eS (st_iconst h (by decide +kernel) dX7_violations_9)) (
  tab_cons (eO (so_iaload h dX7_violations_10)) (
  tab_cons (eB (sb_icmp_ge h dX7_violations_11 (by decide))) (
  tab_cons (eS (st_iloadn h rfl dX7_violations_14)) (
  tab_cons (eS (st_aloadn h rfl dX7_violations_15)) (
  tab_cons (eS (st_iloadn h rfl dX7_violations_16)) (
  tab_cons (eO (so_callV h gw_376 gw_377 gw_378 gw_295 gw_379 ⟨by decide +kernel, by decide +kernel, by decide +kernel, by decide +kernel⟩ ⟨by decide +kernel, by decide +kernel⟩ dX7_violations_17)) (
  tab_cons (eB (sb_if_eq h dX7_violations_20 (by decide))) (
  tab_cons (eS (st_iconst h (by decide +kernel) dX7_violations_23)) (
  tab_cons (eS (st_goto h dX7_violations_24 (by decide))) (
  tab_cons (eS (st_iconst h (by decide +kernel) dX7_violations_27)) (
  tab_cons (eS (st_iadd h dX7_violations_28)) (
  tab_cons (eS (st_istoren h rfl dX7_violations_29)) (
  tab_cons (eS (st_iinc h (by decide +kernel) dX7_violations_30)) (
  tab_cons (eS (st_goto h dX7_violations_33 (by decide))) (
  tab_cons (eS (st_iloadn h rfl dX7_violations_36)) (
  tab_cons (eO (so_ireturn h dX7_violations_37)) (
  tab_nil))))))))))))))))))))))))
def tX7_violations : Tb := tX7_violations_0
theorem kX7_violations {X : Ctx} (h : sCx X mX7_violations) : tab X mX7_violations tX7_violations := kX7_violations_0 h
theorem dX7_violationCount_0 : decode cX7_violationCount 0 = .ok (.aload_n 0, 1) := by decide +kernel
theorem dX7_violationCount_1 : decode cX7_violationCount 1 = .ok (.iconst 0, 1) := by decide +kernel
theorem dX7_violationCount_2 : decode cX7_violationCount 2 = .ok (.putfield 45, 3) := by decide +kernel
theorem dX7_violationCount_5 : decode cX7_violationCount 5 = .ok (.aload_n 0, 1) := by decide +kernel
theorem dX7_violationCount_6 : decode cX7_violationCount 6 = .ok (.invokevirtual 145, 3) := by decide +kernel
theorem dX7_violationCount_9 : decode cX7_violationCount 9 = .ok (.ireturn, 1) := by decide +kernel
def tX7_violationCount_0 : Tb := [(0, .inl (f_aload 0, 1)), (1, .inl (f_ci (0), 2)), (2, .inl (f_putI 7 0, 5)), (5, .inl (f_aload 0, 6)), (6, .inr (.inr (.inl (13, 9, 1, mX7_violations)))), (9, .inr (.inr (.inl (15, 10, 0, m0))))]
set_option maxRecDepth 10000 in
theorem kX7_violationCount_0 {X : Ctx} (h : sCx X mX7_violationCount) : tab X mX7_violationCount tX7_violationCount_0 :=
  tab_cons (eS (st_aloadn h rfl dX7_violationCount_0)) (
  tab_cons (eS (st_iconst h (by decide +kernel) dX7_violationCount_1)) (
  tab_cons (eS (st_putI h (ci := 7) (k := 0) tyX7 tyX7_ok nmX7 rfl giX7 (by decide) rfl rfl (by decide +kernel) gw_291 dX7_violationCount_2)) (
  tab_cons (eS (st_aloadn h rfl dX7_violationCount_5)) (
  tab_cons (eO (so_callV h gw_380 gw_381 gw_382 gw_295 gw_383 ⟨by decide +kernel, by decide +kernel, by decide +kernel, by decide +kernel⟩ ⟨by decide +kernel, by decide +kernel⟩ dX7_violationCount_6)) (
  tab_cons (eO (so_ireturn h dX7_violationCount_9)) (
  tab_nil))))))
def tX7_violationCount : Tb := tX7_violationCount_0
theorem kX7_violationCount {X : Ctx} (h : sCx X mX7_violationCount) : tab X mX7_violationCount tX7_violationCount := kX7_violationCount_0 h
theorem dX7_violation_0 : decode cX7_violation 0 = .ok (.aload_n 0, 1) := by decide +kernel
theorem dX7_violation_1 : decode cX7_violation 1 = .ok (.iload_n 1, 1) := by decide +kernel
theorem dX7_violation_2 : decode cX7_violation 2 = .ok (.iconst 0, 1) := by decide +kernel
theorem dX7_violation_3 : decode cX7_violation 3 = .ok (.aload_n 0, 1) := by decide +kernel
theorem dX7_violation_4 : decode cX7_violation 4 = .ok (.invokevirtual 145, 3) := by decide +kernel
theorem dX7_violation_7 : decode cX7_violation 7 = .ok (.iconst 1, 1) := by decide +kernel
theorem dX7_violation_8 : decode cX7_violation 8 = .ok (.isub, 1) := by decide +kernel
theorem dX7_violation_9 : decode cX7_violation 9 = .ok (.invokestatic 49, 3) := by decide +kernel
theorem dX7_violation_12 : decode cX7_violation 12 = .ok (.ifCond .eq 7, 3) := by decide +kernel
theorem dX7_violation_15 : decode cX7_violation 15 = .ok (.iconst 0, 1) := by decide +kernel
theorem dX7_violation_16 : decode cX7_violation 16 = .ok (.goto 4, 3) := by decide +kernel
theorem dX7_violation_19 : decode cX7_violation 19 = .ok (.iconst 1, 1) := by decide +kernel
theorem dX7_violation_20 : decode cX7_violation 20 = .ok (.putfield 45, 3) := by decide +kernel
theorem dX7_violation_23 : decode cX7_violation 23 = .ok (.iconst 0, 1) := by decide +kernel
theorem dX7_violation_24 : decode cX7_violation 24 = .ok (.istore_n 2, 1) := by decide +kernel
theorem dX7_violation_25 : decode cX7_violation 25 = .ok (.iload_n 2, 1) := by decide +kernel
theorem dX7_violation_26 : decode cX7_violation 26 = .ok (.aload_n 0, 1) := by decide +kernel
theorem dX7_violation_27 : decode cX7_violation 27 = .ok (.getfield 7, 3) := by decide +kernel
theorem dX7_violation_30 : decode cX7_violation 30 = .ok (.iconst 0, 1) := by decide +kernel
theorem dX7_violation_31 : decode cX7_violation 31 = .ok (.iaload, 1) := by decide +kernel
theorem dX7_violation_32 : decode cX7_violation 32 = .ok (.if_icmp .ge 114, 3) := by decide +kernel
theorem dX7_violation_35 : decode cX7_violation 35 = .ok (.aload_n 0, 1) := by decide +kernel
theorem dX7_violation_36 : decode cX7_violation 36 = .ok (.getfield 45, 3) := by decide +kernel
theorem dX7_violation_39 : decode cX7_violation 39 = .ok (.ifCond .ne 107, 3) := by decide +kernel
theorem dX7_violation_42 : decode cX7_violation 42 = .ok (.iconst 0, 1) := by decide +kernel
theorem dX7_violation_43 : decode cX7_violation 43 = .ok (.istore_n 3, 1) := by decide +kernel
theorem dX7_violation_44 : decode cX7_violation 44 = .ok (.iconst 0, 1) := by decide +kernel
theorem dX7_violation_45 : decode cX7_violation 45 = .ok (.istore 4, 2) := by decide +kernel
theorem dX7_violation_47 : decode cX7_violation 47 = .ok (.iload 4, 2) := by decide +kernel
theorem dX7_violation_49 : decode cX7_violation 49 = .ok (.aload_n 0, 1) := by decide +kernel
theorem dX7_violation_50 : decode cX7_violation 50 = .ok (.getfield 7, 3) := by decide +kernel
theorem dX7_violation_53 : decode cX7_violation 53 = .ok (.iconst 0, 1) := by decide +kernel
theorem dX7_violation_54 : decode cX7_violation 54 = .ok (.iaload, 1) := by decide +kernel
theorem dX7_violation_55 : decode cX7_violation 55 = .ok (.if_icmp .ge 70, 3) := by decide +kernel
theorem dX7_violation_58 : decode cX7_violation 58 = .ok (.aload_n 0, 1) := by decide +kernel
theorem dX7_violation_59 : decode cX7_violation 59 = .ok (.iload_n 2, 1) := by decide +kernel
theorem dX7_violation_60 : decode cX7_violation 60 = .ok (.invokevirtual 142, 3) := by decide +kernel
theorem dX7_violation_63 : decode cX7_violation 63 = .ok (.ifCond .eq 62, 3) := by decide +kernel
theorem dX7_violation_66 : decode cX7_violation 66 = .ok (.iload_n 3, 1) := by decide +kernel
theorem dX7_violation_67 : decode cX7_violation 67 = .ok (.aload_n 0, 1) := by decide +kernel
theorem dX7_violation_68 : decode cX7_violation 68 = .ok (.iload 4, 2) := by decide +kernel
theorem dX7_violation_70 : decode cX7_violation 70 = .ok (.invokevirtual 142, 3) := by decide +kernel
theorem dX7_violation_73 : decode cX7_violation 73 = .ok (.ifCond .eq 43, 3) := by decide +kernel
theorem dX7_violation_76 : decode cX7_violation 76 = .ok (.aload_n 0, 1) := by decide +kernel
theorem dX7_violation_77 : decode cX7_violation 77 = .ok (.iload 4, 2) := by decide +kernel
theorem dX7_violation_79 : decode cX7_violation 79 = .ok (.invokevirtual 138, 3) := by decide +kernel
theorem dX7_violation_82 : decode cX7_violation 82 = .ok (.aload_n 0, 1) := by decide +kernel
theorem dX7_violation_83 : decode cX7_violation 83 = .ok (.iload_n 2, 1) := by decide +kernel
theorem dX7_violation_84 : decode cX7_violation 84 = .ok (.invokevirtual 138, 3) := by decide +kernel
theorem dX7_violation_87 : decode cX7_violation 87 = .ok (.dcmp .g, 1) := by decide +kernel
theorem dX7_violation_88 : decode cX7_violation 88 = .ok (.ifCond .lt 24, 3) := by decide +kernel
theorem dX7_violation_91 : decode cX7_violation 91 = .ok (.aload_n 0, 1) := by decide +kernel
theorem dX7_violation_92 : decode cX7_violation 92 = .ok (.iload 4, 2) := by decide +kernel
theorem dX7_violation_94 : decode cX7_violation 94 = .ok (.invokevirtual 138, 3) := by decide +kernel
theorem dX7_violation_97 : decode cX7_violation 97 = .ok (.aload_n 0, 1) := by decide +kernel
theorem dX7_violation_98 : decode cX7_violation 98 = .ok (.iload_n 2, 1) := by decide +kernel
theorem dX7_violation_99 : decode cX7_violation 99 = .ok (.invokevirtual 138, 3) := by decide +kernel
theorem dX7_violation_102 : decode cX7_violation 102 = .ok (.dcmp .l, 1) := by decide +kernel
theorem dX7_violation_103 : decode cX7_violation 103 = .ok (.ifCond .ne 13, 3) := by decide +kernel
theorem dX7_violation_106 : decode cX7_violation 106 = .ok (.iload 4, 2) := by decide +kernel
theorem dX7_violation_108 : decode cX7_violation 108 = .ok (.iload_n 2, 1) := by decide +kernel
theorem dX7_violation_109 : decode cX7_violation 109 = .ok (.if_icmp .ge 7, 3) := by decide +kernel
theorem dX7_violation_112 : decode cX7_violation 112 = .ok (.iconst 1, 1) := by decide +kernel
theorem dX7_violation_113 : decode cX7_violation 113 = .ok (.goto 4, 3) := by decide +kernel
theorem dX7_violation_116 : decode cX7_violation 116 = .ok (.iconst 0, 1) := by decide +kernel
theorem dX7_violation_117 : decode cX7_violation 117 = .ok (.iadd, 1) := by decide +kernel
theorem dX7_violation_118 : decode cX7_violation 118 = .ok (.istore_n 3, 1) := by decide +kernel
theorem dX7_violation_119 : decode cX7_violation 119 = .ok (.iinc 4 1, 3) := by decide +kernel
theorem dX7_violation_122 : decode cX7_violation 122 = .ok (.goto (-75), 3) := by decide +kernel
theorem dX7_violation_125 : decode cX7_violation 125 = .ok (.aload_n 0, 1) := by decide +kernel
theorem dX7_violation_126 : decode cX7_violation 126 = .ok (.iload_n 2, 1) := by decide +kernel
theorem dX7_violation_127 : decode cX7_violation 127 = .ok (.invokevirtual 142, 3) := by decide +kernel
theorem dX7_violation_130 : decode cX7_violation 130 = .ok (.ifCond .eq 10, 3) := by decide +kernel
theorem dX7_violation_133 : decode cX7_violation 133 = .ok (.iload_n 3, 1) := by decide +kernel
theorem dX7_violation_134 : decode cX7_violation 134 = .ok (.iload_n 1, 1) := by decide +kernel
theorem dX7_violation_135 : decode cX7_violation 135 = .ok (.if_icmp .ne 5, 3) := by decide +kernel
theorem dX7_violation_138 : decode cX7_violation 138 = .ok (.iload_n 2, 1) := by decide +kernel
theorem dX7_violation_139 : decode cX7_violation 139 = .ok (.ireturn, 1) := by decide +kernel
theorem dX7_violation_140 : decode cX7_violation 140 = .ok (.iinc 2 1, 3) := by decide +kernel
theorem dX7_violation_143 : decode cX7_violation 143 = .ok (.goto (-118), 3) := by decide +kernel
theorem dX7_violation_146 : decode cX7_violation 146 = .ok (.iconst 0, 1) := by decide +kernel
theorem dX7_violation_147 : decode cX7_violation 147 = .ok (.ireturn, 1) := by decide +kernel
def tX7_violation_0 : Tb := [(0, .inl (f_aload 0, 1)), (1, .inl (f_iload 1, 2)), (2, .inl (f_ci (0), 3)), (3, .inl (f_aload 0, 4)), (4, .inr (.inr (.inl (13, 7, 1, mX7_violations)))), (7, .inl (f_ci (1), 8)), (8, .inl (f_isub, 9)), (9, .inr (.inr (.inl (14, 12, 3, mX7_in)))), (12, .inr (.inl (b_if_eq, 19, 15))), (15, .inl (f_ci (0), 16)), (16, .inl (f_id, 20)), (19, .inl (f_ci (1), 20)), (20, .inl (f_putI 7 0, 23)), (23, .inl (f_ci (0), 24)), (24, .inl (f_istore 5 2, 25)), (25, .inl (f_iload 2, 26)), (26, .inl (f_aload 0, 27)), (27, .inl (f_get 7 1, 30)), (30, .inl (f_ci (0), 31)), (31, .inr (.inr (.inl (0, 32, 0, m0)))), (32, .inr (.inl (b_icmp_ge, 146, 35))), (35, .inl (f_aload 0, 36)), (36, .inl (f_get 7 0, 39)), (39, .inr (.inl (b_if_eq, 42, 146))), (42, .inl (f_ci (0), 43)), (43, .inl (f_istore 5 3, 44)), (44, .inl (f_ci (0), 45)), (45, .inl (f_istore 5 4, 47)), (47, .inl (f_iload 4, 49)), (49, .inl (f_aload 0, 50))]
set_option maxRecDepth 10000 in
theorem kX7_violation_0 {X : Ctx} (h : sCx X mX7_violation) : tab X mX7_violation tX7_violation_0 :=
  tab_cons (eS (st_aloadn h rfl dX7_violation_0)) (
  tab_cons (eS (st_iloadn h rfl dX7_violation_1)) (
  tab_cons (eS (st_iconst h (by decide +kernel) dX7_violation_2)) (
  tab_cons (eS (st_aloadn h rfl dX7_violation_3)) (
  tab_cons (eO (so_callV h gw_380 gw_381 gw_382 gw_295 gw_383 ⟨by decide +kernel, by decide +kernel, by decide +kernel, by decide +kernel⟩ ⟨by decide +kernel, by decide +kernel⟩ dX7_violation_4)) (
  tab_cons (eS (st_iconst h (by decide +kernel) dX7_violation_7)) (
  tab_cons (eS (st_isub h dX7_violation_8)) (
  tab_cons (eO (so_callS h gw_293 gw_294 gw_295 gw_296 ⟨by decide +kernel, by decide +kernel, by decide +kernel⟩ ⟨by decide +kernel, by decide +kernel⟩ dX7_violation_9)) (
  tab_cons (eB (sb_if_eq h dX7_violation_12 (by decide))) (
  tab_cons (eS (st_iconst h (by decide +kernel) dX7_violation_15)) (
  tab_cons (eS (st_goto h dX7_violation_16 (by decide))) (
  tab_cons (eS (st_iconst h (by decide +kernel) dX7_violation_19)) (
  tab_cons (eS (st_putI h (ci := 7) (k := 0) tyX7 tyX7_ok nmX7 rfl giX7 (by decide) rfl rfl (by decide +kernel) gw_291 dX7_violation_20)) (
  tab_cons (eS (st_iconst h (by decide +kernel) dX7_violation_23)) (
  tab_cons (eS (st_istoren h rfl dX7_violation_24)) (
  tab_cons (eS (st_iloadn h rfl dX7_violation_25)) (
  tab_cons (eS (st_aloadn h rfl dX7_violation_26)) (
  tab_cons (eS (st_get h (ci := 7) (k := 1) rfl giX7 (by decide) rfl gw_292 dX7_violation_27)) (
  tab_cons (eS (st_iconst h (by decide +kernel) dX7_violation_30)) (
  tab_cons (eO (so_iaload h dX7_violation_31)) (
  tab_cons (eB (sb_icmp_ge h dX7_violation_32 (by decide))) (
  tab_cons (eS (st_aloadn h rfl dX7_violation_35)) (
  tab_cons (eS (st_get h (ci := 7) (k := 0) rfl giX7 (by decide) rfl gw_291 dX7_violation_36)) (
  tab_cons (eB (sb_if_ne h dX7_violation_39 (by decide))) (
  tab_cons (eS (st_iconst h (by decide +kernel) dX7_violation_42)) (
  tab_cons (eS (st_istoren h rfl dX7_violation_43)) (
  tab_cons (eS (st_iconst h (by decide +kernel) dX7_violation_44)) (
  tab_cons (eS (st_istore h dX7_violation_45)) (
  tab_cons (eS (st_iload h dX7_violation_47)) (
  tab_cons (eS (st_aloadn h rfl dX7_violation_49)) (
  tab_nil))))))))))))))))))))))))))))))
def tX7_violation_1 : Tb := [(50, .inl (f_get 7 1, 53)), (53, .inl (f_ci (0), 54)), (54, .inr (.inr (.inl (0, 55, 0, m0)))), (55, .inr (.inl (b_icmp_ge, 125, 58))), (58, .inl (f_aload 0, 59)), (59, .inl (f_iload 2, 60)), (60, .inr (.inr (.inl (13, 63, 2, mX7_isViolation)))), (63, .inr (.inl (b_if_eq, 125, 66))), (66, .inl (f_iload 3, 67)), (67, .inl (f_aload 0, 68)), (68, .inl (f_iload 4, 70)), (70, .inr (.inr (.inl (13, 73, 2, mX7_isViolation)))), (73, .inr (.inl (b_if_eq, 116, 76))), (76, .inl (f_aload 0, 77)), (77, .inl (f_iload 4, 79)), (79, .inr (.inr (.inl (13, 82, 2, mX7_worst)))), (82, .inl (f_aload 0, 83)), (83, .inl (f_iload 2, 84)), (84, .inr (.inr (.inl (13, 87, 2, mX7_worst)))), (87, .inl (f_dcmpg, 88)), (88, .inr (.inl (b_if_lt, 112, 91))), (91, .inl (f_aload 0, 92)), (92, .inl (f_iload 4, 94)), (94, .inr (.inr (.inl (13, 97, 2, mX7_worst)))), (97, .inl (f_aload 0, 98)), (98, .inl (f_iload 2, 99)), (99, .inr (.inr (.inl (13, 102, 2, mX7_worst)))), (102, .inl (f_dcmpl, 103)), (103, .inr (.inl (b_if_eq, 106, 116))), (106, .inl (f_iload 4, 108))]
set_option maxRecDepth 10000 in
theorem kX7_violation_1 {X : Ctx} (h : sCx X mX7_violation) : tab X mX7_violation tX7_violation_1 :=
  tab_cons (eS (st_get h (ci := 7) (k := 1) rfl giX7 (by decide) rfl gw_292 dX7_violation_50)) (
  tab_cons (eS (st_iconst h (by decide +kernel) dX7_violation_53)) (
  tab_cons (eO (so_iaload h dX7_violation_54)) (
  tab_cons (eB (sb_icmp_ge h dX7_violation_55 (by decide))) (
  tab_cons (eS (st_aloadn h rfl dX7_violation_58)) (
  tab_cons (eS (st_iloadn h rfl dX7_violation_59)) (
  tab_cons (eO (so_callV h gw_376 gw_377 gw_378 gw_295 gw_379 ⟨by decide +kernel, by decide +kernel, by decide +kernel, by decide +kernel⟩ ⟨by decide +kernel, by decide +kernel⟩ dX7_violation_60)) (
  tab_cons (eB (sb_if_eq h dX7_violation_63 (by decide))) (
  tab_cons (eS (st_iloadn h rfl dX7_violation_66)) (
  tab_cons (eS (st_aloadn h rfl dX7_violation_67)) (
  tab_cons (eS (st_iload h dX7_violation_68)) (
  tab_cons (eO (so_callV h gw_376 gw_377 gw_378 gw_295 gw_379 ⟨by decide +kernel, by decide +kernel, by decide +kernel, by decide +kernel⟩ ⟨by decide +kernel, by decide +kernel⟩ dX7_violation_70)) (
  tab_cons (eB (sb_if_eq h dX7_violation_73 (by decide))) (
  tab_cons (eS (st_aloadn h rfl dX7_violation_76)) (
  tab_cons (eS (st_iload h dX7_violation_77)) (
  tab_cons (eO (so_callV h gw_372 gw_373 gw_374 gw_295 gw_375 ⟨by decide +kernel, by decide +kernel, by decide +kernel, by decide +kernel⟩ ⟨by decide +kernel, by decide +kernel⟩ dX7_violation_79)) (
  tab_cons (eS (st_aloadn h rfl dX7_violation_82)) (
  tab_cons (eS (st_iloadn h rfl dX7_violation_83)) (
  tab_cons (eO (so_callV h gw_372 gw_373 gw_374 gw_295 gw_375 ⟨by decide +kernel, by decide +kernel, by decide +kernel, by decide +kernel⟩ ⟨by decide +kernel, by decide +kernel⟩ dX7_violation_84)) (
  tab_cons (eS (st_dcmpg h dX7_violation_87)) (
  tab_cons (eB (sb_if_lt h dX7_violation_88 (by decide))) (
  tab_cons (eS (st_aloadn h rfl dX7_violation_91)) (
  tab_cons (eS (st_iload h dX7_violation_92)) (
  tab_cons (eO (so_callV h gw_372 gw_373 gw_374 gw_295 gw_375 ⟨by decide +kernel, by decide +kernel, by decide +kernel, by decide +kernel⟩ ⟨by decide +kernel, by decide +kernel⟩ dX7_violation_94)) (
  tab_cons (eS (st_aloadn h rfl dX7_violation_97)) (
  tab_cons (eS (st_iloadn h rfl dX7_violation_98)) (
  tab_cons (eO (so_callV h gw_372 gw_373 gw_374 gw_295 gw_375 ⟨by decide +kernel, by decide +kernel, by decide +kernel, by decide +kernel⟩ ⟨by decide +kernel, by decide +kernel⟩ dX7_violation_99)) (
  tab_cons (eS (st_dcmpl h dX7_violation_102)) (
  tab_cons (eB (sb_if_ne h dX7_violation_103 (by decide))) (
  tab_cons (eS (st_iload h dX7_violation_106)) (
  tab_nil))))))))))))))))))))))))))))))
def tX7_violation_2 : Tb := [(108, .inl (f_iload 2, 109)), (109, .inr (.inl (b_icmp_ge, 116, 112))), (112, .inl (f_ci (1), 113)), (113, .inl (f_id, 117)), (116, .inl (f_ci (0), 117)), (117, .inl (f_iadd, 118)), (118, .inl (f_istore 5 3, 119)), (119, .inl (f_iinc 5 4 (1), 122)), (122, .inl (f_id, 47)), (125, .inl (f_aload 0, 126)), (126, .inl (f_iload 2, 127)), (127, .inr (.inr (.inl (13, 130, 2, mX7_isViolation)))), (130, .inr (.inl (b_if_eq, 140, 133))), (133, .inl (f_iload 3, 134)), (134, .inl (f_iload 1, 135)), (135, .inr (.inl (b_icmp_eq, 138, 140))), (138, .inl (f_iload 2, 139)), (139, .inr (.inr (.inl (15, 140, 0, m0)))), (140, .inl (f_iinc 5 2 (1), 143)), (143, .inl (f_id, 25)), (146, .inl (f_ci (0), 147)), (147, .inr (.inr (.inl (15, 148, 0, m0))))]
set_option maxRecDepth 10000 in
theorem kX7_violation_2 {X : Ctx} (h : sCx X mX7_violation) : tab X mX7_violation tX7_violation_2 :=
  tab_cons (eS (st_iloadn h rfl dX7_violation_108)) (
  tab_cons (eB (sb_icmp_ge h dX7_violation_109 (by decide))) (
  tab_cons (eS (st_iconst h (by decide +kernel) dX7_violation_112)) (
  tab_cons (eS (st_goto h dX7_violation_113 (by decide))) (
  tab_cons (eS (st_iconst h (by decide +kernel) dX7_violation_116)) (
  tab_cons (eS (st_iadd h dX7_violation_117)) (
  tab_cons (eS (st_istoren h rfl dX7_violation_118)) (
  tab_cons (eS (st_iinc h (by decide +kernel) dX7_violation_119)) (
  tab_cons (eS (st_goto h dX7_violation_122 (by decide))) (
  tab_cons (eS (st_aloadn h rfl dX7_violation_125)) (
  tab_cons (eS (st_iloadn h rfl dX7_violation_126)) (
  tab_cons (eO (so_callV h gw_376 gw_377 gw_378 gw_295 gw_379 ⟨by decide +kernel, by decide +kernel, by decide +kernel, by decide +kernel⟩ ⟨by decide +kernel, by decide +kernel⟩ dX7_violation_127)) (
  tab_cons (eB (sb_if_eq h dX7_violation_130 (by decide))) (
  tab_cons (eS (st_iloadn h rfl dX7_violation_133)) (
  tab_cons (eS (st_iloadn h rfl dX7_violation_134)) (
  tab_cons (eB (sb_icmp_ne h dX7_violation_135 (by decide))) (
  tab_cons (eS (st_iloadn h rfl dX7_violation_138)) (
  tab_cons (eO (so_ireturn h dX7_violation_139)) (
  tab_cons (eS (st_iinc h (by decide +kernel) dX7_violation_140)) (
  tab_cons (eS (st_goto h dX7_violation_143 (by decide))) (
  tab_cons (eS (st_iconst h (by decide +kernel) dX7_violation_146)) (
  tab_cons (eO (so_ireturn h dX7_violation_147)) (
  tab_nil))))))))))))))))))))))
def tX7_violation : Tb := tX7_violation_0 ++ (tX7_violation_1 ++ (tX7_violation_2))
theorem kX7_violation {X : Ctx} (h : sCx X mX7_violation) : tab X mX7_violation tX7_violation := tab_app (kX7_violation_0 h) (tab_app (kX7_violation_1 h) (kX7_violation_2 h))
theorem dX7_autoPickup_0 : decode cX7_autoPickup 0 = .ok (.aload_n 0, 1) := by decide +kernel
theorem dX7_autoPickup_1 : decode cX7_autoPickup 1 = .ok (.iload_n 1, 1) := by decide +kernel
theorem dX7_autoPickup_2 : decode cX7_autoPickup 2 = .ok (.bipush 100, 2) := by decide +kernel
theorem dX7_autoPickup_4 : decode cX7_autoPickup 4 = .ok (.sipush 300, 3) := by decide +kernel
theorem dX7_autoPickup_7 : decode cX7_autoPickup 7 = .ok (.invokestatic 49, 3) := by decide +kernel
theorem dX7_autoPickup_10 : decode cX7_autoPickup 10 = .ok (.ifCond .eq 7, 3) := by decide +kernel
theorem dX7_autoPickup_13 : decode cX7_autoPickup 13 = .ok (.iconst 0, 1) := by decide +kernel
theorem dX7_autoPickup_14 : decode cX7_autoPickup 14 = .ok (.goto 4, 3) := by decide +kernel
theorem dX7_autoPickup_17 : decode cX7_autoPickup 17 = .ok (.iconst 1, 1) := by decide +kernel
theorem dX7_autoPickup_18 : decode cX7_autoPickup 18 = .ok (.putfield 45, 3) := by decide +kernel
theorem dX7_autoPickup_21 : decode cX7_autoPickup 21 = .ok (.aload_n 0, 1) := by decide +kernel
theorem dX7_autoPickup_22 : decode cX7_autoPickup 22 = .ok (.getfield 45, 3) := by decide +kernel
theorem dX7_autoPickup_25 : decode cX7_autoPickup 25 = .ok (.ifCond .le 5, 3) := by decide +kernel
theorem dX7_autoPickup_28 : decode cX7_autoPickup 28 = .ok (.iconst 0, 1) := by decide +kernel
theorem dX7_autoPickup_29 : decode cX7_autoPickup 29 = .ok (.ireturn, 1) := by decide +kernel
theorem dX7_autoPickup_30 : decode cX7_autoPickup 30 = .ok (.aload_n 0, 1) := by decide +kernel
theorem dX7_autoPickup_31 : decode cX7_autoPickup 31 = .ok (.invokevirtual 56, 3) := by decide +kernel
theorem dX7_autoPickup_34 : decode cX7_autoPickup 34 = .ok (.iconst 0, 1) := by decide +kernel
theorem dX7_autoPickup_35 : decode cX7_autoPickup 35 = .ok (.istore_n 2, 1) := by decide +kernel
theorem dX7_autoPickup_36 : decode cX7_autoPickup 36 = .ok (.iconst 0, 1) := by decide +kernel
theorem dX7_autoPickup_37 : decode cX7_autoPickup 37 = .ok (.istore_n 3, 1) := by decide +kernel
theorem dX7_autoPickup_38 : decode cX7_autoPickup 38 = .ok (.iload_n 3, 1) := by decide +kernel
theorem dX7_autoPickup_39 : decode cX7_autoPickup 39 = .ok (.aload_n 0, 1) := by decide +kernel
theorem dX7_autoPickup_40 : decode cX7_autoPickup 40 = .ok (.getfield 7, 3) := by decide +kernel
theorem dX7_autoPickup_43 : decode cX7_autoPickup 43 = .ok (.iconst 0, 1) := by decide +kernel
theorem dX7_autoPickup_44 : decode cX7_autoPickup 44 = .ok (.iaload, 1) := by decide +kernel
theorem dX7_autoPickup_45 : decode cX7_autoPickup 45 = .ok (.if_icmp .ge 87, 3) := by decide +kernel
theorem dX7_autoPickup_48 : decode cX7_autoPickup 48 = .ok (.aload_n 0, 1) := by decide +kernel
theorem dX7_autoPickup_49 : decode cX7_autoPickup 49 = .ok (.iload_n 3, 1) := by decide +kernel
theorem dX7_autoPickup_50 : decode cX7_autoPickup 50 = .ok (.invokevirtual 90, 3) := by decide +kernel
theorem dX7_autoPickup_53 : decode cX7_autoPickup 53 = .ok (.iload_n 1, 1) := by decide +kernel
theorem dX7_autoPickup_54 : decode cX7_autoPickup 54 = .ok (.imul, 1) := by decide +kernel
theorem dX7_autoPickup_55 : decode cX7_autoPickup 55 = .ok (.bipush 99, 2) := by decide +kernel
theorem dX7_autoPickup_57 : decode cX7_autoPickup 57 = .ok (.iadd, 1) := by decide +kernel
theorem dX7_autoPickup_58 : decode cX7_autoPickup 58 = .ok (.bipush 100, 2) := by decide +kernel
theorem dX7_autoPickup_60 : decode cX7_autoPickup 60 = .ok (.idiv, 1) := by decide +kernel
theorem dX7_autoPickup_61 : decode cX7_autoPickup 61 = .ok (.istore 4, 2) := by decide +kernel
theorem dX7_autoPickup_63 : decode cX7_autoPickup 63 = .ok (.iload 4, 2) := by decide +kernel
theorem dX7_autoPickup_65 : decode cX7_autoPickup 65 = .ok (.iconst 1, 1) := by decide +kernel
theorem dX7_autoPickup_66 : decode cX7_autoPickup 66 = .ok (.if_icmp .ge 7, 3) := by decide +kernel
theorem dX7_autoPickup_69 : decode cX7_autoPickup 69 = .ok (.iconst 1, 1) := by decide +kernel
theorem dX7_autoPickup_70 : decode cX7_autoPickup 70 = .ok (.goto 19, 3) := by decide +kernel
theorem dX7_autoPickup_73 : decode cX7_autoPickup 73 = .ok (.iload 4, 2) := by decide +kernel
theorem dX7_autoPickup_75 : decode cX7_autoPickup 75 = .ok (.sipush 20000, 3) := by decide +kernel
theorem dX7_autoPickup_78 : decode cX7_autoPickup 78 = .ok (.if_icmp .le 9, 3) := by decide +kernel
theorem dX7_autoPickup_81 : decode cX7_autoPickup 81 = .ok (.sipush 20000, 3) := by decide +kernel
theorem dX7_autoPickup_84 : decode cX7_autoPickup 84 = .ok (.goto 5, 3) := by decide +kernel
theorem dX7_autoPickup_87 : decode cX7_autoPickup 87 = .ok (.iload 4, 2) := by decide +kernel
theorem dX7_autoPickup_89 : decode cX7_autoPickup 89 = .ok (.istore 4, 2) := by decide +kernel
theorem dX7_autoPickup_91 : decode cX7_autoPickup 91 = .ok (.iload_n 2, 1) := by decide +kernel
theorem dX7_autoPickup_92 : decode cX7_autoPickup 92 = .ok (.aload_n 0, 1) := by decide +kernel
theorem dX7_autoPickup_93 : decode cX7_autoPickup 93 = .ok (.getfield 7, 3) := by decide +kernel
theorem dX7_autoPickup_96 : decode cX7_autoPickup 96 = .ok (.iload_n 3, 1) := by decide +kernel
theorem dX7_autoPickup_97 : decode cX7_autoPickup 97 = .ok (.iconst 2, 1) := by decide +kernel
theorem dX7_autoPickup_98 : decode cX7_autoPickup 98 = .ok (.invokestatic 71, 3) := by decide +kernel
theorem dX7_autoPickup_101 : decode cX7_autoPickup 101 = .ok (.iaload, 1) := by decide +kernel
theorem dX7_autoPickup_102 : decode cX7_autoPickup 102 = .ok (.iload 4, 2) := by decide +kernel
theorem dX7_autoPickup_104 : decode cX7_autoPickup 104 = .ok (.if_icmp .ne 7, 3) := by decide +kernel
theorem dX7_autoPickup_107 : decode cX7_autoPickup 107 = .ok (.iconst 0, 1) := by decide +kernel
theorem dX7_autoPickup_108 : decode cX7_autoPickup 108 = .ok (.goto 4, 3) := by decide +kernel
theorem dX7_autoPickup_111 : decode cX7_autoPickup 111 = .ok (.iconst 1, 1) := by decide +kernel
theorem dX7_autoPickup_112 : decode cX7_autoPickup 112 = .ok (.iadd, 1) := by decide +kernel
theorem dX7_autoPickup_113 : decode cX7_autoPickup 113 = .ok (.istore_n 2, 1) := by decide +kernel
theorem dX7_autoPickup_114 : decode cX7_autoPickup 114 = .ok (.aload_n 0, 1) := by decide +kernel
theorem dX7_autoPickup_115 : decode cX7_autoPickup 115 = .ok (.getfield 7, 3) := by decide +kernel
theorem dX7_autoPickup_118 : decode cX7_autoPickup 118 = .ok (.iload_n 3, 1) := by decide +kernel
theorem dX7_autoPickup_119 : decode cX7_autoPickup 119 = .ok (.iconst 2, 1) := by decide +kernel
theorem dX7_autoPickup_120 : decode cX7_autoPickup 120 = .ok (.invokestatic 71, 3) := by decide +kernel
theorem dX7_autoPickup_123 : decode cX7_autoPickup 123 = .ok (.iload 4, 2) := by decide +kernel
theorem dX7_autoPickup_125 : decode cX7_autoPickup 125 = .ok (.iastore, 1) := by decide +kernel
theorem dX7_autoPickup_126 : decode cX7_autoPickup 126 = .ok (.iinc 3 1, 3) := by decide +kernel
theorem dX7_autoPickup_129 : decode cX7_autoPickup 129 = .ok (.goto (-91), 3) := by decide +kernel
theorem dX7_autoPickup_132 : decode cX7_autoPickup 132 = .ok (.iload_n 2, 1) := by decide +kernel
theorem dX7_autoPickup_133 : decode cX7_autoPickup 133 = .ok (.ireturn, 1) := by decide +kernel
def tX7_autoPickup_0 : Tb := [(0, .inl (f_aload 0, 1)), (1, .inl (f_iload 1, 2)), (2, .inl (f_ci (100), 4)), (4, .inl (f_ci (300), 7)), (7, .inr (.inr (.inl (14, 10, 3, mX7_in)))), (10, .inr (.inl (b_if_eq, 17, 13))), (13, .inl (f_ci (0), 14)), (14, .inl (f_id, 18)), (17, .inl (f_ci (1), 18)), (18, .inl (f_putI 7 0, 21)), (21, .inl (f_aload 0, 22)), (22, .inl (f_get 7 0, 25)), (25, .inr (.inl (b_if_le, 30, 28))), (28, .inl (f_ci (0), 29)), (29, .inr (.inr (.inl (15, 30, 0, m0)))), (30, .inl (f_aload 0, 31)), (31, .inr (.inr (.inl (13, 34, 1, mX7_save)))), (34, .inl (f_ci (0), 35)), (35, .inl (f_istore 5 2, 36)), (36, .inl (f_ci (0), 37)), (37, .inl (f_istore 5 3, 38)), (38, .inl (f_iload 3, 39)), (39, .inl (f_aload 0, 40)), (40, .inl (f_get 7 1, 43)), (43, .inl (f_ci (0), 44)), (44, .inr (.inr (.inl (0, 45, 0, m0)))), (45, .inr (.inl (b_icmp_ge, 132, 48))), (48, .inl (f_aload 0, 49)), (49, .inl (f_iload 3, 50)), (50, .inr (.inr (.inl (13, 53, 2, mX7_loadOver))))]
set_option maxRecDepth 10000 in
theorem kX7_autoPickup_0 {X : Ctx} (h : sCx X mX7_autoPickup) : tab X mX7_autoPickup tX7_autoPickup_0 :=
  tab_cons (eS (st_aloadn h rfl dX7_autoPickup_0)) (
  tab_cons (eS (st_iloadn h rfl dX7_autoPickup_1)) (
  tab_cons (eS (st_bipush h (by decide +kernel) dX7_autoPickup_2)) (
  tab_cons (eS (st_sipush h (by decide +kernel) dX7_autoPickup_4)) (
  tab_cons (eO (so_callS h gw_293 gw_294 gw_295 gw_296 ⟨by decide +kernel, by decide +kernel, by decide +kernel⟩ ⟨by decide +kernel, by decide +kernel⟩ dX7_autoPickup_7)) (
  tab_cons (eB (sb_if_eq h dX7_autoPickup_10 (by decide))) (
  tab_cons (eS (st_iconst h (by decide +kernel) dX7_autoPickup_13)) (
  tab_cons (eS (st_goto h dX7_autoPickup_14 (by decide))) (
  tab_cons (eS (st_iconst h (by decide +kernel) dX7_autoPickup_17)) (
  tab_cons (eS (st_putI h (ci := 7) (k := 0) tyX7 tyX7_ok nmX7 rfl giX7 (by decide) rfl rfl (by decide +kernel) gw_291 dX7_autoPickup_18)) (
  tab_cons (eS (st_aloadn h rfl dX7_autoPickup_21)) (
  tab_cons (eS (st_get h (ci := 7) (k := 0) rfl giX7 (by decide) rfl gw_291 dX7_autoPickup_22)) (
  tab_cons (eB (sb_if_le h dX7_autoPickup_25 (by decide))) (
  tab_cons (eS (st_iconst h (by decide +kernel) dX7_autoPickup_28)) (
  tab_cons (eO (so_ireturn h dX7_autoPickup_29)) (
  tab_cons (eS (st_aloadn h rfl dX7_autoPickup_30)) (
  tab_cons (eO (so_callV h gw_301 gw_302 gw_303 gw_295 gw_304 ⟨by decide +kernel, by decide +kernel, by decide +kernel, by decide +kernel⟩ ⟨by decide +kernel, by decide +kernel⟩ dX7_autoPickup_31)) (
  tab_cons (eS (st_iconst h (by decide +kernel) dX7_autoPickup_34)) (
  tab_cons (eS (st_istoren h rfl dX7_autoPickup_35)) (
  tab_cons (eS (st_iconst h (by decide +kernel) dX7_autoPickup_36)) (
  tab_cons (eS (st_istoren h rfl dX7_autoPickup_37)) (
  tab_cons (eS (st_iloadn h rfl dX7_autoPickup_38)) (
  tab_cons (eS (st_aloadn h rfl dX7_autoPickup_39)) (
  tab_cons (eS (st_get h (ci := 7) (k := 1) rfl giX7 (by decide) rfl gw_292 dX7_autoPickup_40)) (
  tab_cons (eS (st_iconst h (by decide +kernel) dX7_autoPickup_43)) (
  tab_cons (eO (so_iaload h dX7_autoPickup_44)) (
  tab_cons (eB (sb_icmp_ge h dX7_autoPickup_45 (by decide))) (
  tab_cons (eS (st_aloadn h rfl dX7_autoPickup_48)) (
  tab_cons (eS (st_iloadn h rfl dX7_autoPickup_49)) (
  tab_cons (eO (so_callV h gw_331 gw_332 gw_333 gw_295 gw_334 ⟨by decide +kernel, by decide +kernel, by decide +kernel, by decide +kernel⟩ ⟨by decide +kernel, by decide +kernel⟩ dX7_autoPickup_50)) (
  tab_nil))))))))))))))))))))))))))))))
def tX7_autoPickup_1 : Tb := [(53, .inl (f_iload 1, 54)), (54, .inl (f_imul, 55)), (55, .inl (f_ci (99), 57)), (57, .inl (f_iadd, 58)), (58, .inl (f_ci (100), 60)), (60, .inr (.inr (.inl (11, 61, 0, m0)))), (61, .inl (f_istore 5 4, 63)), (63, .inl (f_iload 4, 65)), (65, .inl (f_ci (1), 66)), (66, .inr (.inl (b_icmp_ge, 73, 69))), (69, .inl (f_ci (1), 70)), (70, .inl (f_id, 89)), (73, .inl (f_iload 4, 75)), (75, .inl (f_ci (20000), 78)), (78, .inr (.inl (b_icmp_le, 87, 81))), (81, .inl (f_ci (20000), 84)), (84, .inl (f_id, 89)), (87, .inl (f_iload 4, 89)), (89, .inl (f_istore 5 4, 91)), (91, .inl (f_iload 2, 92)), (92, .inl (f_aload 0, 93)), (93, .inl (f_get 7 1, 96)), (96, .inl (f_iload 3, 97)), (97, .inl (f_ci (2), 98)), (98, .inr (.inr (.inl (14, 101, 2, mX7_at)))), (101, .inr (.inr (.inl (0, 102, 0, m0)))), (102, .inl (f_iload 4, 104)), (104, .inr (.inl (b_icmp_eq, 107, 111))), (107, .inl (f_ci (0), 108)), (108, .inl (f_id, 112))]
set_option maxRecDepth 10000 in
theorem kX7_autoPickup_1 {X : Ctx} (h : sCx X mX7_autoPickup) : tab X mX7_autoPickup tX7_autoPickup_1 :=
  tab_cons (eS (st_iloadn h rfl dX7_autoPickup_53)) (
  tab_cons (eS (st_imul h dX7_autoPickup_54)) (
  tab_cons (eS (st_bipush h (by decide +kernel) dX7_autoPickup_55)) (
  tab_cons (eS (st_iadd h dX7_autoPickup_57)) (
  tab_cons (eS (st_bipush h (by decide +kernel) dX7_autoPickup_58)) (
  tab_cons (eO (so_idiv h dX7_autoPickup_60)) (
  tab_cons (eS (st_istore h dX7_autoPickup_61)) (
  tab_cons (eS (st_iload h dX7_autoPickup_63)) (
  tab_cons (eS (st_iconst h (by decide +kernel) dX7_autoPickup_65)) (
  tab_cons (eB (sb_icmp_ge h dX7_autoPickup_66 (by decide))) (
  tab_cons (eS (st_iconst h (by decide +kernel) dX7_autoPickup_69)) (
  tab_cons (eS (st_goto h dX7_autoPickup_70 (by decide))) (
  tab_cons (eS (st_iload h dX7_autoPickup_73)) (
  tab_cons (eS (st_sipush h (by decide +kernel) dX7_autoPickup_75)) (
  tab_cons (eB (sb_icmp_le h dX7_autoPickup_78 (by decide))) (
  tab_cons (eS (st_sipush h (by decide +kernel) dX7_autoPickup_81)) (
  tab_cons (eS (st_goto h dX7_autoPickup_84 (by decide))) (
  tab_cons (eS (st_iload h dX7_autoPickup_87)) (
  tab_cons (eS (st_istore h dX7_autoPickup_89)) (
  tab_cons (eS (st_iloadn h rfl dX7_autoPickup_91)) (
  tab_cons (eS (st_aloadn h rfl dX7_autoPickup_92)) (
  tab_cons (eS (st_get h (ci := 7) (k := 1) rfl giX7 (by decide) rfl gw_292 dX7_autoPickup_93)) (
  tab_cons (eS (st_iloadn h rfl dX7_autoPickup_96)) (
  tab_cons (eS (st_iconst h (by decide +kernel) dX7_autoPickup_97)) (
  tab_cons (eO (so_callS h gw_312 gw_313 gw_295 gw_314 ⟨by decide +kernel, by decide +kernel, by decide +kernel⟩ ⟨by decide +kernel, by decide +kernel⟩ dX7_autoPickup_98)) (
  tab_cons (eO (so_iaload h dX7_autoPickup_101)) (
  tab_cons (eS (st_iload h dX7_autoPickup_102)) (
  tab_cons (eB (sb_icmp_ne h dX7_autoPickup_104 (by decide))) (
  tab_cons (eS (st_iconst h (by decide +kernel) dX7_autoPickup_107)) (
  tab_cons (eS (st_goto h dX7_autoPickup_108 (by decide))) (
  tab_nil))))))))))))))))))))))))))))))
def tX7_autoPickup_2 : Tb := [(111, .inl (f_ci (1), 112)), (112, .inl (f_iadd, 113)), (113, .inl (f_istore 5 2, 114)), (114, .inl (f_aload 0, 115)), (115, .inl (f_get 7 1, 118)), (118, .inl (f_iload 3, 119)), (119, .inl (f_ci (2), 120)), (120, .inr (.inr (.inl (14, 123, 2, mX7_at)))), (123, .inl (f_iload 4, 125)), (125, .inr (.inr (.inl (4, 126, 0, m0)))), (126, .inl (f_iinc 5 3 (1), 129)), (129, .inl (f_id, 38)), (132, .inl (f_iload 2, 133)), (133, .inr (.inr (.inl (15, 134, 0, m0))))]
set_option maxRecDepth 10000 in
theorem kX7_autoPickup_2 {X : Ctx} (h : sCx X mX7_autoPickup) : tab X mX7_autoPickup tX7_autoPickup_2 :=
  tab_cons (eS (st_iconst h (by decide +kernel) dX7_autoPickup_111)) (
  tab_cons (eS (st_iadd h dX7_autoPickup_112)) (
  tab_cons (eS (st_istoren h rfl dX7_autoPickup_113)) (
  tab_cons (eS (st_aloadn h rfl dX7_autoPickup_114)) (
  tab_cons (eS (st_get h (ci := 7) (k := 1) rfl giX7 (by decide) rfl gw_292 dX7_autoPickup_115)) (
  tab_cons (eS (st_iloadn h rfl dX7_autoPickup_118)) (
  tab_cons (eS (st_iconst h (by decide +kernel) dX7_autoPickup_119)) (
  tab_cons (eO (so_callS h gw_312 gw_313 gw_295 gw_314 ⟨by decide +kernel, by decide +kernel, by decide +kernel⟩ ⟨by decide +kernel, by decide +kernel⟩ dX7_autoPickup_120)) (
  tab_cons (eS (st_iload h dX7_autoPickup_123)) (
  tab_cons (eO (so_iastore h dX7_autoPickup_125)) (
  tab_cons (eS (st_iinc h (by decide +kernel) dX7_autoPickup_126)) (
  tab_cons (eS (st_goto h dX7_autoPickup_129 (by decide))) (
  tab_cons (eS (st_iloadn h rfl dX7_autoPickup_132)) (
  tab_cons (eO (so_ireturn h dX7_autoPickup_133)) (
  tab_nil))))))))))))))
def tX7_autoPickup : Tb := tX7_autoPickup_0 ++ (tX7_autoPickup_1 ++ (tX7_autoPickup_2))
theorem kX7_autoPickup {X : Ctx} (h : sCx X mX7_autoPickup) : tab X mX7_autoPickup tX7_autoPickup := tab_app (kX7_autoPickup_0 h) (tab_app (kX7_autoPickup_1 h) (kX7_autoPickup_2 h))
theorem dX7_keeps_0 : decode cX7_keeps 0 = .ok (.iconst 1, 1) := by decide +kernel
theorem dX7_keeps_1 : decode cX7_keeps 1 = .ok (.istore_n 2, 1) := by decide +kernel
theorem dX7_keeps_2 : decode cX7_keeps 2 = .ok (.iconst 0, 1) := by decide +kernel
theorem dX7_keeps_3 : decode cX7_keeps 3 = .ok (.istore_n 3, 1) := by decide +kernel
theorem dX7_keeps_4 : decode cX7_keeps 4 = .ok (.iload_n 3, 1) := by decide +kernel
theorem dX7_keeps_5 : decode cX7_keeps 5 = .ok (.aload_n 0, 1) := by decide +kernel
theorem dX7_keeps_6 : decode cX7_keeps 6 = .ok (.getfield 7, 3) := by decide +kernel
theorem dX7_keeps_9 : decode cX7_keeps 9 = .ok (.iconst 0, 1) := by decide +kernel
theorem dX7_keeps_10 : decode cX7_keeps 10 = .ok (.iaload, 1) := by decide +kernel
theorem dX7_keeps_11 : decode cX7_keeps 11 = .ok (.if_icmp .ge 61, 3) := by decide +kernel
theorem dX7_keeps_14 : decode cX7_keeps 14 = .ok (.iload_n 2, 1) := by decide +kernel
theorem dX7_keeps_15 : decode cX7_keeps 15 = .ok (.ifCond .eq 49, 3) := by decide +kernel
theorem dX7_keeps_18 : decode cX7_keeps 18 = .ok (.aload_n 0, 1) := by decide +kernel
theorem dX7_keeps_19 : decode cX7_keeps 19 = .ok (.iload_n 3, 1) := by decide +kernel
theorem dX7_keeps_20 : decode cX7_keeps 20 = .ok (.invokevirtual 78, 3) := by decide +kernel
theorem dX7_keeps_23 : decode cX7_keeps 23 = .ok (.iload_n 1, 1) := by decide +kernel
theorem dX7_keeps_24 : decode cX7_keeps 24 = .ok (.if_icmp .ne 36, 3) := by decide +kernel
theorem dX7_keeps_27 : decode cX7_keeps 27 = .ok (.aload_n 0, 1) := by decide +kernel
theorem dX7_keeps_28 : decode cX7_keeps 28 = .ok (.iload_n 3, 1) := by decide +kernel
theorem dX7_keeps_29 : decode cX7_keeps 29 = .ok (.iconst 0, 1) := by decide +kernel
theorem dX7_keeps_30 : decode cX7_keeps 30 = .ok (.invokevirtual 135, 3) := by decide +kernel
theorem dX7_keeps_33 : decode cX7_keeps 33 = .ok (.aload_n 0, 1) := by decide +kernel
theorem dX7_keeps_34 : decode cX7_keeps 34 = .ok (.getfield 13, 3) := by decide +kernel
theorem dX7_keeps_37 : decode cX7_keeps 37 = .ok (.iconst 2, 1) := by decide +kernel
theorem dX7_keeps_38 : decode cX7_keeps 38 = .ok (.daload, 1) := by decide +kernel
theorem dX7_keeps_39 : decode cX7_keeps 39 = .ok (.dcmp .l, 1) := by decide +kernel
theorem dX7_keeps_40 : decode cX7_keeps 40 = .ok (.ifCond .lt 24, 3) := by decide +kernel
theorem dX7_keeps_43 : decode cX7_keeps 43 = .ok (.aload_n 0, 1) := by decide +kernel
theorem dX7_keeps_44 : decode cX7_keeps 44 = .ok (.iload_n 3, 1) := by decide +kernel
theorem dX7_keeps_45 : decode cX7_keeps 45 = .ok (.bipush 100, 2) := by decide +kernel
theorem dX7_keeps_47 : decode cX7_keeps 47 = .ok (.invokevirtual 135, 3) := by decide +kernel
theorem dX7_keeps_50 : decode cX7_keeps 50 = .ok (.aload_n 0, 1) := by decide +kernel
theorem dX7_keeps_51 : decode cX7_keeps 51 = .ok (.getfield 13, 3) := by decide +kernel
theorem dX7_keeps_54 : decode cX7_keeps 54 = .ok (.iconst 2, 1) := by decide +kernel
theorem dX7_keeps_55 : decode cX7_keeps 55 = .ok (.daload, 1) := by decide +kernel
theorem dX7_keeps_56 : decode cX7_keeps 56 = .ok (.dcmp .l, 1) := by decide +kernel
theorem dX7_keeps_57 : decode cX7_keeps 57 = .ok (.ifCond .lt 7, 3) := by decide +kernel
theorem dX7_keeps_60 : decode cX7_keeps 60 = .ok (.iconst 1, 1) := by decide +kernel
theorem dX7_keeps_61 : decode cX7_keeps 61 = .ok (.goto 4, 3) := by decide +kernel
theorem dX7_keeps_64 : decode cX7_keeps 64 = .ok (.iconst 0, 1) := by decide +kernel
theorem dX7_keeps_65 : decode cX7_keeps 65 = .ok (.istore_n 2, 1) := by decide +kernel
theorem dX7_keeps_66 : decode cX7_keeps 66 = .ok (.iinc 3 1, 3) := by decide +kernel
theorem dX7_keeps_69 : decode cX7_keeps 69 = .ok (.goto (-65), 3) := by decide +kernel
theorem dX7_keeps_72 : decode cX7_keeps 72 = .ok (.iload_n 2, 1) := by decide +kernel
theorem dX7_keeps_73 : decode cX7_keeps 73 = .ok (.ireturn, 1) := by decide +kernel
def tX7_keeps_0 : Tb := [(0, .inl (f_ci (1), 1)), (1, .inl (f_istore 4 2, 2)), (2, .inl (f_ci (0), 3)), (3, .inl (f_istore 4 3, 4)), (4, .inl (f_iload 3, 5)), (5, .inl (f_aload 0, 6)), (6, .inl (f_get 7 1, 9)), (9, .inl (f_ci (0), 10)), (10, .inr (.inr (.inl (0, 11, 0, m0)))), (11, .inr (.inl (b_icmp_ge, 72, 14))), (14, .inl (f_iload 2, 15)), (15, .inr (.inl (b_if_eq, 64, 18))), (18, .inl (f_aload 0, 19)), (19, .inl (f_iload 3, 20)), (20, .inr (.inr (.inl (13, 23, 2, mX7_above)))), (23, .inl (f_iload 1, 24)), (24, .inr (.inl (b_icmp_eq, 27, 60))), (27, .inl (f_aload 0, 28)), (28, .inl (f_iload 3, 29)), (29, .inl (f_ci (0), 30)), (30, .inr (.inr (.inl (13, 33, 3, mX7_marginOf)))), (33, .inl (f_aload 0, 34)), (34, .inl (f_get 7 2, 37)), (37, .inl (f_ci (2), 38)), (38, .inr (.inr (.inl (1, 39, 0, m0)))), (39, .inl (f_dcmpl, 40)), (40, .inr (.inl (b_if_lt, 64, 43))), (43, .inl (f_aload 0, 44)), (44, .inl (f_iload 3, 45)), (45, .inl (f_ci (100), 47))]
set_option maxRecDepth 10000 in
theorem kX7_keeps_0 {X : Ctx} (h : sCx X mX7_keeps) : tab X mX7_keeps tX7_keeps_0 :=
  tab_cons (eS (st_iconst h (by decide +kernel) dX7_keeps_0)) (
  tab_cons (eS (st_istoren h rfl dX7_keeps_1)) (
  tab_cons (eS (st_iconst h (by decide +kernel) dX7_keeps_2)) (
  tab_cons (eS (st_istoren h rfl dX7_keeps_3)) (
  tab_cons (eS (st_iloadn h rfl dX7_keeps_4)) (
  tab_cons (eS (st_aloadn h rfl dX7_keeps_5)) (
  tab_cons (eS (st_get h (ci := 7) (k := 1) rfl giX7 (by decide) rfl gw_292 dX7_keeps_6)) (
  tab_cons (eS (st_iconst h (by decide +kernel) dX7_keeps_9)) (
  tab_cons (eO (so_iaload h dX7_keeps_10)) (
  tab_cons (eB (sb_icmp_ge h dX7_keeps_11 (by decide))) (
  tab_cons (eS (st_iloadn h rfl dX7_keeps_14)) (
  tab_cons (eB (sb_if_eq h dX7_keeps_15 (by decide))) (
  tab_cons (eS (st_aloadn h rfl dX7_keeps_18)) (
  tab_cons (eS (st_iloadn h rfl dX7_keeps_19)) (
  tab_cons (eO (so_callV h gw_319 gw_320 gw_321 gw_295 gw_322 ⟨by decide +kernel, by decide +kernel, by decide +kernel, by decide +kernel⟩ ⟨by decide +kernel, by decide +kernel⟩ dX7_keeps_20)) (
  tab_cons (eS (st_iloadn h rfl dX7_keeps_23)) (
  tab_cons (eB (sb_icmp_ne h dX7_keeps_24 (by decide))) (
  tab_cons (eS (st_aloadn h rfl dX7_keeps_27)) (
  tab_cons (eS (st_iloadn h rfl dX7_keeps_28)) (
  tab_cons (eS (st_iconst h (by decide +kernel) dX7_keeps_29)) (
  tab_cons (eO (so_callV h gw_368 gw_369 gw_370 gw_295 gw_371 ⟨by decide +kernel, by decide +kernel, by decide +kernel, by decide +kernel⟩ ⟨by decide +kernel, by decide +kernel⟩ dX7_keeps_30)) (
  tab_cons (eS (st_aloadn h rfl dX7_keeps_33)) (
  tab_cons (eS (st_get h (ci := 7) (k := 2) rfl giX7 (by decide) rfl gw_300 dX7_keeps_34)) (
  tab_cons (eS (st_iconst h (by decide +kernel) dX7_keeps_37)) (
  tab_cons (eO (so_daload h dX7_keeps_38)) (
  tab_cons (eS (st_dcmpl h dX7_keeps_39)) (
  tab_cons (eB (sb_if_lt h dX7_keeps_40 (by decide))) (
  tab_cons (eS (st_aloadn h rfl dX7_keeps_43)) (
  tab_cons (eS (st_iloadn h rfl dX7_keeps_44)) (
  tab_cons (eS (st_bipush h (by decide +kernel) dX7_keeps_45)) (
  tab_nil))))))))))))))))))))))))))))))
def tX7_keeps_1 : Tb := [(47, .inr (.inr (.inl (13, 50, 3, mX7_marginOf)))), (50, .inl (f_aload 0, 51)), (51, .inl (f_get 7 2, 54)), (54, .inl (f_ci (2), 55)), (55, .inr (.inr (.inl (1, 56, 0, m0)))), (56, .inl (f_dcmpl, 57)), (57, .inr (.inl (b_if_lt, 64, 60))), (60, .inl (f_ci (1), 61)), (61, .inl (f_id, 65)), (64, .inl (f_ci (0), 65)), (65, .inl (f_istore 4 2, 66)), (66, .inl (f_iinc 4 3 (1), 69)), (69, .inl (f_id, 4)), (72, .inl (f_iload 2, 73)), (73, .inr (.inr (.inl (15, 74, 0, m0))))]
set_option maxRecDepth 10000 in
theorem kX7_keeps_1 {X : Ctx} (h : sCx X mX7_keeps) : tab X mX7_keeps tX7_keeps_1 :=
  tab_cons (eO (so_callV h gw_368 gw_369 gw_370 gw_295 gw_371 ⟨by decide +kernel, by decide +kernel, by decide +kernel, by decide +kernel⟩ ⟨by decide +kernel, by decide +kernel⟩ dX7_keeps_47)) (
  tab_cons (eS (st_aloadn h rfl dX7_keeps_50)) (
  tab_cons (eS (st_get h (ci := 7) (k := 2) rfl giX7 (by decide) rfl gw_300 dX7_keeps_51)) (
  tab_cons (eS (st_iconst h (by decide +kernel) dX7_keeps_54)) (
  tab_cons (eO (so_daload h dX7_keeps_55)) (
  tab_cons (eS (st_dcmpl h dX7_keeps_56)) (
  tab_cons (eB (sb_if_lt h dX7_keeps_57 (by decide))) (
  tab_cons (eS (st_iconst h (by decide +kernel) dX7_keeps_60)) (
  tab_cons (eS (st_goto h dX7_keeps_61 (by decide))) (
  tab_cons (eS (st_iconst h (by decide +kernel) dX7_keeps_64)) (
  tab_cons (eS (st_istoren h rfl dX7_keeps_65)) (
  tab_cons (eS (st_iinc h (by decide +kernel) dX7_keeps_66)) (
  tab_cons (eS (st_goto h dX7_keeps_69 (by decide))) (
  tab_cons (eS (st_iloadn h rfl dX7_keeps_72)) (
  tab_cons (eO (so_ireturn h dX7_keeps_73)) (
  tab_nil)))))))))))))))
def tX7_keeps : Tb := tX7_keeps_0 ++ (tX7_keeps_1)
theorem kX7_keeps {X : Ctx} (h : sCx X mX7_keeps) : tab X mX7_keeps tX7_keeps := tab_app (kX7_keeps_0 h) (kX7_keeps_1 h)
theorem dX7_autoGrade_0 : decode cX7_autoGrade 0 = .ok (.aload_n 0, 1) := by decide +kernel
theorem dX7_autoGrade_1 : decode cX7_autoGrade 1 = .ok (.iconst 0, 1) := by decide +kernel
theorem dX7_autoGrade_2 : decode cX7_autoGrade 2 = .ok (.putfield 45, 3) := by decide +kernel
theorem dX7_autoGrade_5 : decode cX7_autoGrade 5 = .ok (.aload_n 0, 1) := by decide +kernel
theorem dX7_autoGrade_6 : decode cX7_autoGrade 6 = .ok (.invokevirtual 56, 3) := by decide +kernel
theorem dX7_autoGrade_9 : decode cX7_autoGrade 9 = .ok (.iconst 0, 1) := by decide +kernel
theorem dX7_autoGrade_10 : decode cX7_autoGrade 10 = .ok (.istore_n 1, 1) := by decide +kernel
theorem dX7_autoGrade_11 : decode cX7_autoGrade 11 = .ok (.aload_n 0, 1) := by decide +kernel
theorem dX7_autoGrade_12 : decode cX7_autoGrade 12 = .ok (.getfield 7, 3) := by decide +kernel
theorem dX7_autoGrade_15 : decode cX7_autoGrade 15 = .ok (.iconst 0, 1) := by decide +kernel
theorem dX7_autoGrade_16 : decode cX7_autoGrade 16 = .ok (.iaload, 1) := by decide +kernel
theorem dX7_autoGrade_17 : decode cX7_autoGrade 17 = .ok (.iconst 1, 1) := by decide +kernel
theorem dX7_autoGrade_18 : decode cX7_autoGrade 18 = .ok (.isub, 1) := by decide +kernel
theorem dX7_autoGrade_19 : decode cX7_autoGrade 19 = .ok (.istore_n 2, 1) := by decide +kernel
theorem dX7_autoGrade_20 : decode cX7_autoGrade 20 = .ok (.iload_n 2, 1) := by decide +kernel
theorem dX7_autoGrade_21 : decode cX7_autoGrade 21 = .ok (.ifCond .lt 89, 3) := by decide +kernel
theorem dX7_autoGrade_24 : decode cX7_autoGrade 24 = .ok (.iconst 1, 1) := by decide +kernel
theorem dX7_autoGrade_25 : decode cX7_autoGrade 25 = .ok (.istore_n 3, 1) := by decide +kernel
theorem dX7_autoGrade_26 : decode cX7_autoGrade 26 = .ok (.aload_n 0, 1) := by decide +kernel
theorem dX7_autoGrade_27 : decode cX7_autoGrade 27 = .ok (.getfield 7, 3) := by decide +kernel
theorem dX7_autoGrade_30 : decode cX7_autoGrade 30 = .ok (.iload_n 2, 1) := by decide +kernel
theorem dX7_autoGrade_31 : decode cX7_autoGrade 31 = .ok (.iconst 4, 1) := by decide +kernel
theorem dX7_autoGrade_32 : decode cX7_autoGrade 32 = .ok (.invokestatic 71, 3) := by decide +kernel
theorem dX7_autoGrade_35 : decode cX7_autoGrade 35 = .ok (.iconst 1, 1) := by decide +kernel
theorem dX7_autoGrade_36 : decode cX7_autoGrade 36 = .ok (.iastore, 1) := by decide +kernel
theorem dX7_autoGrade_37 : decode cX7_autoGrade 37 = .ok (.iload_n 3, 1) := by decide +kernel
theorem dX7_autoGrade_38 : decode cX7_autoGrade 38 = .ok (.bipush 21, 2) := by decide +kernel
theorem dX7_autoGrade_40 : decode cX7_autoGrade 40 = .ok (.if_icmp .ge 28, 3) := by decide +kernel
theorem dX7_autoGrade_43 : decode cX7_autoGrade 43 = .ok (.aload_n 0, 1) := by decide +kernel
theorem dX7_autoGrade_44 : decode cX7_autoGrade 44 = .ok (.iload_n 2, 1) := by decide +kernel
theorem dX7_autoGrade_45 : decode cX7_autoGrade 45 = .ok (.invokevirtual 149, 3) := by decide +kernel
theorem dX7_autoGrade_48 : decode cX7_autoGrade 48 = .ok (.ifCond .ne 20, 3) := by decide +kernel
theorem dX7_autoGrade_51 : decode cX7_autoGrade 51 = .ok (.iinc 3 1, 3) := by decide +kernel
theorem dX7_autoGrade_54 : decode cX7_autoGrade 54 = .ok (.aload_n 0, 1) := by decide +kernel
theorem dX7_autoGrade_55 : decode cX7_autoGrade 55 = .ok (.getfield 7, 3) := by decide +kernel
theorem dX7_autoGrade_58 : decode cX7_autoGrade 58 = .ok (.iload_n 2, 1) := by decide +kernel
theorem dX7_autoGrade_59 : decode cX7_autoGrade 59 = .ok (.iconst 4, 1) := by decide +kernel
theorem dX7_autoGrade_60 : decode cX7_autoGrade 60 = .ok (.invokestatic 71, 3) := by decide +kernel
theorem dX7_autoGrade_63 : decode cX7_autoGrade 63 = .ok (.iload_n 3, 1) := by decide +kernel
theorem dX7_autoGrade_64 : decode cX7_autoGrade 64 = .ok (.iastore, 1) := by decide +kernel
theorem dX7_autoGrade_65 : decode cX7_autoGrade 65 = .ok (.goto (-28), 3) := by decide +kernel
theorem dX7_autoGrade_68 : decode cX7_autoGrade 68 = .ok (.iload_n 1, 1) := by decide +kernel
theorem dX7_autoGrade_69 : decode cX7_autoGrade 69 = .ok (.iload_n 3, 1) := by decide +kernel
theorem dX7_autoGrade_70 : decode cX7_autoGrade 70 = .ok (.bipush 21, 2) := by decide +kernel
theorem dX7_autoGrade_72 : decode cX7_autoGrade 72 = .ok (.if_icmp .ne 7, 3) := by decide +kernel
theorem dX7_autoGrade_75 : decode cX7_autoGrade 75 = .ok (.iconst 1, 1) := by decide +kernel
theorem dX7_autoGrade_76 : decode cX7_autoGrade 76 = .ok (.goto 4, 3) := by decide +kernel
theorem dX7_autoGrade_79 : decode cX7_autoGrade 79 = .ok (.iconst 0, 1) := by decide +kernel
theorem dX7_autoGrade_80 : decode cX7_autoGrade 80 = .ok (.iadd, 1) := by decide +kernel
theorem dX7_autoGrade_81 : decode cX7_autoGrade 81 = .ok (.istore_n 1, 1) := by decide +kernel
theorem dX7_autoGrade_82 : decode cX7_autoGrade 82 = .ok (.aload_n 0, 1) := by decide +kernel
theorem dX7_autoGrade_83 : decode cX7_autoGrade 83 = .ok (.getfield 7, 3) := by decide +kernel
theorem dX7_autoGrade_86 : decode cX7_autoGrade 86 = .ok (.iload_n 2, 1) := by decide +kernel
theorem dX7_autoGrade_87 : decode cX7_autoGrade 87 = .ok (.iconst 4, 1) := by decide +kernel
theorem dX7_autoGrade_88 : decode cX7_autoGrade 88 = .ok (.invokestatic 71, 3) := by decide +kernel
theorem dX7_autoGrade_91 : decode cX7_autoGrade 91 = .ok (.iload_n 3, 1) := by decide +kernel
theorem dX7_autoGrade_92 : decode cX7_autoGrade 92 = .ok (.bipush 21, 2) := by decide +kernel
theorem dX7_autoGrade_94 : decode cX7_autoGrade 94 = .ok (.if_icmp .ne 8, 3) := by decide +kernel
theorem dX7_autoGrade_97 : decode cX7_autoGrade 97 = .ok (.bipush 20, 2) := by decide +kernel
theorem dX7_autoGrade_99 : decode cX7_autoGrade 99 = .ok (.goto 4, 3) := by decide +kernel
theorem dX7_autoGrade_102 : decode cX7_autoGrade 102 = .ok (.iload_n 3, 1) := by decide +kernel
theorem dX7_autoGrade_103 : decode cX7_autoGrade 103 = .ok (.iastore, 1) := by decide +kernel
theorem dX7_autoGrade_104 : decode cX7_autoGrade 104 = .ok (.iinc 2 (-1), 3) := by decide +kernel
theorem dX7_autoGrade_107 : decode cX7_autoGrade 107 = .ok (.goto (-87), 3) := by decide +kernel
theorem dX7_autoGrade_110 : decode cX7_autoGrade 110 = .ok (.iload_n 1, 1) := by decide +kernel
theorem dX7_autoGrade_111 : decode cX7_autoGrade 111 = .ok (.ireturn, 1) := by decide +kernel
def tX7_autoGrade_0 : Tb := [(0, .inl (f_aload 0, 1)), (1, .inl (f_ci (0), 2)), (2, .inl (f_putI 7 0, 5)), (5, .inl (f_aload 0, 6)), (6, .inr (.inr (.inl (13, 9, 1, mX7_save)))), (9, .inl (f_ci (0), 10)), (10, .inl (f_istore 4 1, 11)), (11, .inl (f_aload 0, 12)), (12, .inl (f_get 7 1, 15)), (15, .inl (f_ci (0), 16)), (16, .inr (.inr (.inl (0, 17, 0, m0)))), (17, .inl (f_ci (1), 18)), (18, .inl (f_isub, 19)), (19, .inl (f_istore 4 2, 20)), (20, .inl (f_iload 2, 21)), (21, .inr (.inl (b_if_lt, 110, 24))), (24, .inl (f_ci (1), 25)), (25, .inl (f_istore 4 3, 26)), (26, .inl (f_aload 0, 27)), (27, .inl (f_get 7 1, 30)), (30, .inl (f_iload 2, 31)), (31, .inl (f_ci (4), 32)), (32, .inr (.inr (.inl (14, 35, 2, mX7_at)))), (35, .inl (f_ci (1), 36)), (36, .inr (.inr (.inl (4, 37, 0, m0)))), (37, .inl (f_iload 3, 38)), (38, .inl (f_ci (21), 40)), (40, .inr (.inl (b_icmp_ge, 68, 43))), (43, .inl (f_aload 0, 44)), (44, .inl (f_iload 2, 45))]
set_option maxRecDepth 10000 in
theorem kX7_autoGrade_0 {X : Ctx} (h : sCx X mX7_autoGrade) : tab X mX7_autoGrade tX7_autoGrade_0 :=
  tab_cons (eS (st_aloadn h rfl dX7_autoGrade_0)) (
  tab_cons (eS (st_iconst h (by decide +kernel) dX7_autoGrade_1)) (
  tab_cons (eS (st_putI h (ci := 7) (k := 0) tyX7 tyX7_ok nmX7 rfl giX7 (by decide) rfl rfl (by decide +kernel) gw_291 dX7_autoGrade_2)) (
  tab_cons (eS (st_aloadn h rfl dX7_autoGrade_5)) (
  tab_cons (eO (so_callV h gw_301 gw_302 gw_303 gw_295 gw_304 ⟨by decide +kernel, by decide +kernel, by decide +kernel, by decide +kernel⟩ ⟨by decide +kernel, by decide +kernel⟩ dX7_autoGrade_6)) (
  tab_cons (eS (st_iconst h (by decide +kernel) dX7_autoGrade_9)) (
  tab_cons (eS (st_istoren h rfl dX7_autoGrade_10)) (
  tab_cons (eS (st_aloadn h rfl dX7_autoGrade_11)) (
  tab_cons (eS (st_get h (ci := 7) (k := 1) rfl giX7 (by decide) rfl gw_292 dX7_autoGrade_12)) (
  tab_cons (eS (st_iconst h (by decide +kernel) dX7_autoGrade_15)) (
  tab_cons (eO (so_iaload h dX7_autoGrade_16)) (
  tab_cons (eS (st_iconst h (by decide +kernel) dX7_autoGrade_17)) (
  tab_cons (eS (st_isub h dX7_autoGrade_18)) (
  tab_cons (eS (st_istoren h rfl dX7_autoGrade_19)) (
  tab_cons (eS (st_iloadn h rfl dX7_autoGrade_20)) (
  tab_cons (eB (sb_if_lt h dX7_autoGrade_21 (by decide))) (
  tab_cons (eS (st_iconst h (by decide +kernel) dX7_autoGrade_24)) (
  tab_cons (eS (st_istoren h rfl dX7_autoGrade_25)) (
  tab_cons (eS (st_aloadn h rfl dX7_autoGrade_26)) (
  tab_cons (eS (st_get h (ci := 7) (k := 1) rfl giX7 (by decide) rfl gw_292 dX7_autoGrade_27)) (
  tab_cons (eS (st_iloadn h rfl dX7_autoGrade_30)) (
  tab_cons (eS (st_iconst h (by decide +kernel) dX7_autoGrade_31)) (
  tab_cons (eO (so_callS h gw_312 gw_313 gw_295 gw_314 ⟨by decide +kernel, by decide +kernel, by decide +kernel⟩ ⟨by decide +kernel, by decide +kernel⟩ dX7_autoGrade_32)) (
  tab_cons (eS (st_iconst h (by decide +kernel) dX7_autoGrade_35)) (
  tab_cons (eO (so_iastore h dX7_autoGrade_36)) (
  tab_cons (eS (st_iloadn h rfl dX7_autoGrade_37)) (
  tab_cons (eS (st_bipush h (by decide +kernel) dX7_autoGrade_38)) (
  tab_cons (eB (sb_icmp_ge h dX7_autoGrade_40 (by decide))) (
  tab_cons (eS (st_aloadn h rfl dX7_autoGrade_43)) (
  tab_cons (eS (st_iloadn h rfl dX7_autoGrade_44)) (
  tab_nil))))))))))))))))))))))))))))))
def tX7_autoGrade_1 : Tb := [(45, .inr (.inr (.inl (13, 48, 2, mX7_keeps)))), (48, .inr (.inl (b_if_eq, 51, 68))), (51, .inl (f_iinc 4 3 (1), 54)), (54, .inl (f_aload 0, 55)), (55, .inl (f_get 7 1, 58)), (58, .inl (f_iload 2, 59)), (59, .inl (f_ci (4), 60)), (60, .inr (.inr (.inl (14, 63, 2, mX7_at)))), (63, .inl (f_iload 3, 64)), (64, .inr (.inr (.inl (4, 65, 0, m0)))), (65, .inl (f_id, 37)), (68, .inl (f_iload 1, 69)), (69, .inl (f_iload 3, 70)), (70, .inl (f_ci (21), 72)), (72, .inr (.inl (b_icmp_eq, 75, 79))), (75, .inl (f_ci (1), 76)), (76, .inl (f_id, 80)), (79, .inl (f_ci (0), 80)), (80, .inl (f_iadd, 81)), (81, .inl (f_istore 4 1, 82)), (82, .inl (f_aload 0, 83)), (83, .inl (f_get 7 1, 86)), (86, .inl (f_iload 2, 87)), (87, .inl (f_ci (4), 88)), (88, .inr (.inr (.inl (14, 91, 2, mX7_at)))), (91, .inl (f_iload 3, 92)), (92, .inl (f_ci (21), 94)), (94, .inr (.inl (b_icmp_eq, 97, 102))), (97, .inl (f_ci (20), 99)), (99, .inl (f_id, 103))]
set_option maxRecDepth 10000 in
theorem kX7_autoGrade_1 {X : Ctx} (h : sCx X mX7_autoGrade) : tab X mX7_autoGrade tX7_autoGrade_1 :=
  tab_cons (eO (so_callV h gw_384 gw_385 gw_386 gw_295 gw_387 ⟨by decide +kernel, by decide +kernel, by decide +kernel, by decide +kernel⟩ ⟨by decide +kernel, by decide +kernel⟩ dX7_autoGrade_45)) (
  tab_cons (eB (sb_if_ne h dX7_autoGrade_48 (by decide))) (
  tab_cons (eS (st_iinc h (by decide +kernel) dX7_autoGrade_51)) (
  tab_cons (eS (st_aloadn h rfl dX7_autoGrade_54)) (
  tab_cons (eS (st_get h (ci := 7) (k := 1) rfl giX7 (by decide) rfl gw_292 dX7_autoGrade_55)) (
  tab_cons (eS (st_iloadn h rfl dX7_autoGrade_58)) (
  tab_cons (eS (st_iconst h (by decide +kernel) dX7_autoGrade_59)) (
  tab_cons (eO (so_callS h gw_312 gw_313 gw_295 gw_314 ⟨by decide +kernel, by decide +kernel, by decide +kernel⟩ ⟨by decide +kernel, by decide +kernel⟩ dX7_autoGrade_60)) (
  tab_cons (eS (st_iloadn h rfl dX7_autoGrade_63)) (
  tab_cons (eO (so_iastore h dX7_autoGrade_64)) (
  tab_cons (eS (st_goto h dX7_autoGrade_65 (by decide))) (
  tab_cons (eS (st_iloadn h rfl dX7_autoGrade_68)) (
  tab_cons (eS (st_iloadn h rfl dX7_autoGrade_69)) (
  tab_cons (eS (st_bipush h (by decide +kernel) dX7_autoGrade_70)) (
  tab_cons (eB (sb_icmp_ne h dX7_autoGrade_72 (by decide))) (
  tab_cons (eS (st_iconst h (by decide +kernel) dX7_autoGrade_75)) (
  tab_cons (eS (st_goto h dX7_autoGrade_76 (by decide))) (
  tab_cons (eS (st_iconst h (by decide +kernel) dX7_autoGrade_79)) (
  tab_cons (eS (st_iadd h dX7_autoGrade_80)) (
  tab_cons (eS (st_istoren h rfl dX7_autoGrade_81)) (
  tab_cons (eS (st_aloadn h rfl dX7_autoGrade_82)) (
  tab_cons (eS (st_get h (ci := 7) (k := 1) rfl giX7 (by decide) rfl gw_292 dX7_autoGrade_83)) (
  tab_cons (eS (st_iloadn h rfl dX7_autoGrade_86)) (
  tab_cons (eS (st_iconst h (by decide +kernel) dX7_autoGrade_87)) (
  tab_cons (eO (so_callS h gw_312 gw_313 gw_295 gw_314 ⟨by decide +kernel, by decide +kernel, by decide +kernel⟩ ⟨by decide +kernel, by decide +kernel⟩ dX7_autoGrade_88)) (
  tab_cons (eS (st_iloadn h rfl dX7_autoGrade_91)) (
  tab_cons (eS (st_bipush h (by decide +kernel) dX7_autoGrade_92)) (
  tab_cons (eB (sb_icmp_ne h dX7_autoGrade_94 (by decide))) (
  tab_cons (eS (st_bipush h (by decide +kernel) dX7_autoGrade_97)) (
  tab_cons (eS (st_goto h dX7_autoGrade_99 (by decide))) (
  tab_nil))))))))))))))))))))))))))))))
def tX7_autoGrade_2 : Tb := [(102, .inl (f_iload 3, 103)), (103, .inr (.inr (.inl (4, 104, 0, m0)))), (104, .inl (f_iinc 4 2 (-1), 107)), (107, .inl (f_id, 20)), (110, .inl (f_iload 1, 111)), (111, .inr (.inr (.inl (15, 112, 0, m0))))]
set_option maxRecDepth 10000 in
theorem kX7_autoGrade_2 {X : Ctx} (h : sCx X mX7_autoGrade) : tab X mX7_autoGrade tX7_autoGrade_2 :=
  tab_cons (eS (st_iloadn h rfl dX7_autoGrade_102)) (
  tab_cons (eO (so_iastore h dX7_autoGrade_103)) (
  tab_cons (eS (st_iinc h (by decide +kernel) dX7_autoGrade_104)) (
  tab_cons (eS (st_goto h dX7_autoGrade_107 (by decide))) (
  tab_cons (eS (st_iloadn h rfl dX7_autoGrade_110)) (
  tab_cons (eO (so_ireturn h dX7_autoGrade_111)) (
  tab_nil))))))
def tX7_autoGrade : Tb := tX7_autoGrade_0 ++ (tX7_autoGrade_1 ++ (tX7_autoGrade_2))
theorem kX7_autoGrade {X : Ctx} (h : sCx X mX7_autoGrade) : tab X mX7_autoGrade tX7_autoGrade := tab_app (kX7_autoGrade_0 h) (tab_app (kX7_autoGrade_1 h) (kX7_autoGrade_2 h))
theorem dX7_record_0 : decode cX7_record 0 = .ok (.aload_n 0, 1) := by decide +kernel
theorem dX7_record_1 : decode cX7_record 1 = .ok (.getfield 7, 3) := by decide +kernel
theorem dX7_record_4 : decode cX7_record 4 = .ok (.iconst 1, 1) := by decide +kernel
theorem dX7_record_5 : decode cX7_record 5 = .ok (.iaload, 1) := by decide +kernel
theorem dX7_record_6 : decode cX7_record 6 = .ok (.bipush 60, 2) := by decide +kernel
theorem dX7_record_8 : decode cX7_record 8 = .ok (.if_icmp .ge 48, 3) := by decide +kernel
theorem dX7_record_11 : decode cX7_record 11 = .ok (.aload_n 0, 1) := by decide +kernel
theorem dX7_record_12 : decode cX7_record 12 = .ok (.getfield 7, 3) := by decide +kernel
theorem dX7_record_15 : decode cX7_record 15 = .ok (.bipush 110, 2) := by decide +kernel
theorem dX7_record_17 : decode cX7_record 17 = .ok (.aload_n 0, 1) := by decide +kernel
theorem dX7_record_18 : decode cX7_record 18 = .ok (.getfield 7, 3) := by decide +kernel
theorem dX7_record_21 : decode cX7_record 21 = .ok (.iconst 1, 1) := by decide +kernel
theorem dX7_record_22 : decode cX7_record 22 = .ok (.iaload, 1) := by decide +kernel
theorem dX7_record_23 : decode cX7_record 23 = .ok (.iadd, 1) := by decide +kernel
theorem dX7_record_24 : decode cX7_record 24 = .ok (.bipush 100, 2) := by decide +kernel
theorem dX7_record_26 : decode cX7_record 26 = .ok (.iload_n 1, 1) := by decide +kernel
theorem dX7_record_27 : decode cX7_record 27 = .ok (.imul, 1) := by decide +kernel
theorem dX7_record_28 : decode cX7_record 28 = .ok (.iload_n 2, 1) := by decide +kernel
theorem dX7_record_29 : decode cX7_record 29 = .ok (.iadd, 1) := by decide +kernel
theorem dX7_record_30 : decode cX7_record 30 = .ok (.iastore, 1) := by decide +kernel
theorem dX7_record_31 : decode cX7_record 31 = .ok (.aload_n 0, 1) := by decide +kernel
theorem dX7_record_32 : decode cX7_record 32 = .ok (.getfield 13, 3) := by decide +kernel
theorem dX7_record_35 : decode cX7_record 35 = .ok (.bipush 16, 2) := by decide +kernel
theorem dX7_record_37 : decode cX7_record 37 = .ok (.aload_n 0, 1) := by decide +kernel
theorem dX7_record_38 : decode cX7_record 38 = .ok (.getfield 7, 3) := by decide +kernel
theorem dX7_record_41 : decode cX7_record 41 = .ok (.iconst 1, 1) := by decide +kernel
theorem dX7_record_42 : decode cX7_record 42 = .ok (.iaload, 1) := by decide +kernel
theorem dX7_record_43 : decode cX7_record 43 = .ok (.iadd, 1) := by decide +kernel
theorem dX7_record_44 : decode cX7_record 44 = .ok (.dload_n 3, 1) := by decide +kernel
theorem dX7_record_45 : decode cX7_record 45 = .ok (.dastore, 1) := by decide +kernel
theorem dX7_record_46 : decode cX7_record 46 = .ok (.aload_n 0, 1) := by decide +kernel
theorem dX7_record_47 : decode cX7_record 47 = .ok (.getfield 7, 3) := by decide +kernel
theorem dX7_record_50 : decode cX7_record 50 = .ok (.iconst 1, 1) := by decide +kernel
theorem dX7_record_51 : decode cX7_record 51 = .ok (.dup2, 1) := by decide +kernel
theorem dX7_record_52 : decode cX7_record 52 = .ok (.iaload, 1) := by decide +kernel
theorem dX7_record_53 : decode cX7_record 53 = .ok (.iconst 1, 1) := by decide +kernel
theorem dX7_record_54 : decode cX7_record 54 = .ok (.iadd, 1) := by decide +kernel
theorem dX7_record_55 : decode cX7_record 55 = .ok (.iastore, 1) := by decide +kernel
theorem dX7_record_56 : decode cX7_record 56 = .ok (.return_, 1) := by decide +kernel
def tX7_record_0 : Tb := [(0, .inl (f_aload 0, 1)), (1, .inl (f_get 7 1, 4)), (4, .inl (f_ci (1), 5)), (5, .inr (.inr (.inl (0, 6, 0, m0)))), (6, .inl (f_ci (60), 8)), (8, .inr (.inl (b_icmp_ge, 56, 11))), (11, .inl (f_aload 0, 12)), (12, .inl (f_get 7 1, 15)), (15, .inl (f_ci (110), 17)), (17, .inl (f_aload 0, 18)), (18, .inl (f_get 7 1, 21)), (21, .inl (f_ci (1), 22)), (22, .inr (.inr (.inl (0, 23, 0, m0)))), (23, .inl (f_iadd, 24)), (24, .inl (f_ci (100), 26)), (26, .inl (f_iload 1, 27)), (27, .inl (f_imul, 28)), (28, .inl (f_iload 2, 29)), (29, .inl (f_iadd, 30)), (30, .inr (.inr (.inl (4, 31, 0, m0)))), (31, .inl (f_aload 0, 32)), (32, .inl (f_get 7 2, 35)), (35, .inl (f_ci (16), 37)), (37, .inl (f_aload 0, 38)), (38, .inl (f_get 7 1, 41)), (41, .inl (f_ci (1), 42)), (42, .inr (.inr (.inl (0, 43, 0, m0)))), (43, .inl (f_iadd, 44)), (44, .inl (f_dload 3, 45)), (45, .inr (.inr (.inl (5, 46, 0, m0))))]
set_option maxRecDepth 10000 in
theorem kX7_record_0 {X : Ctx} (h : sCx X mX7_record) : tab X mX7_record tX7_record_0 :=
  tab_cons (eS (st_aloadn h rfl dX7_record_0)) (
  tab_cons (eS (st_get h (ci := 7) (k := 1) rfl giX7 (by decide) rfl gw_292 dX7_record_1)) (
  tab_cons (eS (st_iconst h (by decide +kernel) dX7_record_4)) (
  tab_cons (eO (so_iaload h dX7_record_5)) (
  tab_cons (eS (st_bipush h (by decide +kernel) dX7_record_6)) (
  tab_cons (eB (sb_icmp_ge h dX7_record_8 (by decide))) (
  tab_cons (eS (st_aloadn h rfl dX7_record_11)) (
  tab_cons (eS (st_get h (ci := 7) (k := 1) rfl giX7 (by decide) rfl gw_292 dX7_record_12)) (
  tab_cons (eS (st_bipush h (by decide +kernel) dX7_record_15)) (
  tab_cons (eS (st_aloadn h rfl dX7_record_17)) (
  tab_cons (eS (st_get h (ci := 7) (k := 1) rfl giX7 (by decide) rfl gw_292 dX7_record_18)) (
  tab_cons (eS (st_iconst h (by decide +kernel) dX7_record_21)) (
  tab_cons (eO (so_iaload h dX7_record_22)) (
  tab_cons (eS (st_iadd h dX7_record_23)) (
  tab_cons (eS (st_bipush h (by decide +kernel) dX7_record_24)) (
  tab_cons (eS (st_iloadn h rfl dX7_record_26)) (
  tab_cons (eS (st_imul h dX7_record_27)) (
  tab_cons (eS (st_iloadn h rfl dX7_record_28)) (
  tab_cons (eS (st_iadd h dX7_record_29)) (
  tab_cons (eO (so_iastore h dX7_record_30)) (
  tab_cons (eS (st_aloadn h rfl dX7_record_31)) (
  tab_cons (eS (st_get h (ci := 7) (k := 2) rfl giX7 (by decide) rfl gw_300 dX7_record_32)) (
  tab_cons (eS (st_bipush h (by decide +kernel) dX7_record_35)) (
  tab_cons (eS (st_aloadn h rfl dX7_record_37)) (
  tab_cons (eS (st_get h (ci := 7) (k := 1) rfl giX7 (by decide) rfl gw_292 dX7_record_38)) (
  tab_cons (eS (st_iconst h (by decide +kernel) dX7_record_41)) (
  tab_cons (eO (so_iaload h dX7_record_42)) (
  tab_cons (eS (st_iadd h dX7_record_43)) (
  tab_cons (eS (st_dloadn h rfl dX7_record_44)) (
  tab_cons (eO (so_dastore h dX7_record_45)) (
  tab_nil))))))))))))))))))))))))))))))
def tX7_record_1 : Tb := [(46, .inl (f_aload 0, 47)), (47, .inl (f_get 7 1, 50)), (50, .inl (f_ci (1), 51)), (51, .inl (f_dup2, 52)), (52, .inr (.inr (.inl (0, 53, 0, m0)))), (53, .inl (f_ci (1), 54)), (54, .inl (f_iadd, 55)), (55, .inr (.inr (.inl (4, 56, 0, m0)))), (56, .inr (.inr (.inl (18, 57, 0, m0))))]
set_option maxRecDepth 10000 in
theorem kX7_record_1 {X : Ctx} (h : sCx X mX7_record) : tab X mX7_record tX7_record_1 :=
  tab_cons (eS (st_aloadn h rfl dX7_record_46)) (
  tab_cons (eS (st_get h (ci := 7) (k := 1) rfl giX7 (by decide) rfl gw_292 dX7_record_47)) (
  tab_cons (eS (st_iconst h (by decide +kernel) dX7_record_50)) (
  tab_cons (eS (st_dup2 h dX7_record_51)) (
  tab_cons (eO (so_iaload h dX7_record_52)) (
  tab_cons (eS (st_iconst h (by decide +kernel) dX7_record_53)) (
  tab_cons (eS (st_iadd h dX7_record_54)) (
  tab_cons (eO (so_iastore h dX7_record_55)) (
  tab_cons (eO (so_return h dX7_record_56)) (
  tab_nil)))))))))
def tX7_record : Tb := tX7_record_0 ++ (tX7_record_1)
theorem kX7_record {X : Ctx} (h : sCx X mX7_record) : tab X mX7_record tX7_record := tab_app (kX7_record_0 h) (kX7_record_1 h)
theorem dX7_lineUp_0 : decode cX7_lineUp 0 = .ok (.aload_n 0, 1) := by decide +kernel
theorem dX7_lineUp_1 : decode cX7_lineUp 1 = .ok (.iconst 0, 1) := by decide +kernel
theorem dX7_lineUp_2 : decode cX7_lineUp 2 = .ok (.putfield 152, 3) := by decide +kernel
theorem dX7_lineUp_5 : decode cX7_lineUp 5 = .ok (.iconst 0, 1) := by decide +kernel
theorem dX7_lineUp_6 : decode cX7_lineUp 6 = .ok (.istore 5, 2) := by decide +kernel
theorem dX7_lineUp_8 : decode cX7_lineUp 8 = .ok (.iload 5, 2) := by decide +kernel
theorem dX7_lineUp_10 : decode cX7_lineUp 10 = .ok (.aload_n 0, 1) := by decide +kernel
theorem dX7_lineUp_11 : decode cX7_lineUp 11 = .ok (.getfield 93, 3) := by decide +kernel
theorem dX7_lineUp_14 : decode cX7_lineUp 14 = .ok (.if_icmp .ge 169, 3) := by decide +kernel
theorem dX7_lineUp_17 : decode cX7_lineUp 17 = .ok (.aload_n 0, 1) := by decide +kernel
theorem dX7_lineUp_18 : decode cX7_lineUp 18 = .ok (.aload_n 0, 1) := by decide +kernel
theorem dX7_lineUp_19 : decode cX7_lineUp 19 = .ok (.getfield 23, 3) := by decide +kernel
theorem dX7_lineUp_22 : decode cX7_lineUp 22 = .ok (.iload 5, 2) := by decide +kernel
theorem dX7_lineUp_24 : decode cX7_lineUp 24 = .ok (.iaload, 1) := by decide +kernel
theorem dX7_lineUp_25 : decode cX7_lineUp 25 = .ok (.dload_n 1, 1) := by decide +kernel
theorem dX7_lineUp_26 : decode cX7_lineUp 26 = .ok (.invokevirtual 125, 3) := by decide +kernel
theorem dX7_lineUp_29 : decode cX7_lineUp 29 = .ok (.dstore 6, 2) := by decide +kernel
theorem dX7_lineUp_31 : decode cX7_lineUp 31 = .ok (.dload 6, 2) := by decide +kernel
theorem dX7_lineUp_33 : decode cX7_lineUp 33 = .ok (.ldc2_w 113, 3) := by decide +kernel
theorem dX7_lineUp_36 : decode cX7_lineUp 36 = .ok (.dcmp .l, 1) := by decide +kernel
theorem dX7_lineUp_37 : decode cX7_lineUp 37 = .ok (.ifCond .eq 140, 3) := by decide +kernel
theorem dX7_lineUp_40 : decode cX7_lineUp 40 = .ok (.dload_n 3, 1) := by decide +kernel
theorem dX7_lineUp_41 : decode cX7_lineUp 41 = .ok (.dload 6, 2) := by decide +kernel
theorem dX7_lineUp_43 : decode cX7_lineUp 43 = .ok (.dadd, 1) := by decide +kernel
theorem dX7_lineUp_44 : decode cX7_lineUp 44 = .ok (.dstore 8, 2) := by decide +kernel
theorem dX7_lineUp_46 : decode cX7_lineUp 46 = .ok (.aload_n 0, 1) := by decide +kernel
theorem dX7_lineUp_47 : decode cX7_lineUp 47 = .ok (.getfield 152, 3) := by decide +kernel
theorem dX7_lineUp_50 : decode cX7_lineUp 50 = .ok (.istore 10, 2) := by decide +kernel
theorem dX7_lineUp_52 : decode cX7_lineUp 52 = .ok (.iload 10, 2) := by decide +kernel
theorem dX7_lineUp_54 : decode cX7_lineUp 54 = .ok (.ifCond .le 90, 3) := by decide +kernel
theorem dX7_lineUp_57 : decode cX7_lineUp 57 = .ok (.aload_n 0, 1) := by decide +kernel
theorem dX7_lineUp_58 : decode cX7_lineUp 58 = .ok (.getfield 29, 3) := by decide +kernel
theorem dX7_lineUp_61 : decode cX7_lineUp 61 = .ok (.iload 10, 2) := by decide +kernel
theorem dX7_lineUp_63 : decode cX7_lineUp 63 = .ok (.iconst 1, 1) := by decide +kernel
theorem dX7_lineUp_64 : decode cX7_lineUp 64 = .ok (.isub, 1) := by decide +kernel
theorem dX7_lineUp_65 : decode cX7_lineUp 65 = .ok (.daload, 1) := by decide +kernel
theorem dX7_lineUp_66 : decode cX7_lineUp 66 = .ok (.dload 8, 2) := by decide +kernel
theorem dX7_lineUp_68 : decode cX7_lineUp 68 = .ok (.dcmp .l, 1) := by decide +kernel
theorem dX7_lineUp_69 : decode cX7_lineUp 69 = .ok (.ifCond .gt 37, 3) := by decide +kernel
theorem dX7_lineUp_72 : decode cX7_lineUp 72 = .ok (.aload_n 0, 1) := by decide +kernel
theorem dX7_lineUp_73 : decode cX7_lineUp 73 = .ok (.getfield 29, 3) := by decide +kernel
theorem dX7_lineUp_76 : decode cX7_lineUp 76 = .ok (.iload 10, 2) := by decide +kernel
theorem dX7_lineUp_78 : decode cX7_lineUp 78 = .ok (.iconst 1, 1) := by decide +kernel
theorem dX7_lineUp_79 : decode cX7_lineUp 79 = .ok (.isub, 1) := by decide +kernel
theorem dX7_lineUp_80 : decode cX7_lineUp 80 = .ok (.daload, 1) := by decide +kernel
theorem dX7_lineUp_81 : decode cX7_lineUp 81 = .ok (.dload 8, 2) := by decide +kernel
theorem dX7_lineUp_83 : decode cX7_lineUp 83 = .ok (.dcmp .l, 1) := by decide +kernel
theorem dX7_lineUp_84 : decode cX7_lineUp 84 = .ok (.ifCond .ne 60, 3) := by decide +kernel
theorem dX7_lineUp_87 : decode cX7_lineUp 87 = .ok (.aload_n 0, 1) := by decide +kernel
theorem dX7_lineUp_88 : decode cX7_lineUp 88 = .ok (.getfield 26, 3) := by decide +kernel
theorem dX7_lineUp_91 : decode cX7_lineUp 91 = .ok (.iload 10, 2) := by decide +kernel
theorem dX7_lineUp_93 : decode cX7_lineUp 93 = .ok (.iconst 1, 1) := by decide +kernel
theorem dX7_lineUp_94 : decode cX7_lineUp 94 = .ok (.isub, 1) := by decide +kernel
theorem dX7_lineUp_95 : decode cX7_lineUp 95 = .ok (.iaload, 1) := by decide +kernel
theorem dX7_lineUp_96 : decode cX7_lineUp 96 = .ok (.aload_n 0, 1) := by decide +kernel
theorem dX7_lineUp_97 : decode cX7_lineUp 97 = .ok (.getfield 23, 3) := by decide +kernel
theorem dX7_lineUp_100 : decode cX7_lineUp 100 = .ok (.iload 5, 2) := by decide +kernel
theorem dX7_lineUp_102 : decode cX7_lineUp 102 = .ok (.iaload, 1) := by decide +kernel
theorem dX7_lineUp_103 : decode cX7_lineUp 103 = .ok (.if_icmp .ge 41, 3) := by decide +kernel
theorem dX7_lineUp_106 : decode cX7_lineUp 106 = .ok (.aload_n 0, 1) := by decide +kernel
theorem dX7_lineUp_107 : decode cX7_lineUp 107 = .ok (.getfield 29, 3) := by decide +kernel
theorem dX7_lineUp_110 : decode cX7_lineUp 110 = .ok (.iload 10, 2) := by decide +kernel
theorem dX7_lineUp_112 : decode cX7_lineUp 112 = .ok (.aload_n 0, 1) := by decide +kernel
theorem dX7_lineUp_113 : decode cX7_lineUp 113 = .ok (.getfield 29, 3) := by decide +kernel
theorem dX7_lineUp_116 : decode cX7_lineUp 116 = .ok (.iload 10, 2) := by decide +kernel
theorem dX7_lineUp_118 : decode cX7_lineUp 118 = .ok (.iconst 1, 1) := by decide +kernel
theorem dX7_lineUp_119 : decode cX7_lineUp 119 = .ok (.isub, 1) := by decide +kernel
theorem dX7_lineUp_120 : decode cX7_lineUp 120 = .ok (.daload, 1) := by decide +kernel
theorem dX7_lineUp_121 : decode cX7_lineUp 121 = .ok (.dastore, 1) := by decide +kernel
theorem dX7_lineUp_122 : decode cX7_lineUp 122 = .ok (.aload_n 0, 1) := by decide +kernel
theorem dX7_lineUp_123 : decode cX7_lineUp 123 = .ok (.getfield 26, 3) := by decide +kernel
theorem dX7_lineUp_126 : decode cX7_lineUp 126 = .ok (.iload 10, 2) := by decide +kernel
theorem dX7_lineUp_128 : decode cX7_lineUp 128 = .ok (.aload_n 0, 1) := by decide +kernel
theorem dX7_lineUp_129 : decode cX7_lineUp 129 = .ok (.getfield 26, 3) := by decide +kernel
theorem dX7_lineUp_132 : decode cX7_lineUp 132 = .ok (.iload 10, 2) := by decide +kernel
theorem dX7_lineUp_134 : decode cX7_lineUp 134 = .ok (.iconst 1, 1) := by decide +kernel
theorem dX7_lineUp_135 : decode cX7_lineUp 135 = .ok (.isub, 1) := by decide +kernel
theorem dX7_lineUp_136 : decode cX7_lineUp 136 = .ok (.iaload, 1) := by decide +kernel
theorem dX7_lineUp_137 : decode cX7_lineUp 137 = .ok (.iastore, 1) := by decide +kernel
theorem dX7_lineUp_138 : decode cX7_lineUp 138 = .ok (.iinc 10 (-1), 3) := by decide +kernel
theorem dX7_lineUp_141 : decode cX7_lineUp 141 = .ok (.goto (-89), 3) := by decide +kernel
theorem dX7_lineUp_144 : decode cX7_lineUp 144 = .ok (.aload_n 0, 1) := by decide +kernel
theorem dX7_lineUp_145 : decode cX7_lineUp 145 = .ok (.getfield 29, 3) := by decide +kernel
theorem dX7_lineUp_148 : decode cX7_lineUp 148 = .ok (.iload 10, 2) := by decide +kernel
theorem dX7_lineUp_150 : decode cX7_lineUp 150 = .ok (.dload 8, 2) := by decide +kernel
theorem dX7_lineUp_152 : decode cX7_lineUp 152 = .ok (.dastore, 1) := by decide +kernel
theorem dX7_lineUp_153 : decode cX7_lineUp 153 = .ok (.aload_n 0, 1) := by decide +kernel
theorem dX7_lineUp_154 : decode cX7_lineUp 154 = .ok (.getfield 26, 3) := by decide +kernel
theorem dX7_lineUp_157 : decode cX7_lineUp 157 = .ok (.iload 10, 2) := by decide +kernel
theorem dX7_lineUp_159 : decode cX7_lineUp 159 = .ok (.aload_n 0, 1) := by decide +kernel
theorem dX7_lineUp_160 : decode cX7_lineUp 160 = .ok (.getfield 23, 3) := by decide +kernel
theorem dX7_lineUp_163 : decode cX7_lineUp 163 = .ok (.iload 5, 2) := by decide +kernel
theorem dX7_lineUp_165 : decode cX7_lineUp 165 = .ok (.iaload, 1) := by decide +kernel
theorem dX7_lineUp_166 : decode cX7_lineUp 166 = .ok (.iastore, 1) := by decide +kernel
theorem dX7_lineUp_167 : decode cX7_lineUp 167 = .ok (.aload_n 0, 1) := by decide +kernel
theorem dX7_lineUp_168 : decode cX7_lineUp 168 = .ok (.dup, 1) := by decide +kernel
theorem dX7_lineUp_169 : decode cX7_lineUp 169 = .ok (.getfield 152, 3) := by decide +kernel
theorem dX7_lineUp_172 : decode cX7_lineUp 172 = .ok (.iconst 1, 1) := by decide +kernel
theorem dX7_lineUp_173 : decode cX7_lineUp 173 = .ok (.iadd, 1) := by decide +kernel
theorem dX7_lineUp_174 : decode cX7_lineUp 174 = .ok (.putfield 152, 3) := by decide +kernel
theorem dX7_lineUp_177 : decode cX7_lineUp 177 = .ok (.iinc 5 1, 3) := by decide +kernel
theorem dX7_lineUp_180 : decode cX7_lineUp 180 = .ok (.goto (-172), 3) := by decide +kernel
theorem dX7_lineUp_183 : decode cX7_lineUp 183 = .ok (.return_, 1) := by decide +kernel
def tX7_lineUp_0 : Tb := [(0, .inl (f_aload 0, 1)), (1, .inl (f_ci (0), 2)), (2, .inl (f_putI 7 10, 5)), (5, .inl (f_ci (0), 6)), (6, .inl (f_istore 11 5, 8)), (8, .inl (f_iload 5, 10)), (10, .inl (f_aload 0, 11)), (11, .inl (f_get 7 7, 14)), (14, .inr (.inl (b_icmp_ge, 183, 17))), (17, .inl (f_aload 0, 18)), (18, .inl (f_aload 0, 19)), (19, .inl (f_get 7 6, 22)), (22, .inl (f_iload 5, 24)), (24, .inr (.inr (.inl (0, 25, 0, m0)))), (25, .inl (f_dload 1, 26)), (26, .inr (.inr (.inl (13, 29, 3, mX7_timeOf)))), (29, .inl (f_dstore 11 6, 31)), (31, .inl (f_dload 6, 33)), (33, .inl (f_cd 9218868437227405312, 36)), (36, .inl (f_dcmpl, 37)), (37, .inr (.inl (b_if_eq, 177, 40))), (40, .inl (f_dload 3, 41)), (41, .inl (f_dload 6, 43)), (43, .inr (.inr (.inl (7, 44, 0, m0)))), (44, .inl (f_dstore 11 8, 46)), (46, .inl (f_aload 0, 47)), (47, .inl (f_get 7 10, 50)), (50, .inl (f_istore 11 10, 52)), (52, .inl (f_iload 10, 54)), (54, .inr (.inl (b_if_le, 144, 57)))]
set_option maxRecDepth 10000 in
theorem kX7_lineUp_0 {X : Ctx} (h : sCx X mX7_lineUp) : tab X mX7_lineUp tX7_lineUp_0 :=
  tab_cons (eS (st_aloadn h rfl dX7_lineUp_0)) (
  tab_cons (eS (st_iconst h (by decide +kernel) dX7_lineUp_1)) (
  tab_cons (eS (st_putI h (ci := 7) (k := 10) tyX7 tyX7_ok nmX7 rfl giX7 (by decide) rfl rfl (by decide +kernel) gw_388 dX7_lineUp_2)) (
  tab_cons (eS (st_iconst h (by decide +kernel) dX7_lineUp_5)) (
  tab_cons (eS (st_istore h dX7_lineUp_6)) (
  tab_cons (eS (st_iload h dX7_lineUp_8)) (
  tab_cons (eS (st_aloadn h rfl dX7_lineUp_10)) (
  tab_cons (eS (st_get h (ci := 7) (k := 7) rfl giX7 (by decide) rfl gw_335 dX7_lineUp_11)) (
  tab_cons (eB (sb_icmp_ge h dX7_lineUp_14 (by decide))) (
  tab_cons (eS (st_aloadn h rfl dX7_lineUp_17)) (
  tab_cons (eS (st_aloadn h rfl dX7_lineUp_18)) (
  tab_cons (eS (st_get h (ci := 7) (k := 6) rfl giX7 (by decide) rfl gw_336 dX7_lineUp_19)) (
  tab_cons (eS (st_iload h dX7_lineUp_22)) (
  tab_cons (eO (so_iaload h dX7_lineUp_24)) (
  tab_cons (eS (st_dloadn h rfl dX7_lineUp_25)) (
  tab_cons (eO (so_callV h gw_361 gw_362 gw_363 gw_295 gw_364 ⟨by decide +kernel, by decide +kernel, by decide +kernel, by decide +kernel⟩ ⟨by decide +kernel, by decide +kernel⟩ dX7_lineUp_26)) (
  tab_cons (eS (st_dstore h dX7_lineUp_29)) (
  tab_cons (eS (st_dload h dX7_lineUp_31)) (
  tab_cons (eS (st_ldc2d h gw_355 dX7_lineUp_33)) (
  tab_cons (eS (st_dcmpl h dX7_lineUp_36)) (
  tab_cons (eB (sb_if_eq h dX7_lineUp_37 (by decide))) (
  tab_cons (eS (st_dloadn h rfl dX7_lineUp_40)) (
  tab_cons (eS (st_dload h dX7_lineUp_41)) (
  tab_cons (eO (so_dadd h dX7_lineUp_43)) (
  tab_cons (eS (st_dstore h dX7_lineUp_44)) (
  tab_cons (eS (st_aloadn h rfl dX7_lineUp_46)) (
  tab_cons (eS (st_get h (ci := 7) (k := 10) rfl giX7 (by decide) rfl gw_388 dX7_lineUp_47)) (
  tab_cons (eS (st_istore h dX7_lineUp_50)) (
  tab_cons (eS (st_iload h dX7_lineUp_52)) (
  tab_cons (eB (sb_if_le h dX7_lineUp_54 (by decide))) (
  tab_nil))))))))))))))))))))))))))))))
def tX7_lineUp_1 : Tb := [(57, .inl (f_aload 0, 58)), (58, .inl (f_get 7 9, 61)), (61, .inl (f_iload 10, 63)), (63, .inl (f_ci (1), 64)), (64, .inl (f_isub, 65)), (65, .inr (.inr (.inl (1, 66, 0, m0)))), (66, .inl (f_dload 8, 68)), (68, .inl (f_dcmpl, 69)), (69, .inr (.inl (b_if_gt, 106, 72))), (72, .inl (f_aload 0, 73)), (73, .inl (f_get 7 9, 76)), (76, .inl (f_iload 10, 78)), (78, .inl (f_ci (1), 79)), (79, .inl (f_isub, 80)), (80, .inr (.inr (.inl (1, 81, 0, m0)))), (81, .inl (f_dload 8, 83)), (83, .inl (f_dcmpl, 84)), (84, .inr (.inl (b_if_eq, 87, 144))), (87, .inl (f_aload 0, 88)), (88, .inl (f_get 7 8, 91)), (91, .inl (f_iload 10, 93)), (93, .inl (f_ci (1), 94)), (94, .inl (f_isub, 95)), (95, .inr (.inr (.inl (0, 96, 0, m0)))), (96, .inl (f_aload 0, 97)), (97, .inl (f_get 7 6, 100)), (100, .inl (f_iload 5, 102)), (102, .inr (.inr (.inl (0, 103, 0, m0)))), (103, .inr (.inl (b_icmp_ge, 144, 106))), (106, .inl (f_aload 0, 107))]
set_option maxRecDepth 10000 in
theorem kX7_lineUp_1 {X : Ctx} (h : sCx X mX7_lineUp) : tab X mX7_lineUp tX7_lineUp_1 :=
  tab_cons (eS (st_aloadn h rfl dX7_lineUp_57)) (
  tab_cons (eS (st_get h (ci := 7) (k := 9) rfl giX7 (by decide) rfl gw_389 dX7_lineUp_58)) (
  tab_cons (eS (st_iload h dX7_lineUp_61)) (
  tab_cons (eS (st_iconst h (by decide +kernel) dX7_lineUp_63)) (
  tab_cons (eS (st_isub h dX7_lineUp_64)) (
  tab_cons (eO (so_daload h dX7_lineUp_65)) (
  tab_cons (eS (st_dload h dX7_lineUp_66)) (
  tab_cons (eS (st_dcmpl h dX7_lineUp_68)) (
  tab_cons (eB (sb_if_gt h dX7_lineUp_69 (by decide))) (
  tab_cons (eS (st_aloadn h rfl dX7_lineUp_72)) (
  tab_cons (eS (st_get h (ci := 7) (k := 9) rfl giX7 (by decide) rfl gw_389 dX7_lineUp_73)) (
  tab_cons (eS (st_iload h dX7_lineUp_76)) (
  tab_cons (eS (st_iconst h (by decide +kernel) dX7_lineUp_78)) (
  tab_cons (eS (st_isub h dX7_lineUp_79)) (
  tab_cons (eO (so_daload h dX7_lineUp_80)) (
  tab_cons (eS (st_dload h dX7_lineUp_81)) (
  tab_cons (eS (st_dcmpl h dX7_lineUp_83)) (
  tab_cons (eB (sb_if_ne h dX7_lineUp_84 (by decide))) (
  tab_cons (eS (st_aloadn h rfl dX7_lineUp_87)) (
  tab_cons (eS (st_get h (ci := 7) (k := 8) rfl giX7 (by decide) rfl gw_390 dX7_lineUp_88)) (
  tab_cons (eS (st_iload h dX7_lineUp_91)) (
  tab_cons (eS (st_iconst h (by decide +kernel) dX7_lineUp_93)) (
  tab_cons (eS (st_isub h dX7_lineUp_94)) (
  tab_cons (eO (so_iaload h dX7_lineUp_95)) (
  tab_cons (eS (st_aloadn h rfl dX7_lineUp_96)) (
  tab_cons (eS (st_get h (ci := 7) (k := 6) rfl giX7 (by decide) rfl gw_336 dX7_lineUp_97)) (
  tab_cons (eS (st_iload h dX7_lineUp_100)) (
  tab_cons (eO (so_iaload h dX7_lineUp_102)) (
  tab_cons (eB (sb_icmp_ge h dX7_lineUp_103 (by decide))) (
  tab_cons (eS (st_aloadn h rfl dX7_lineUp_106)) (
  tab_nil))))))))))))))))))))))))))))))
def tX7_lineUp_2 : Tb := [(107, .inl (f_get 7 9, 110)), (110, .inl (f_iload 10, 112)), (112, .inl (f_aload 0, 113)), (113, .inl (f_get 7 9, 116)), (116, .inl (f_iload 10, 118)), (118, .inl (f_ci (1), 119)), (119, .inl (f_isub, 120)), (120, .inr (.inr (.inl (1, 121, 0, m0)))), (121, .inr (.inr (.inl (5, 122, 0, m0)))), (122, .inl (f_aload 0, 123)), (123, .inl (f_get 7 8, 126)), (126, .inl (f_iload 10, 128)), (128, .inl (f_aload 0, 129)), (129, .inl (f_get 7 8, 132)), (132, .inl (f_iload 10, 134)), (134, .inl (f_ci (1), 135)), (135, .inl (f_isub, 136)), (136, .inr (.inr (.inl (0, 137, 0, m0)))), (137, .inr (.inr (.inl (4, 138, 0, m0)))), (138, .inl (f_iinc 11 10 (-1), 141)), (141, .inl (f_id, 52)), (144, .inl (f_aload 0, 145)), (145, .inl (f_get 7 9, 148)), (148, .inl (f_iload 10, 150)), (150, .inl (f_dload 8, 152)), (152, .inr (.inr (.inl (5, 153, 0, m0)))), (153, .inl (f_aload 0, 154)), (154, .inl (f_get 7 8, 157)), (157, .inl (f_iload 10, 159)), (159, .inl (f_aload 0, 160))]
set_option maxRecDepth 10000 in
theorem kX7_lineUp_2 {X : Ctx} (h : sCx X mX7_lineUp) : tab X mX7_lineUp tX7_lineUp_2 :=
  tab_cons (eS (st_get h (ci := 7) (k := 9) rfl giX7 (by decide) rfl gw_389 dX7_lineUp_107)) (
  tab_cons (eS (st_iload h dX7_lineUp_110)) (
  tab_cons (eS (st_aloadn h rfl dX7_lineUp_112)) (
  tab_cons (eS (st_get h (ci := 7) (k := 9) rfl giX7 (by decide) rfl gw_389 dX7_lineUp_113)) (
  tab_cons (eS (st_iload h dX7_lineUp_116)) (
  tab_cons (eS (st_iconst h (by decide +kernel) dX7_lineUp_118)) (
  tab_cons (eS (st_isub h dX7_lineUp_119)) (
  tab_cons (eO (so_daload h dX7_lineUp_120)) (
  tab_cons (eO (so_dastore h dX7_lineUp_121)) (
  tab_cons (eS (st_aloadn h rfl dX7_lineUp_122)) (
  tab_cons (eS (st_get h (ci := 7) (k := 8) rfl giX7 (by decide) rfl gw_390 dX7_lineUp_123)) (
  tab_cons (eS (st_iload h dX7_lineUp_126)) (
  tab_cons (eS (st_aloadn h rfl dX7_lineUp_128)) (
  tab_cons (eS (st_get h (ci := 7) (k := 8) rfl giX7 (by decide) rfl gw_390 dX7_lineUp_129)) (
  tab_cons (eS (st_iload h dX7_lineUp_132)) (
  tab_cons (eS (st_iconst h (by decide +kernel) dX7_lineUp_134)) (
  tab_cons (eS (st_isub h dX7_lineUp_135)) (
  tab_cons (eO (so_iaload h dX7_lineUp_136)) (
  tab_cons (eO (so_iastore h dX7_lineUp_137)) (
  tab_cons (eS (st_iinc h (by decide +kernel) dX7_lineUp_138)) (
  tab_cons (eS (st_goto h dX7_lineUp_141 (by decide))) (
  tab_cons (eS (st_aloadn h rfl dX7_lineUp_144)) (
  tab_cons (eS (st_get h (ci := 7) (k := 9) rfl giX7 (by decide) rfl gw_389 dX7_lineUp_145)) (
  tab_cons (eS (st_iload h dX7_lineUp_148)) (
  tab_cons (eS (st_dload h dX7_lineUp_150)) (
  tab_cons (eO (so_dastore h dX7_lineUp_152)) (
  tab_cons (eS (st_aloadn h rfl dX7_lineUp_153)) (
  tab_cons (eS (st_get h (ci := 7) (k := 8) rfl giX7 (by decide) rfl gw_390 dX7_lineUp_154)) (
  tab_cons (eS (st_iload h dX7_lineUp_157)) (
  tab_cons (eS (st_aloadn h rfl dX7_lineUp_159)) (
  tab_nil))))))))))))))))))))))))))))))
def tX7_lineUp_3 : Tb := [(160, .inl (f_get 7 6, 163)), (163, .inl (f_iload 5, 165)), (165, .inr (.inr (.inl (0, 166, 0, m0)))), (166, .inr (.inr (.inl (4, 167, 0, m0)))), (167, .inl (f_aload 0, 168)), (168, .inl (f_dup, 169)), (169, .inl (f_get 7 10, 172)), (172, .inl (f_ci (1), 173)), (173, .inl (f_iadd, 174)), (174, .inl (f_putI 7 10, 177)), (177, .inl (f_iinc 11 5 (1), 180)), (180, .inl (f_id, 8)), (183, .inr (.inr (.inl (18, 184, 0, m0))))]
set_option maxRecDepth 10000 in
theorem kX7_lineUp_3 {X : Ctx} (h : sCx X mX7_lineUp) : tab X mX7_lineUp tX7_lineUp_3 :=
  tab_cons (eS (st_get h (ci := 7) (k := 6) rfl giX7 (by decide) rfl gw_336 dX7_lineUp_160)) (
  tab_cons (eS (st_iload h dX7_lineUp_163)) (
  tab_cons (eO (so_iaload h dX7_lineUp_165)) (
  tab_cons (eO (so_iastore h dX7_lineUp_166)) (
  tab_cons (eS (st_aloadn h rfl dX7_lineUp_167)) (
  tab_cons (eS (st_dup h dX7_lineUp_168)) (
  tab_cons (eS (st_get h (ci := 7) (k := 10) rfl giX7 (by decide) rfl gw_388 dX7_lineUp_169)) (
  tab_cons (eS (st_iconst h (by decide +kernel) dX7_lineUp_172)) (
  tab_cons (eS (st_iadd h dX7_lineUp_173)) (
  tab_cons (eS (st_putI h (ci := 7) (k := 10) tyX7 tyX7_ok nmX7 rfl giX7 (by decide) rfl rfl (by decide +kernel) gw_388 dX7_lineUp_174)) (
  tab_cons (eS (st_iinc h (by decide +kernel) dX7_lineUp_177)) (
  tab_cons (eS (st_goto h dX7_lineUp_180 (by decide))) (
  tab_cons (eO (so_return h dX7_lineUp_183)) (
  tab_nil)))))))))))))
def tX7_lineUp : Tb := tX7_lineUp_0 ++ (tX7_lineUp_1 ++ (tX7_lineUp_2 ++ (tX7_lineUp_3)))
theorem kX7_lineUp {X : Ctx} (h : sCx X mX7_lineUp) : tab X mX7_lineUp tX7_lineUp := tab_app (kX7_lineUp_0 h) (tab_app (kX7_lineUp_1 h) (tab_app (kX7_lineUp_2 h) (kX7_lineUp_3 h)))
theorem dX7_isPathOpen_0 : decode cX7_isPathOpen 0 = .ok (.iconst 0, 1) := by decide +kernel
theorem dX7_isPathOpen_1 : decode cX7_isPathOpen 1 = .ok (.istore_n 1, 1) := by decide +kernel
theorem dX7_isPathOpen_2 : decode cX7_isPathOpen 2 = .ok (.iconst 0, 1) := by decide +kernel
theorem dX7_isPathOpen_3 : decode cX7_isPathOpen 3 = .ok (.istore_n 2, 1) := by decide +kernel
theorem dX7_isPathOpen_4 : decode cX7_isPathOpen 4 = .ok (.iload_n 2, 1) := by decide +kernel
theorem dX7_isPathOpen_5 : decode cX7_isPathOpen 5 = .ok (.aload_n 0, 1) := by decide +kernel
theorem dX7_isPathOpen_6 : decode cX7_isPathOpen 6 = .ok (.getfield 93, 3) := by decide +kernel
theorem dX7_isPathOpen_9 : decode cX7_isPathOpen 9 = .ok (.if_icmp .ge 39, 3) := by decide +kernel
theorem dX7_isPathOpen_12 : decode cX7_isPathOpen 12 = .ok (.iload_n 1, 1) := by decide +kernel
theorem dX7_isPathOpen_13 : decode cX7_isPathOpen 13 = .ok (.ifCond .ne 23, 3) := by decide +kernel
theorem dX7_isPathOpen_16 : decode cX7_isPathOpen 16 = .ok (.aload_n 0, 1) := by decide +kernel
theorem dX7_isPathOpen_17 : decode cX7_isPathOpen 17 = .ok (.getfield 7, 3) := by decide +kernel
theorem dX7_isPathOpen_20 : decode cX7_isPathOpen 20 = .ok (.aload_n 0, 1) := by decide +kernel
theorem dX7_isPathOpen_21 : decode cX7_isPathOpen 21 = .ok (.getfield 23, 3) := by decide +kernel
theorem dX7_isPathOpen_24 : decode cX7_isPathOpen 24 = .ok (.iload_n 2, 1) := by decide +kernel
theorem dX7_isPathOpen_25 : decode cX7_isPathOpen 25 = .ok (.iaload, 1) := by decide +kernel
theorem dX7_isPathOpen_26 : decode cX7_isPathOpen 26 = .ok (.bipush 8, 2) := by decide +kernel
theorem dX7_isPathOpen_28 : decode cX7_isPathOpen 28 = .ok (.invokestatic 71, 3) := by decide +kernel
theorem dX7_isPathOpen_31 : decode cX7_isPathOpen 31 = .ok (.iaload, 1) := by decide +kernel
theorem dX7_isPathOpen_32 : decode cX7_isPathOpen 32 = .ok (.iconst 1, 1) := by decide +kernel
theorem dX7_isPathOpen_33 : decode cX7_isPathOpen 33 = .ok (.if_icmp .ne 7, 3) := by decide +kernel
theorem dX7_isPathOpen_36 : decode cX7_isPathOpen 36 = .ok (.iconst 1, 1) := by decide +kernel
theorem dX7_isPathOpen_37 : decode cX7_isPathOpen 37 = .ok (.goto 4, 3) := by decide +kernel
theorem dX7_isPathOpen_40 : decode cX7_isPathOpen 40 = .ok (.iconst 0, 1) := by decide +kernel
theorem dX7_isPathOpen_41 : decode cX7_isPathOpen 41 = .ok (.istore_n 1, 1) := by decide +kernel
theorem dX7_isPathOpen_42 : decode cX7_isPathOpen 42 = .ok (.iinc 2 1, 3) := by decide +kernel
theorem dX7_isPathOpen_45 : decode cX7_isPathOpen 45 = .ok (.goto (-41), 3) := by decide +kernel
theorem dX7_isPathOpen_48 : decode cX7_isPathOpen 48 = .ok (.iload_n 1, 1) := by decide +kernel
theorem dX7_isPathOpen_49 : decode cX7_isPathOpen 49 = .ok (.ireturn, 1) := by decide +kernel
def tX7_isPathOpen_0 : Tb := [(0, .inl (f_ci (0), 1)), (1, .inl (f_istore 3 1, 2)), (2, .inl (f_ci (0), 3)), (3, .inl (f_istore 3 2, 4)), (4, .inl (f_iload 2, 5)), (5, .inl (f_aload 0, 6)), (6, .inl (f_get 7 7, 9)), (9, .inr (.inl (b_icmp_ge, 48, 12))), (12, .inl (f_iload 1, 13)), (13, .inr (.inl (b_if_eq, 16, 36))), (16, .inl (f_aload 0, 17)), (17, .inl (f_get 7 1, 20)), (20, .inl (f_aload 0, 21)), (21, .inl (f_get 7 6, 24)), (24, .inl (f_iload 2, 25)), (25, .inr (.inr (.inl (0, 26, 0, m0)))), (26, .inl (f_ci (8), 28)), (28, .inr (.inr (.inl (14, 31, 2, mX7_at)))), (31, .inr (.inr (.inl (0, 32, 0, m0)))), (32, .inl (f_ci (1), 33)), (33, .inr (.inl (b_icmp_eq, 36, 40))), (36, .inl (f_ci (1), 37)), (37, .inl (f_id, 41)), (40, .inl (f_ci (0), 41)), (41, .inl (f_istore 3 1, 42)), (42, .inl (f_iinc 3 2 (1), 45)), (45, .inl (f_id, 4)), (48, .inl (f_iload 1, 49)), (49, .inr (.inr (.inl (15, 50, 0, m0))))]
set_option maxRecDepth 10000 in
theorem kX7_isPathOpen_0 {X : Ctx} (h : sCx X mX7_isPathOpen) : tab X mX7_isPathOpen tX7_isPathOpen_0 :=
  tab_cons (eS (st_iconst h (by decide +kernel) dX7_isPathOpen_0)) (
  tab_cons (eS (st_istoren h rfl dX7_isPathOpen_1)) (
  tab_cons (eS (st_iconst h (by decide +kernel) dX7_isPathOpen_2)) (
  tab_cons (eS (st_istoren h rfl dX7_isPathOpen_3)) (
  tab_cons (eS (st_iloadn h rfl dX7_isPathOpen_4)) (
  tab_cons (eS (st_aloadn h rfl dX7_isPathOpen_5)) (
  tab_cons (eS (st_get h (ci := 7) (k := 7) rfl giX7 (by decide) rfl gw_335 dX7_isPathOpen_6)) (
  tab_cons (eB (sb_icmp_ge h dX7_isPathOpen_9 (by decide))) (
  tab_cons (eS (st_iloadn h rfl dX7_isPathOpen_12)) (
  tab_cons (eB (sb_if_ne h dX7_isPathOpen_13 (by decide))) (
  tab_cons (eS (st_aloadn h rfl dX7_isPathOpen_16)) (
  tab_cons (eS (st_get h (ci := 7) (k := 1) rfl giX7 (by decide) rfl gw_292 dX7_isPathOpen_17)) (
  tab_cons (eS (st_aloadn h rfl dX7_isPathOpen_20)) (
  tab_cons (eS (st_get h (ci := 7) (k := 6) rfl giX7 (by decide) rfl gw_336 dX7_isPathOpen_21)) (
  tab_cons (eS (st_iloadn h rfl dX7_isPathOpen_24)) (
  tab_cons (eO (so_iaload h dX7_isPathOpen_25)) (
  tab_cons (eS (st_bipush h (by decide +kernel) dX7_isPathOpen_26)) (
  tab_cons (eO (so_callS h gw_312 gw_313 gw_295 gw_314 ⟨by decide +kernel, by decide +kernel, by decide +kernel⟩ ⟨by decide +kernel, by decide +kernel⟩ dX7_isPathOpen_28)) (
  tab_cons (eO (so_iaload h dX7_isPathOpen_31)) (
  tab_cons (eS (st_iconst h (by decide +kernel) dX7_isPathOpen_32)) (
  tab_cons (eB (sb_icmp_ne h dX7_isPathOpen_33 (by decide))) (
  tab_cons (eS (st_iconst h (by decide +kernel) dX7_isPathOpen_36)) (
  tab_cons (eS (st_goto h dX7_isPathOpen_37 (by decide))) (
  tab_cons (eS (st_iconst h (by decide +kernel) dX7_isPathOpen_40)) (
  tab_cons (eS (st_istoren h rfl dX7_isPathOpen_41)) (
  tab_cons (eS (st_iinc h (by decide +kernel) dX7_isPathOpen_42)) (
  tab_cons (eS (st_goto h dX7_isPathOpen_45 (by decide))) (
  tab_cons (eS (st_iloadn h rfl dX7_isPathOpen_48)) (
  tab_cons (eO (so_ireturn h dX7_isPathOpen_49)) (
  tab_nil)))))))))))))))))))))))))))))
def tX7_isPathOpen : Tb := tX7_isPathOpen_0
theorem kX7_isPathOpen {X : Ctx} (h : sCx X mX7_isPathOpen) : tab X mX7_isPathOpen tX7_isPathOpen := kX7_isPathOpen_0 h
theorem dX7_trips_0 : decode cX7_trips 0 = .ok (.aload_n 0, 1) := by decide +kernel
theorem dX7_trips_1 : decode cX7_trips 1 = .ok (.getfield 26, 3) := by decide +kernel
theorem dX7_trips_4 : decode cX7_trips 4 = .ok (.iload_n 1, 1) := by decide +kernel
theorem dX7_trips_5 : decode cX7_trips 5 = .ok (.iaload, 1) := by decide +kernel
theorem dX7_trips_6 : decode cX7_trips 6 = .ok (.istore_n 2, 1) := by decide +kernel
theorem dX7_trips_7 : decode cX7_trips 7 = .ok (.aload_n 0, 1) := by decide +kernel
theorem dX7_trips_8 : decode cX7_trips 8 = .ok (.iconst 0, 1) := by decide +kernel
theorem dX7_trips_9 : decode cX7_trips 9 = .ok (.iload_n 2, 1) := by decide +kernel
theorem dX7_trips_10 : decode cX7_trips 10 = .ok (.aload_n 0, 1) := by decide +kernel
theorem dX7_trips_11 : decode cX7_trips 11 = .ok (.getfield 29, 3) := by decide +kernel
theorem dX7_trips_14 : decode cX7_trips 14 = .ok (.iload_n 1, 1) := by decide +kernel
theorem dX7_trips_15 : decode cX7_trips 15 = .ok (.daload, 1) := by decide +kernel
theorem dX7_trips_16 : decode cX7_trips 16 = .ok (.invokevirtual 155, 3) := by decide +kernel
theorem dX7_trips_19 : decode cX7_trips 19 = .ok (.aload_n 0, 1) := by decide +kernel
theorem dX7_trips_20 : decode cX7_trips 20 = .ok (.getfield 7, 3) := by decide +kernel
theorem dX7_trips_23 : decode cX7_trips 23 = .ok (.iload_n 2, 1) := by decide +kernel
theorem dX7_trips_24 : decode cX7_trips 24 = .ok (.bipush 7, 2) := by decide +kernel
theorem dX7_trips_26 : decode cX7_trips 26 = .ok (.invokestatic 71, 3) := by decide +kernel
theorem dX7_trips_29 : decode cX7_trips 29 = .ok (.iaload, 1) := by decide +kernel
theorem dX7_trips_30 : decode cX7_trips 30 = .ok (.iconst 1, 1) := by decide +kernel
theorem dX7_trips_31 : decode cX7_trips 31 = .ok (.if_icmp .ne 17, 3) := by decide +kernel
theorem dX7_trips_34 : decode cX7_trips 34 = .ok (.aload_n 0, 1) := by decide +kernel
theorem dX7_trips_35 : decode cX7_trips 35 = .ok (.iconst 1, 1) := by decide +kernel
theorem dX7_trips_36 : decode cX7_trips 36 = .ok (.iload_n 2, 1) := by decide +kernel
theorem dX7_trips_37 : decode cX7_trips 37 = .ok (.aload_n 0, 1) := by decide +kernel
theorem dX7_trips_38 : decode cX7_trips 38 = .ok (.getfield 29, 3) := by decide +kernel
theorem dX7_trips_41 : decode cX7_trips 41 = .ok (.iload_n 1, 1) := by decide +kernel
theorem dX7_trips_42 : decode cX7_trips 42 = .ok (.daload, 1) := by decide +kernel
theorem dX7_trips_43 : decode cX7_trips 43 = .ok (.invokevirtual 155, 3) := by decide +kernel
theorem dX7_trips_46 : decode cX7_trips 46 = .ok (.iconst 0, 1) := by decide +kernel
theorem dX7_trips_47 : decode cX7_trips 47 = .ok (.ireturn, 1) := by decide +kernel
theorem dX7_trips_48 : decode cX7_trips 48 = .ok (.aload_n 0, 1) := by decide +kernel
theorem dX7_trips_49 : decode cX7_trips 49 = .ok (.getfield 32, 3) := by decide +kernel
theorem dX7_trips_52 : decode cX7_trips 52 = .ok (.aload_n 0, 1) := by decide +kernel
theorem dX7_trips_53 : decode cX7_trips 53 = .ok (.getfield 159, 3) := by decide +kernel
theorem dX7_trips_56 : decode cX7_trips 56 = .ok (.iload_n 2, 1) := by decide +kernel
theorem dX7_trips_57 : decode cX7_trips 57 = .ok (.iastore, 1) := by decide +kernel
theorem dX7_trips_58 : decode cX7_trips 58 = .ok (.aload_n 0, 1) := by decide +kernel
theorem dX7_trips_59 : decode cX7_trips 59 = .ok (.getfield 35, 3) := by decide +kernel
theorem dX7_trips_62 : decode cX7_trips 62 = .ok (.aload_n 0, 1) := by decide +kernel
theorem dX7_trips_63 : decode cX7_trips 63 = .ok (.getfield 159, 3) := by decide +kernel
theorem dX7_trips_66 : decode cX7_trips 66 = .ok (.aload_n 0, 1) := by decide +kernel
theorem dX7_trips_67 : decode cX7_trips 67 = .ok (.getfield 29, 3) := by decide +kernel
theorem dX7_trips_70 : decode cX7_trips 70 = .ok (.iload_n 1, 1) := by decide +kernel
theorem dX7_trips_71 : decode cX7_trips 71 = .ok (.daload, 1) := by decide +kernel
theorem dX7_trips_72 : decode cX7_trips 72 = .ok (.ldc2_w 162, 3) := by decide +kernel
theorem dX7_trips_75 : decode cX7_trips 75 = .ok (.dadd, 1) := by decide +kernel
theorem dX7_trips_76 : decode cX7_trips 76 = .ok (.dastore, 1) := by decide +kernel
theorem dX7_trips_77 : decode cX7_trips 77 = .ok (.aload_n 0, 1) := by decide +kernel
theorem dX7_trips_78 : decode cX7_trips 78 = .ok (.dup, 1) := by decide +kernel
theorem dX7_trips_79 : decode cX7_trips 79 = .ok (.getfield 159, 3) := by decide +kernel
theorem dX7_trips_82 : decode cX7_trips 82 = .ok (.iconst 1, 1) := by decide +kernel
theorem dX7_trips_83 : decode cX7_trips 83 = .ok (.iadd, 1) := by decide +kernel
theorem dX7_trips_84 : decode cX7_trips 84 = .ok (.putfield 159, 3) := by decide +kernel
theorem dX7_trips_87 : decode cX7_trips 87 = .ok (.iconst 1, 1) := by decide +kernel
theorem dX7_trips_88 : decode cX7_trips 88 = .ok (.ireturn, 1) := by decide +kernel
def tX7_trips_0 : Tb := [(0, .inl (f_aload 0, 1)), (1, .inl (f_get 7 8, 4)), (4, .inl (f_iload 1, 5)), (5, .inr (.inr (.inl (0, 6, 0, m0)))), (6, .inl (f_istore 3 2, 7)), (7, .inl (f_aload 0, 8)), (8, .inl (f_ci (0), 9)), (9, .inl (f_iload 2, 10)), (10, .inl (f_aload 0, 11)), (11, .inl (f_get 7 9, 14)), (14, .inl (f_iload 1, 15)), (15, .inr (.inr (.inl (1, 16, 0, m0)))), (16, .inr (.inr (.inl (13, 19, 4, mX7_record)))), (19, .inl (f_aload 0, 20)), (20, .inl (f_get 7 1, 23)), (23, .inl (f_iload 2, 24)), (24, .inl (f_ci (7), 26)), (26, .inr (.inr (.inl (14, 29, 2, mX7_at)))), (29, .inr (.inr (.inl (0, 30, 0, m0)))), (30, .inl (f_ci (1), 31)), (31, .inr (.inl (b_icmp_eq, 34, 48))), (34, .inl (f_aload 0, 35)), (35, .inl (f_ci (1), 36)), (36, .inl (f_iload 2, 37)), (37, .inl (f_aload 0, 38)), (38, .inl (f_get 7 9, 41)), (41, .inl (f_iload 1, 42)), (42, .inr (.inr (.inl (1, 43, 0, m0)))), (43, .inr (.inr (.inl (13, 46, 4, mX7_record)))), (46, .inl (f_ci (0), 47))]
set_option maxRecDepth 10000 in
theorem kX7_trips_0 {X : Ctx} (h : sCx X mX7_trips) : tab X mX7_trips tX7_trips_0 :=
  tab_cons (eS (st_aloadn h rfl dX7_trips_0)) (
  tab_cons (eS (st_get h (ci := 7) (k := 8) rfl giX7 (by decide) rfl gw_390 dX7_trips_1)) (
  tab_cons (eS (st_iloadn h rfl dX7_trips_4)) (
  tab_cons (eO (so_iaload h dX7_trips_5)) (
  tab_cons (eS (st_istoren h rfl dX7_trips_6)) (
  tab_cons (eS (st_aloadn h rfl dX7_trips_7)) (
  tab_cons (eS (st_iconst h (by decide +kernel) dX7_trips_8)) (
  tab_cons (eS (st_iloadn h rfl dX7_trips_9)) (
  tab_cons (eS (st_aloadn h rfl dX7_trips_10)) (
  tab_cons (eS (st_get h (ci := 7) (k := 9) rfl giX7 (by decide) rfl gw_389 dX7_trips_11)) (
  tab_cons (eS (st_iloadn h rfl dX7_trips_14)) (
  tab_cons (eO (so_daload h dX7_trips_15)) (
  tab_cons (eO (so_callV h gw_391 gw_392 gw_393 gw_295 gw_394 ⟨by decide +kernel, by decide +kernel, by decide +kernel, by decide +kernel⟩ ⟨by decide +kernel, by decide +kernel⟩ dX7_trips_16)) (
  tab_cons (eS (st_aloadn h rfl dX7_trips_19)) (
  tab_cons (eS (st_get h (ci := 7) (k := 1) rfl giX7 (by decide) rfl gw_292 dX7_trips_20)) (
  tab_cons (eS (st_iloadn h rfl dX7_trips_23)) (
  tab_cons (eS (st_bipush h (by decide +kernel) dX7_trips_24)) (
  tab_cons (eO (so_callS h gw_312 gw_313 gw_295 gw_314 ⟨by decide +kernel, by decide +kernel, by decide +kernel⟩ ⟨by decide +kernel, by decide +kernel⟩ dX7_trips_26)) (
  tab_cons (eO (so_iaload h dX7_trips_29)) (
  tab_cons (eS (st_iconst h (by decide +kernel) dX7_trips_30)) (
  tab_cons (eB (sb_icmp_ne h dX7_trips_31 (by decide))) (
  tab_cons (eS (st_aloadn h rfl dX7_trips_34)) (
  tab_cons (eS (st_iconst h (by decide +kernel) dX7_trips_35)) (
  tab_cons (eS (st_iloadn h rfl dX7_trips_36)) (
  tab_cons (eS (st_aloadn h rfl dX7_trips_37)) (
  tab_cons (eS (st_get h (ci := 7) (k := 9) rfl giX7 (by decide) rfl gw_389 dX7_trips_38)) (
  tab_cons (eS (st_iloadn h rfl dX7_trips_41)) (
  tab_cons (eO (so_daload h dX7_trips_42)) (
  tab_cons (eO (so_callV h gw_391 gw_392 gw_393 gw_295 gw_394 ⟨by decide +kernel, by decide +kernel, by decide +kernel, by decide +kernel⟩ ⟨by decide +kernel, by decide +kernel⟩ dX7_trips_43)) (
  tab_cons (eS (st_iconst h (by decide +kernel) dX7_trips_46)) (
  tab_nil))))))))))))))))))))))))))))))
def tX7_trips_1 : Tb := [(47, .inr (.inr (.inl (15, 48, 0, m0)))), (48, .inl (f_aload 0, 49)), (49, .inl (f_get 7 11, 52)), (52, .inl (f_aload 0, 53)), (53, .inl (f_get 7 13, 56)), (56, .inl (f_iload 2, 57)), (57, .inr (.inr (.inl (4, 58, 0, m0)))), (58, .inl (f_aload 0, 59)), (59, .inl (f_get 7 12, 62)), (62, .inl (f_aload 0, 63)), (63, .inl (f_get 7 13, 66)), (66, .inl (f_aload 0, 67)), (67, .inl (f_get 7 9, 70)), (70, .inl (f_iload 1, 71)), (71, .inr (.inr (.inl (1, 72, 0, m0)))), (72, .inl (f_cd 4588807732320345784, 75)), (75, .inr (.inr (.inl (7, 76, 0, m0)))), (76, .inr (.inr (.inl (5, 77, 0, m0)))), (77, .inl (f_aload 0, 78)), (78, .inl (f_dup, 79)), (79, .inl (f_get 7 13, 82)), (82, .inl (f_ci (1), 83)), (83, .inl (f_iadd, 84)), (84, .inl (f_putI 7 13, 87)), (87, .inl (f_ci (1), 88)), (88, .inr (.inr (.inl (15, 89, 0, m0))))]
set_option maxRecDepth 10000 in
theorem kX7_trips_1 {X : Ctx} (h : sCx X mX7_trips) : tab X mX7_trips tX7_trips_1 :=
  tab_cons (eO (so_ireturn h dX7_trips_47)) (
  tab_cons (eS (st_aloadn h rfl dX7_trips_48)) (
  tab_cons (eS (st_get h (ci := 7) (k := 11) rfl giX7 (by decide) rfl gw_395 dX7_trips_49)) (
  tab_cons (eS (st_aloadn h rfl dX7_trips_52)) (
  tab_cons (eS (st_get h (ci := 7) (k := 13) rfl giX7 (by decide) rfl gw_396 dX7_trips_53)) (
  tab_cons (eS (st_iloadn h rfl dX7_trips_56)) (
  tab_cons (eO (so_iastore h dX7_trips_57)) (
  tab_cons (eS (st_aloadn h rfl dX7_trips_58)) (
  tab_cons (eS (st_get h (ci := 7) (k := 12) rfl giX7 (by decide) rfl gw_397 dX7_trips_59)) (
  tab_cons (eS (st_aloadn h rfl dX7_trips_62)) (
  tab_cons (eS (st_get h (ci := 7) (k := 13) rfl giX7 (by decide) rfl gw_396 dX7_trips_63)) (
  tab_cons (eS (st_aloadn h rfl dX7_trips_66)) (
  tab_cons (eS (st_get h (ci := 7) (k := 9) rfl giX7 (by decide) rfl gw_389 dX7_trips_67)) (
  tab_cons (eS (st_iloadn h rfl dX7_trips_70)) (
  tab_cons (eO (so_daload h dX7_trips_71)) (
  tab_cons (eS (st_ldc2d h gw_398 dX7_trips_72)) (
  tab_cons (eO (so_dadd h dX7_trips_75)) (
  tab_cons (eO (so_dastore h dX7_trips_76)) (
  tab_cons (eS (st_aloadn h rfl dX7_trips_77)) (
  tab_cons (eS (st_dup h dX7_trips_78)) (
  tab_cons (eS (st_get h (ci := 7) (k := 13) rfl giX7 (by decide) rfl gw_396 dX7_trips_79)) (
  tab_cons (eS (st_iconst h (by decide +kernel) dX7_trips_82)) (
  tab_cons (eS (st_iadd h dX7_trips_83)) (
  tab_cons (eS (st_putI h (ci := 7) (k := 13) tyX7 tyX7_ok nmX7 rfl giX7 (by decide) rfl rfl (by decide +kernel) gw_396 dX7_trips_84)) (
  tab_cons (eS (st_iconst h (by decide +kernel) dX7_trips_87)) (
  tab_cons (eO (so_ireturn h dX7_trips_88)) (
  tab_nil))))))))))))))))))))))))))
def tX7_trips : Tb := tX7_trips_0 ++ (tX7_trips_1)
theorem kX7_trips {X : Ctx} (h : sCx X mX7_trips) : tab X mX7_trips tX7_trips := tab_app (kX7_trips_0 h) (kX7_trips_1 h)
theorem dX7_round_0 : decode cX7_round 0 = .ok (.aload_n 0, 1) := by decide +kernel
theorem dX7_round_1 : decode cX7_round 1 = .ok (.invokevirtual 164, 3) := by decide +kernel
theorem dX7_round_4 : decode cX7_round 4 = .ok (.ifCond .ne 10, 3) := by decide +kernel
theorem dX7_round_7 : decode cX7_round 7 = .ok (.dload_n 1, 1) := by decide +kernel
theorem dX7_round_8 : decode cX7_round 8 = .ok (.dload 5, 2) := by decide +kernel
theorem dX7_round_10 : decode cX7_round 10 = .ok (.dcmp .l, 1) := by decide +kernel
theorem dX7_round_11 : decode cX7_round 11 = .ok (.ifCond .lt 7, 3) := by decide +kernel
theorem dX7_round_14 : decode cX7_round 14 = .ok (.ldc2_w 168, 3) := by decide +kernel
theorem dX7_round_17 : decode cX7_round 17 = .ok (.dreturn, 1) := by decide +kernel
theorem dX7_round_18 : decode cX7_round 18 = .ok (.aload_n 0, 1) := by decide +kernel
theorem dX7_round_19 : decode cX7_round 19 = .ok (.dload_n 3, 1) := by decide +kernel
theorem dX7_round_20 : decode cX7_round 20 = .ok (.dload_n 1, 1) := by decide +kernel
theorem dX7_round_21 : decode cX7_round 21 = .ok (.invokevirtual 170, 3) := by decide +kernel
theorem dX7_round_24 : decode cX7_round 24 = .ok (.aload_n 0, 1) := by decide +kernel
theorem dX7_round_25 : decode cX7_round 25 = .ok (.iconst 0, 1) := by decide +kernel
theorem dX7_round_26 : decode cX7_round 26 = .ok (.putfield 159, 3) := by decide +kernel
theorem dX7_round_29 : decode cX7_round 29 = .ok (.iconst 0, 1) := by decide +kernel
theorem dX7_round_30 : decode cX7_round 30 = .ok (.istore 7, 2) := by decide +kernel
theorem dX7_round_32 : decode cX7_round 32 = .ok (.iconst 0, 1) := by decide +kernel
theorem dX7_round_33 : decode cX7_round 33 = .ok (.istore 8, 2) := by decide +kernel
theorem dX7_round_35 : decode cX7_round 35 = .ok (.iload 7, 2) := by decide +kernel
theorem dX7_round_37 : decode cX7_round 37 = .ok (.aload_n 0, 1) := by decide +kernel
theorem dX7_round_38 : decode cX7_round 38 = .ok (.getfield 152, 3) := by decide +kernel
theorem dX7_round_41 : decode cX7_round 41 = .ok (.if_icmp .ge 22, 3) := by decide +kernel
theorem dX7_round_44 : decode cX7_round 44 = .ok (.iload 8, 2) := by decide +kernel
theorem dX7_round_46 : decode cX7_round 46 = .ok (.ifCond .ne 17, 3) := by decide +kernel
theorem dX7_round_49 : decode cX7_round 49 = .ok (.aload_n 0, 1) := by decide +kernel
theorem dX7_round_50 : decode cX7_round 50 = .ok (.iload 7, 2) := by decide +kernel
theorem dX7_round_52 : decode cX7_round 52 = .ok (.invokevirtual 174, 3) := by decide +kernel
theorem dX7_round_55 : decode cX7_round 55 = .ok (.istore 8, 2) := by decide +kernel
theorem dX7_round_57 : decode cX7_round 57 = .ok (.iinc 7 1, 3) := by decide +kernel
theorem dX7_round_60 : decode cX7_round 60 = .ok (.goto (-25), 3) := by decide +kernel
theorem dX7_round_63 : decode cX7_round 63 = .ok (.iload 8, 2) := by decide +kernel
theorem dX7_round_65 : decode cX7_round 65 = .ok (.ifCond .ne 16, 3) := by decide +kernel
theorem dX7_round_68 : decode cX7_round 68 = .ok (.aload_n 0, 1) := by decide +kernel
theorem dX7_round_69 : decode cX7_round 69 = .ok (.getfield 13, 3) := by decide +kernel
theorem dX7_round_72 : decode cX7_round 72 = .ok (.iconst 3, 1) := by decide +kernel
theorem dX7_round_73 : decode cX7_round 73 = .ok (.ldc2_w 113, 3) := by decide +kernel
theorem dX7_round_76 : decode cX7_round 76 = .ok (.dastore, 1) := by decide +kernel
theorem dX7_round_77 : decode cX7_round 77 = .ok (.ldc2_w 168, 3) := by decide +kernel
theorem dX7_round_80 : decode cX7_round 80 = .ok (.dreturn, 1) := by decide +kernel
theorem dX7_round_81 : decode cX7_round 81 = .ok (.aload_n 0, 1) := by decide +kernel
theorem dX7_round_82 : decode cX7_round 82 = .ok (.getfield 35, 3) := by decide +kernel
theorem dX7_round_85 : decode cX7_round 85 = .ok (.iconst 0, 1) := by decide +kernel
theorem dX7_round_86 : decode cX7_round 86 = .ok (.daload, 1) := by decide +kernel
theorem dX7_round_87 : decode cX7_round 87 = .ok (.dstore 9, 2) := by decide +kernel
theorem dX7_round_89 : decode cX7_round 89 = .ok (.iload 7, 2) := by decide +kernel
theorem dX7_round_91 : decode cX7_round 91 = .ok (.aload_n 0, 1) := by decide +kernel
theorem dX7_round_92 : decode cX7_round 92 = .ok (.getfield 152, 3) := by decide +kernel
theorem dX7_round_95 : decode cX7_round 95 = .ok (.if_icmp .ge 30, 3) := by decide +kernel
theorem dX7_round_98 : decode cX7_round 98 = .ok (.aload_n 0, 1) := by decide +kernel
theorem dX7_round_99 : decode cX7_round 99 = .ok (.getfield 29, 3) := by decide +kernel
theorem dX7_round_102 : decode cX7_round 102 = .ok (.iload 7, 2) := by decide +kernel
theorem dX7_round_104 : decode cX7_round 104 = .ok (.daload, 1) := by decide +kernel
theorem dX7_round_105 : decode cX7_round 105 = .ok (.dload 9, 2) := by decide +kernel
theorem dX7_round_107 : decode cX7_round 107 = .ok (.dcmp .g, 1) := by decide +kernel
theorem dX7_round_108 : decode cX7_round 108 = .ok (.ifCond .ge 17, 3) := by decide +kernel
theorem dX7_round_111 : decode cX7_round 111 = .ok (.aload_n 0, 1) := by decide +kernel
theorem dX7_round_112 : decode cX7_round 112 = .ok (.iload 7, 2) := by decide +kernel
theorem dX7_round_114 : decode cX7_round 114 = .ok (.invokevirtual 174, 3) := by decide +kernel
theorem dX7_round_117 : decode cX7_round 117 = .ok (.istore 11, 2) := by decide +kernel
theorem dX7_round_119 : decode cX7_round 119 = .ok (.iinc 7 1, 3) := by decide +kernel
theorem dX7_round_122 : decode cX7_round 122 = .ok (.goto (-33), 3) := by decide +kernel
theorem dX7_round_125 : decode cX7_round 125 = .ok (.iconst 0, 1) := by decide +kernel
theorem dX7_round_126 : decode cX7_round 126 = .ok (.istore 11, 2) := by decide +kernel
theorem dX7_round_128 : decode cX7_round 128 = .ok (.iconst 0, 1) := by decide +kernel
theorem dX7_round_129 : decode cX7_round 129 = .ok (.istore 12, 2) := by decide +kernel
theorem dX7_round_131 : decode cX7_round 131 = .ok (.iload 12, 2) := by decide +kernel
theorem dX7_round_133 : decode cX7_round 133 = .ok (.aload_n 0, 1) := by decide +kernel
theorem dX7_round_134 : decode cX7_round 134 = .ok (.getfield 159, 3) := by decide +kernel
theorem dX7_round_137 : decode cX7_round 137 = .ok (.if_icmp .ge 88, 3) := by decide +kernel
theorem dX7_round_140 : decode cX7_round 140 = .ok (.aload_n 0, 1) := by decide +kernel
theorem dX7_round_141 : decode cX7_round 141 = .ok (.iconst 2, 1) := by decide +kernel
theorem dX7_round_142 : decode cX7_round 142 = .ok (.aload_n 0, 1) := by decide +kernel
theorem dX7_round_143 : decode cX7_round 143 = .ok (.getfield 32, 3) := by decide +kernel
theorem dX7_round_146 : decode cX7_round 146 = .ok (.iload 12, 2) := by decide +kernel
theorem dX7_round_148 : decode cX7_round 148 = .ok (.iaload, 1) := by decide +kernel
theorem dX7_round_149 : decode cX7_round 149 = .ok (.aload_n 0, 1) := by decide +kernel
theorem dX7_round_150 : decode cX7_round 150 = .ok (.getfield 35, 3) := by decide +kernel
theorem dX7_round_153 : decode cX7_round 153 = .ok (.iload 12, 2) := by decide +kernel
theorem dX7_round_155 : decode cX7_round 155 = .ok (.daload, 1) := by decide +kernel
theorem dX7_round_156 : decode cX7_round 156 = .ok (.invokevirtual 155, 3) := by decide +kernel
theorem dX7_round_159 : decode cX7_round 159 = .ok (.aload_n 0, 1) := by decide +kernel
theorem dX7_round_160 : decode cX7_round 160 = .ok (.getfield 7, 3) := by decide +kernel
theorem dX7_round_163 : decode cX7_round 163 = .ok (.aload_n 0, 1) := by decide +kernel
theorem dX7_round_164 : decode cX7_round 164 = .ok (.getfield 32, 3) := by decide +kernel
theorem dX7_round_167 : decode cX7_round 167 = .ok (.iload 12, 2) := by decide +kernel
theorem dX7_round_169 : decode cX7_round 169 = .ok (.iaload, 1) := by decide +kernel
theorem dX7_round_170 : decode cX7_round 170 = .ok (.bipush 8, 2) := by decide +kernel
theorem dX7_round_172 : decode cX7_round 172 = .ok (.invokestatic 71, 3) := by decide +kernel
theorem dX7_round_175 : decode cX7_round 175 = .ok (.iconst 1, 1) := by decide +kernel
theorem dX7_round_176 : decode cX7_round 176 = .ok (.iastore, 1) := by decide +kernel
theorem dX7_round_177 : decode cX7_round 177 = .ok (.aload_n 0, 1) := by decide +kernel
theorem dX7_round_178 : decode cX7_round 178 = .ok (.getfield 38, 3) := by decide +kernel
theorem dX7_round_181 : decode cX7_round 181 = .ok (.aload_n 0, 1) := by decide +kernel
theorem dX7_round_182 : decode cX7_round 182 = .ok (.getfield 32, 3) := by decide +kernel
theorem dX7_round_185 : decode cX7_round 185 = .ok (.iload 12, 2) := by decide +kernel
theorem dX7_round_187 : decode cX7_round 187 = .ok (.iaload, 1) := by decide +kernel
theorem dX7_round_188 : decode cX7_round 188 = .ok (.dup2, 1) := by decide +kernel
theorem dX7_round_189 : decode cX7_round 189 = .ok (.iaload, 1) := by decide +kernel
theorem dX7_round_190 : decode cX7_round 190 = .ok (.iconst 1, 1) := by decide +kernel
theorem dX7_round_191 : decode cX7_round 191 = .ok (.iadd, 1) := by decide +kernel
theorem dX7_round_192 : decode cX7_round 192 = .ok (.iastore, 1) := by decide +kernel
theorem dX7_round_193 : decode cX7_round 193 = .ok (.aload_n 0, 1) := by decide +kernel
theorem dX7_round_194 : decode cX7_round 194 = .ok (.getfield 32, 3) := by decide +kernel
theorem dX7_round_197 : decode cX7_round 197 = .ok (.iload 12, 2) := by decide +kernel
theorem dX7_round_199 : decode cX7_round 199 = .ok (.iaload, 1) := by decide +kernel
theorem dX7_round_200 : decode cX7_round 200 = .ok (.aload_n 0, 1) := by decide +kernel
theorem dX7_round_201 : decode cX7_round 201 = .ok (.getfield 32, 3) := by decide +kernel
theorem dX7_round_204 : decode cX7_round 204 = .ok (.iload 11, 2) := by decide +kernel
theorem dX7_round_206 : decode cX7_round 206 = .ok (.iaload, 1) := by decide +kernel
theorem dX7_round_207 : decode cX7_round 207 = .ok (.if_icmp .le 8, 3) := by decide +kernel
theorem dX7_round_210 : decode cX7_round 210 = .ok (.iload 12, 2) := by decide +kernel
theorem dX7_round_212 : decode cX7_round 212 = .ok (.goto 5, 3) := by decide +kernel
theorem dX7_round_215 : decode cX7_round 215 = .ok (.iload 11, 2) := by decide +kernel
theorem dX7_round_217 : decode cX7_round 217 = .ok (.istore 11, 2) := by decide +kernel
theorem dX7_round_219 : decode cX7_round 219 = .ok (.iinc 12 1, 3) := by decide +kernel
theorem dX7_round_222 : decode cX7_round 222 = .ok (.goto (-91), 3) := by decide +kernel
theorem dX7_round_225 : decode cX7_round 225 = .ok (.aload_n 0, 1) := by decide +kernel
theorem dX7_round_226 : decode cX7_round 226 = .ok (.getfield 13, 3) := by decide +kernel
theorem dX7_round_229 : decode cX7_round 229 = .ok (.iconst 3, 1) := by decide +kernel
theorem dX7_round_230 : decode cX7_round 230 = .ok (.dload 9, 2) := by decide +kernel
theorem dX7_round_232 : decode cX7_round 232 = .ok (.dastore, 1) := by decide +kernel
theorem dX7_round_233 : decode cX7_round 233 = .ok (.aload_n 0, 1) := by decide +kernel
theorem dX7_round_234 : decode cX7_round 234 = .ok (.getfield 32, 3) := by decide +kernel
theorem dX7_round_237 : decode cX7_round 237 = .ok (.iload 11, 2) := by decide +kernel
theorem dX7_round_239 : decode cX7_round 239 = .ok (.iaload, 1) := by decide +kernel
theorem dX7_round_240 : decode cX7_round 240 = .ok (.istore 12, 2) := by decide +kernel
theorem dX7_round_242 : decode cX7_round 242 = .ok (.aload_n 0, 1) := by decide +kernel
theorem dX7_round_243 : decode cX7_round 243 = .ok (.getfield 38, 3) := by decide +kernel
theorem dX7_round_246 : decode cX7_round 246 = .ok (.iload 12, 2) := by decide +kernel
theorem dX7_round_248 : decode cX7_round 248 = .ok (.iaload, 1) := by decide +kernel
theorem dX7_round_249 : decode cX7_round 249 = .ok (.aload_n 0, 1) := by decide +kernel
theorem dX7_round_250 : decode cX7_round 250 = .ok (.getfield 7, 3) := by decide +kernel
theorem dX7_round_253 : decode cX7_round 253 = .ok (.iload 12, 2) := by decide +kernel
theorem dX7_round_255 : decode cX7_round 255 = .ok (.bipush 6, 2) := by decide +kernel
theorem dX7_round_257 : decode cX7_round 257 = .ok (.invokestatic 71, 3) := by decide +kernel
theorem dX7_round_260 : decode cX7_round 260 = .ok (.iaload, 1) := by decide +kernel
theorem dX7_round_261 : decode cX7_round 261 = .ok (.if_icmp .le 7, 3) := by decide +kernel
theorem dX7_round_264 : decode cX7_round 264 = .ok (.ldc2_w 168, 3) := by decide +kernel
theorem dX7_round_267 : decode cX7_round 267 = .ok (.dreturn, 1) := by decide +kernel
theorem dX7_round_268 : decode cX7_round 268 = .ok (.aload_n 0, 1) := by decide +kernel
theorem dX7_round_269 : decode cX7_round 269 = .ok (.getfield 35, 3) := by decide +kernel
theorem dX7_round_272 : decode cX7_round 272 = .ok (.iload 11, 2) := by decide +kernel
theorem dX7_round_274 : decode cX7_round 274 = .ok (.daload, 1) := by decide +kernel
theorem dX7_round_275 : decode cX7_round 275 = .ok (.ldc2_w 176, 3) := by decide +kernel
theorem dX7_round_278 : decode cX7_round 278 = .ok (.dadd, 1) := by decide +kernel
theorem dX7_round_279 : decode cX7_round 279 = .ok (.dstore 13, 2) := by decide +kernel
theorem dX7_round_281 : decode cX7_round 281 = .ok (.aload_n 0, 1) := by decide +kernel
theorem dX7_round_282 : decode cX7_round 282 = .ok (.iconst 3, 1) := by decide +kernel
theorem dX7_round_283 : decode cX7_round 283 = .ok (.iload 12, 2) := by decide +kernel
theorem dX7_round_285 : decode cX7_round 285 = .ok (.dload 13, 2) := by decide +kernel
theorem dX7_round_287 : decode cX7_round 287 = .ok (.invokevirtual 155, 3) := by decide +kernel
theorem dX7_round_290 : decode cX7_round 290 = .ok (.aload_n 0, 1) := by decide +kernel
theorem dX7_round_291 : decode cX7_round 291 = .ok (.getfield 7, 3) := by decide +kernel
theorem dX7_round_294 : decode cX7_round 294 = .ok (.iload 12, 2) := by decide +kernel
theorem dX7_round_296 : decode cX7_round 296 = .ok (.bipush 8, 2) := by decide +kernel
theorem dX7_round_298 : decode cX7_round 298 = .ok (.invokestatic 71, 3) := by decide +kernel
theorem dX7_round_301 : decode cX7_round 301 = .ok (.iconst 0, 1) := by decide +kernel
theorem dX7_round_302 : decode cX7_round 302 = .ok (.iastore, 1) := by decide +kernel
theorem dX7_round_303 : decode cX7_round 303 = .ok (.dload 13, 2) := by decide +kernel
theorem dX7_round_305 : decode cX7_round 305 = .ok (.dreturn, 1) := by decide +kernel
def tX7_round_0 : Tb := [(0, .inl (f_aload 0, 1)), (1, .inr (.inr (.inl (13, 4, 1, mX7_isPathOpen)))), (4, .inr (.inl (b_if_eq, 7, 14))), (7, .inl (f_dload 1, 8)), (8, .inl (f_dload 5, 10)), (10, .inl (f_dcmpl, 11)), (11, .inr (.inl (b_if_lt, 18, 14))), (14, .inl (f_cd 13830554455654793216, 17)), (17, .inr (.inr (.inl (16, 18, 0, m0)))), (18, .inl (f_aload 0, 19)), (19, .inl (f_dload 3, 20)), (20, .inl (f_dload 1, 21)), (21, .inr (.inr (.inl (13, 24, 3, mX7_lineUp)))), (24, .inl (f_aload 0, 25)), (25, .inl (f_ci (0), 26)), (26, .inl (f_putI 7 13, 29)), (29, .inl (f_ci (0), 30)), (30, .inl (f_istore 15 7, 32)), (32, .inl (f_ci (0), 33)), (33, .inl (f_istore 15 8, 35)), (35, .inl (f_iload 7, 37)), (37, .inl (f_aload 0, 38)), (38, .inl (f_get 7 10, 41)), (41, .inr (.inl (b_icmp_ge, 63, 44))), (44, .inl (f_iload 8, 46)), (46, .inr (.inl (b_if_eq, 49, 63))), (49, .inl (f_aload 0, 50)), (50, .inl (f_iload 7, 52)), (52, .inr (.inr (.inl (13, 55, 2, mX7_trips)))), (55, .inl (f_istore 15 8, 57))]
set_option maxRecDepth 10000 in
theorem kX7_round_0 {X : Ctx} (h : sCx X mX7_round) : tab X mX7_round tX7_round_0 :=
  tab_cons (eS (st_aloadn h rfl dX7_round_0)) (
  tab_cons (eO (so_callV h gw_399 gw_400 gw_401 gw_295 gw_402 ⟨by decide +kernel, by decide +kernel, by decide +kernel, by decide +kernel⟩ ⟨by decide +kernel, by decide +kernel⟩ dX7_round_1)) (
  tab_cons (eB (sb_if_ne h dX7_round_4 (by decide))) (
  tab_cons (eS (st_dloadn h rfl dX7_round_7)) (
  tab_cons (eS (st_dload h dX7_round_8)) (
  tab_cons (eS (st_dcmpl h dX7_round_10)) (
  tab_cons (eB (sb_if_lt h dX7_round_11 (by decide))) (
  tab_cons (eS (st_ldc2d h gw_403 dX7_round_14)) (
  tab_cons (eO (so_dreturn h dX7_round_17)) (
  tab_cons (eS (st_aloadn h rfl dX7_round_18)) (
  tab_cons (eS (st_dloadn h rfl dX7_round_19)) (
  tab_cons (eS (st_dloadn h rfl dX7_round_20)) (
  tab_cons (eO (so_callV h gw_404 gw_405 gw_406 gw_295 gw_407 ⟨by decide +kernel, by decide +kernel, by decide +kernel, by decide +kernel⟩ ⟨by decide +kernel, by decide +kernel⟩ dX7_round_21)) (
  tab_cons (eS (st_aloadn h rfl dX7_round_24)) (
  tab_cons (eS (st_iconst h (by decide +kernel) dX7_round_25)) (
  tab_cons (eS (st_putI h (ci := 7) (k := 13) tyX7 tyX7_ok nmX7 rfl giX7 (by decide) rfl rfl (by decide +kernel) gw_396 dX7_round_26)) (
  tab_cons (eS (st_iconst h (by decide +kernel) dX7_round_29)) (
  tab_cons (eS (st_istore h dX7_round_30)) (
  tab_cons (eS (st_iconst h (by decide +kernel) dX7_round_32)) (
  tab_cons (eS (st_istore h dX7_round_33)) (
  tab_cons (eS (st_iload h dX7_round_35)) (
  tab_cons (eS (st_aloadn h rfl dX7_round_37)) (
  tab_cons (eS (st_get h (ci := 7) (k := 10) rfl giX7 (by decide) rfl gw_388 dX7_round_38)) (
  tab_cons (eB (sb_icmp_ge h dX7_round_41 (by decide))) (
  tab_cons (eS (st_iload h dX7_round_44)) (
  tab_cons (eB (sb_if_ne h dX7_round_46 (by decide))) (
  tab_cons (eS (st_aloadn h rfl dX7_round_49)) (
  tab_cons (eS (st_iload h dX7_round_50)) (
  tab_cons (eO (so_callV h gw_408 gw_409 gw_410 gw_295 gw_411 ⟨by decide +kernel, by decide +kernel, by decide +kernel, by decide +kernel⟩ ⟨by decide +kernel, by decide +kernel⟩ dX7_round_52)) (
  tab_cons (eS (st_istore h dX7_round_55)) (
  tab_nil))))))))))))))))))))))))))))))
def tX7_round_1 : Tb := [(57, .inl (f_iinc 15 7 (1), 60)), (60, .inl (f_id, 35)), (63, .inl (f_iload 8, 65)), (65, .inr (.inl (b_if_eq, 68, 81))), (68, .inl (f_aload 0, 69)), (69, .inl (f_get 7 2, 72)), (72, .inl (f_ci (3), 73)), (73, .inl (f_cd 9218868437227405312, 76)), (76, .inr (.inr (.inl (5, 77, 0, m0)))), (77, .inl (f_cd 13830554455654793216, 80)), (80, .inr (.inr (.inl (16, 81, 0, m0)))), (81, .inl (f_aload 0, 82)), (82, .inl (f_get 7 12, 85)), (85, .inl (f_ci (0), 86)), (86, .inr (.inr (.inl (1, 87, 0, m0)))), (87, .inl (f_dstore 15 9, 89)), (89, .inl (f_iload 7, 91)), (91, .inl (f_aload 0, 92)), (92, .inl (f_get 7 10, 95)), (95, .inr (.inl (b_icmp_ge, 125, 98))), (98, .inl (f_aload 0, 99)), (99, .inl (f_get 7 9, 102)), (102, .inl (f_iload 7, 104)), (104, .inr (.inr (.inl (1, 105, 0, m0)))), (105, .inl (f_dload 9, 107)), (107, .inl (f_dcmpg, 108)), (108, .inr (.inl (b_if_ge, 125, 111))), (111, .inl (f_aload 0, 112)), (112, .inl (f_iload 7, 114)), (114, .inr (.inr (.inl (13, 117, 2, mX7_trips))))]
set_option maxRecDepth 10000 in
theorem kX7_round_1 {X : Ctx} (h : sCx X mX7_round) : tab X mX7_round tX7_round_1 :=
  tab_cons (eS (st_iinc h (by decide +kernel) dX7_round_57)) (
  tab_cons (eS (st_goto h dX7_round_60 (by decide))) (
  tab_cons (eS (st_iload h dX7_round_63)) (
  tab_cons (eB (sb_if_ne h dX7_round_65 (by decide))) (
  tab_cons (eS (st_aloadn h rfl dX7_round_68)) (
  tab_cons (eS (st_get h (ci := 7) (k := 2) rfl giX7 (by decide) rfl gw_300 dX7_round_69)) (
  tab_cons (eS (st_iconst h (by decide +kernel) dX7_round_72)) (
  tab_cons (eS (st_ldc2d h gw_355 dX7_round_73)) (
  tab_cons (eO (so_dastore h dX7_round_76)) (
  tab_cons (eS (st_ldc2d h gw_403 dX7_round_77)) (
  tab_cons (eO (so_dreturn h dX7_round_80)) (
  tab_cons (eS (st_aloadn h rfl dX7_round_81)) (
  tab_cons (eS (st_get h (ci := 7) (k := 12) rfl giX7 (by decide) rfl gw_397 dX7_round_82)) (
  tab_cons (eS (st_iconst h (by decide +kernel) dX7_round_85)) (
  tab_cons (eO (so_daload h dX7_round_86)) (
  tab_cons (eS (st_dstore h dX7_round_87)) (
  tab_cons (eS (st_iload h dX7_round_89)) (
  tab_cons (eS (st_aloadn h rfl dX7_round_91)) (
  tab_cons (eS (st_get h (ci := 7) (k := 10) rfl giX7 (by decide) rfl gw_388 dX7_round_92)) (
  tab_cons (eB (sb_icmp_ge h dX7_round_95 (by decide))) (
  tab_cons (eS (st_aloadn h rfl dX7_round_98)) (
  tab_cons (eS (st_get h (ci := 7) (k := 9) rfl giX7 (by decide) rfl gw_389 dX7_round_99)) (
  tab_cons (eS (st_iload h dX7_round_102)) (
  tab_cons (eO (so_daload h dX7_round_104)) (
  tab_cons (eS (st_dload h dX7_round_105)) (
  tab_cons (eS (st_dcmpg h dX7_round_107)) (
  tab_cons (eB (sb_if_ge h dX7_round_108 (by decide))) (
  tab_cons (eS (st_aloadn h rfl dX7_round_111)) (
  tab_cons (eS (st_iload h dX7_round_112)) (
  tab_cons (eO (so_callV h gw_408 gw_409 gw_410 gw_295 gw_411 ⟨by decide +kernel, by decide +kernel, by decide +kernel, by decide +kernel⟩ ⟨by decide +kernel, by decide +kernel⟩ dX7_round_114)) (
  tab_nil))))))))))))))))))))))))))))))
def tX7_round_2 : Tb := [(117, .inl (f_istore 15 11, 119)), (119, .inl (f_iinc 15 7 (1), 122)), (122, .inl (f_id, 89)), (125, .inl (f_ci (0), 126)), (126, .inl (f_istore 15 11, 128)), (128, .inl (f_ci (0), 129)), (129, .inl (f_istore 15 12, 131)), (131, .inl (f_iload 12, 133)), (133, .inl (f_aload 0, 134)), (134, .inl (f_get 7 13, 137)), (137, .inr (.inl (b_icmp_ge, 225, 140))), (140, .inl (f_aload 0, 141)), (141, .inl (f_ci (2), 142)), (142, .inl (f_aload 0, 143)), (143, .inl (f_get 7 11, 146)), (146, .inl (f_iload 12, 148)), (148, .inr (.inr (.inl (0, 149, 0, m0)))), (149, .inl (f_aload 0, 150)), (150, .inl (f_get 7 12, 153)), (153, .inl (f_iload 12, 155)), (155, .inr (.inr (.inl (1, 156, 0, m0)))), (156, .inr (.inr (.inl (13, 159, 4, mX7_record)))), (159, .inl (f_aload 0, 160)), (160, .inl (f_get 7 1, 163)), (163, .inl (f_aload 0, 164)), (164, .inl (f_get 7 11, 167)), (167, .inl (f_iload 12, 169)), (169, .inr (.inr (.inl (0, 170, 0, m0)))), (170, .inl (f_ci (8), 172)), (172, .inr (.inr (.inl (14, 175, 2, mX7_at))))]
set_option maxRecDepth 10000 in
theorem kX7_round_2 {X : Ctx} (h : sCx X mX7_round) : tab X mX7_round tX7_round_2 :=
  tab_cons (eS (st_istore h dX7_round_117)) (
  tab_cons (eS (st_iinc h (by decide +kernel) dX7_round_119)) (
  tab_cons (eS (st_goto h dX7_round_122 (by decide))) (
  tab_cons (eS (st_iconst h (by decide +kernel) dX7_round_125)) (
  tab_cons (eS (st_istore h dX7_round_126)) (
  tab_cons (eS (st_iconst h (by decide +kernel) dX7_round_128)) (
  tab_cons (eS (st_istore h dX7_round_129)) (
  tab_cons (eS (st_iload h dX7_round_131)) (
  tab_cons (eS (st_aloadn h rfl dX7_round_133)) (
  tab_cons (eS (st_get h (ci := 7) (k := 13) rfl giX7 (by decide) rfl gw_396 dX7_round_134)) (
  tab_cons (eB (sb_icmp_ge h dX7_round_137 (by decide))) (
  tab_cons (eS (st_aloadn h rfl dX7_round_140)) (
  tab_cons (eS (st_iconst h (by decide +kernel) dX7_round_141)) (
  tab_cons (eS (st_aloadn h rfl dX7_round_142)) (
  tab_cons (eS (st_get h (ci := 7) (k := 11) rfl giX7 (by decide) rfl gw_395 dX7_round_143)) (
  tab_cons (eS (st_iload h dX7_round_146)) (
  tab_cons (eO (so_iaload h dX7_round_148)) (
  tab_cons (eS (st_aloadn h rfl dX7_round_149)) (
  tab_cons (eS (st_get h (ci := 7) (k := 12) rfl giX7 (by decide) rfl gw_397 dX7_round_150)) (
  tab_cons (eS (st_iload h dX7_round_153)) (
  tab_cons (eO (so_daload h dX7_round_155)) (
  tab_cons (eO (so_callV h gw_391 gw_392 gw_393 gw_295 gw_394 ⟨by decide +kernel, by decide +kernel, by decide +kernel, by decide +kernel⟩ ⟨by decide +kernel, by decide +kernel⟩ dX7_round_156)) (
  tab_cons (eS (st_aloadn h rfl dX7_round_159)) (
  tab_cons (eS (st_get h (ci := 7) (k := 1) rfl giX7 (by decide) rfl gw_292 dX7_round_160)) (
  tab_cons (eS (st_aloadn h rfl dX7_round_163)) (
  tab_cons (eS (st_get h (ci := 7) (k := 11) rfl giX7 (by decide) rfl gw_395 dX7_round_164)) (
  tab_cons (eS (st_iload h dX7_round_167)) (
  tab_cons (eO (so_iaload h dX7_round_169)) (
  tab_cons (eS (st_bipush h (by decide +kernel) dX7_round_170)) (
  tab_cons (eO (so_callS h gw_312 gw_313 gw_295 gw_314 ⟨by decide +kernel, by decide +kernel, by decide +kernel⟩ ⟨by decide +kernel, by decide +kernel⟩ dX7_round_172)) (
  tab_nil))))))))))))))))))))))))))))))
def tX7_round_3 : Tb := [(175, .inl (f_ci (1), 176)), (176, .inr (.inr (.inl (4, 177, 0, m0)))), (177, .inl (f_aload 0, 178)), (178, .inl (f_get 7 14, 181)), (181, .inl (f_aload 0, 182)), (182, .inl (f_get 7 11, 185)), (185, .inl (f_iload 12, 187)), (187, .inr (.inr (.inl (0, 188, 0, m0)))), (188, .inl (f_dup2, 189)), (189, .inr (.inr (.inl (0, 190, 0, m0)))), (190, .inl (f_ci (1), 191)), (191, .inl (f_iadd, 192)), (192, .inr (.inr (.inl (4, 193, 0, m0)))), (193, .inl (f_aload 0, 194)), (194, .inl (f_get 7 11, 197)), (197, .inl (f_iload 12, 199)), (199, .inr (.inr (.inl (0, 200, 0, m0)))), (200, .inl (f_aload 0, 201)), (201, .inl (f_get 7 11, 204)), (204, .inl (f_iload 11, 206)), (206, .inr (.inr (.inl (0, 207, 0, m0)))), (207, .inr (.inl (b_icmp_le, 215, 210))), (210, .inl (f_iload 12, 212)), (212, .inl (f_id, 217)), (215, .inl (f_iload 11, 217)), (217, .inl (f_istore 15 11, 219)), (219, .inl (f_iinc 15 12 (1), 222)), (222, .inl (f_id, 131)), (225, .inl (f_aload 0, 226)), (226, .inl (f_get 7 2, 229))]
set_option maxRecDepth 10000 in
theorem kX7_round_3 {X : Ctx} (h : sCx X mX7_round) : tab X mX7_round tX7_round_3 :=
  tab_cons (eS (st_iconst h (by decide +kernel) dX7_round_175)) (
  tab_cons (eO (so_iastore h dX7_round_176)) (
  tab_cons (eS (st_aloadn h rfl dX7_round_177)) (
  tab_cons (eS (st_get h (ci := 7) (k := 14) rfl giX7 (by decide) rfl gw_412 dX7_round_178)) (
  tab_cons (eS (st_aloadn h rfl dX7_round_181)) (
  tab_cons (eS (st_get h (ci := 7) (k := 11) rfl giX7 (by decide) rfl gw_395 dX7_round_182)) (
  tab_cons (eS (st_iload h dX7_round_185)) (
  tab_cons (eO (so_iaload h dX7_round_187)) (
  tab_cons (eS (st_dup2 h dX7_round_188)) (
  tab_cons (eO (so_iaload h dX7_round_189)) (
  tab_cons (eS (st_iconst h (by decide +kernel) dX7_round_190)) (
  tab_cons (eS (st_iadd h dX7_round_191)) (
  tab_cons (eO (so_iastore h dX7_round_192)) (
  tab_cons (eS (st_aloadn h rfl dX7_round_193)) (
  tab_cons (eS (st_get h (ci := 7) (k := 11) rfl giX7 (by decide) rfl gw_395 dX7_round_194)) (
  tab_cons (eS (st_iload h dX7_round_197)) (
  tab_cons (eO (so_iaload h dX7_round_199)) (
  tab_cons (eS (st_aloadn h rfl dX7_round_200)) (
  tab_cons (eS (st_get h (ci := 7) (k := 11) rfl giX7 (by decide) rfl gw_395 dX7_round_201)) (
  tab_cons (eS (st_iload h dX7_round_204)) (
  tab_cons (eO (so_iaload h dX7_round_206)) (
  tab_cons (eB (sb_icmp_le h dX7_round_207 (by decide))) (
  tab_cons (eS (st_iload h dX7_round_210)) (
  tab_cons (eS (st_goto h dX7_round_212 (by decide))) (
  tab_cons (eS (st_iload h dX7_round_215)) (
  tab_cons (eS (st_istore h dX7_round_217)) (
  tab_cons (eS (st_iinc h (by decide +kernel) dX7_round_219)) (
  tab_cons (eS (st_goto h dX7_round_222 (by decide))) (
  tab_cons (eS (st_aloadn h rfl dX7_round_225)) (
  tab_cons (eS (st_get h (ci := 7) (k := 2) rfl giX7 (by decide) rfl gw_300 dX7_round_226)) (
  tab_nil))))))))))))))))))))))))))))))
def tX7_round_4 : Tb := [(229, .inl (f_ci (3), 230)), (230, .inl (f_dload 9, 232)), (232, .inr (.inr (.inl (5, 233, 0, m0)))), (233, .inl (f_aload 0, 234)), (234, .inl (f_get 7 11, 237)), (237, .inl (f_iload 11, 239)), (239, .inr (.inr (.inl (0, 240, 0, m0)))), (240, .inl (f_istore 15 12, 242)), (242, .inl (f_aload 0, 243)), (243, .inl (f_get 7 14, 246)), (246, .inl (f_iload 12, 248)), (248, .inr (.inr (.inl (0, 249, 0, m0)))), (249, .inl (f_aload 0, 250)), (250, .inl (f_get 7 1, 253)), (253, .inl (f_iload 12, 255)), (255, .inl (f_ci (6), 257)), (257, .inr (.inr (.inl (14, 260, 2, mX7_at)))), (260, .inr (.inr (.inl (0, 261, 0, m0)))), (261, .inr (.inl (b_icmp_le, 268, 264))), (264, .inl (f_cd 13830554455654793216, 267)), (267, .inr (.inr (.inl (16, 268, 0, m0)))), (268, .inl (f_aload 0, 269)), (269, .inl (f_get 7 12, 272)), (272, .inl (f_iload 11, 274)), (274, .inr (.inr (.inl (1, 275, 0, m0)))), (275, .inl (f_cd 4602678819172646912, 278)), (278, .inr (.inr (.inl (7, 279, 0, m0)))), (279, .inl (f_dstore 15 13, 281)), (281, .inl (f_aload 0, 282)), (282, .inl (f_ci (3), 283))]
set_option maxRecDepth 10000 in
theorem kX7_round_4 {X : Ctx} (h : sCx X mX7_round) : tab X mX7_round tX7_round_4 :=
  tab_cons (eS (st_iconst h (by decide +kernel) dX7_round_229)) (
  tab_cons (eS (st_dload h dX7_round_230)) (
  tab_cons (eO (so_dastore h dX7_round_232)) (
  tab_cons (eS (st_aloadn h rfl dX7_round_233)) (
  tab_cons (eS (st_get h (ci := 7) (k := 11) rfl giX7 (by decide) rfl gw_395 dX7_round_234)) (
  tab_cons (eS (st_iload h dX7_round_237)) (
  tab_cons (eO (so_iaload h dX7_round_239)) (
  tab_cons (eS (st_istore h dX7_round_240)) (
  tab_cons (eS (st_aloadn h rfl dX7_round_242)) (
  tab_cons (eS (st_get h (ci := 7) (k := 14) rfl giX7 (by decide) rfl gw_412 dX7_round_243)) (
  tab_cons (eS (st_iload h dX7_round_246)) (
  tab_cons (eO (so_iaload h dX7_round_248)) (
  tab_cons (eS (st_aloadn h rfl dX7_round_249)) (
  tab_cons (eS (st_get h (ci := 7) (k := 1) rfl giX7 (by decide) rfl gw_292 dX7_round_250)) (
  tab_cons (eS (st_iload h dX7_round_253)) (
  tab_cons (eS (st_bipush h (by decide +kernel) dX7_round_255)) (
  tab_cons (eO (so_callS h gw_312 gw_313 gw_295 gw_314 ⟨by decide +kernel, by decide +kernel, by decide +kernel⟩ ⟨by decide +kernel, by decide +kernel⟩ dX7_round_257)) (
  tab_cons (eO (so_iaload h dX7_round_260)) (
  tab_cons (eB (sb_icmp_le h dX7_round_261 (by decide))) (
  tab_cons (eS (st_ldc2d h gw_403 dX7_round_264)) (
  tab_cons (eO (so_dreturn h dX7_round_267)) (
  tab_cons (eS (st_aloadn h rfl dX7_round_268)) (
  tab_cons (eS (st_get h (ci := 7) (k := 12) rfl giX7 (by decide) rfl gw_397 dX7_round_269)) (
  tab_cons (eS (st_iload h dX7_round_272)) (
  tab_cons (eO (so_daload h dX7_round_274)) (
  tab_cons (eS (st_ldc2d h gw_413 dX7_round_275)) (
  tab_cons (eO (so_dadd h dX7_round_278)) (
  tab_cons (eS (st_dstore h dX7_round_279)) (
  tab_cons (eS (st_aloadn h rfl dX7_round_281)) (
  tab_cons (eS (st_iconst h (by decide +kernel) dX7_round_282)) (
  tab_nil))))))))))))))))))))))))))))))
def tX7_round_5 : Tb := [(283, .inl (f_iload 12, 285)), (285, .inl (f_dload 13, 287)), (287, .inr (.inr (.inl (13, 290, 4, mX7_record)))), (290, .inl (f_aload 0, 291)), (291, .inl (f_get 7 1, 294)), (294, .inl (f_iload 12, 296)), (296, .inl (f_ci (8), 298)), (298, .inr (.inr (.inl (14, 301, 2, mX7_at)))), (301, .inl (f_ci (0), 302)), (302, .inr (.inr (.inl (4, 303, 0, m0)))), (303, .inl (f_dload 13, 305)), (305, .inr (.inr (.inl (16, 306, 0, m0))))]
set_option maxRecDepth 10000 in
theorem kX7_round_5 {X : Ctx} (h : sCx X mX7_round) : tab X mX7_round tX7_round_5 :=
  tab_cons (eS (st_iload h dX7_round_283)) (
  tab_cons (eS (st_dload h dX7_round_285)) (
  tab_cons (eO (so_callV h gw_391 gw_392 gw_393 gw_295 gw_394 ⟨by decide +kernel, by decide +kernel, by decide +kernel, by decide +kernel⟩ ⟨by decide +kernel, by decide +kernel⟩ dX7_round_287)) (
  tab_cons (eS (st_aloadn h rfl dX7_round_290)) (
  tab_cons (eS (st_get h (ci := 7) (k := 1) rfl giX7 (by decide) rfl gw_292 dX7_round_291)) (
  tab_cons (eS (st_iload h dX7_round_294)) (
  tab_cons (eS (st_bipush h (by decide +kernel) dX7_round_296)) (
  tab_cons (eO (so_callS h gw_312 gw_313 gw_295 gw_314 ⟨by decide +kernel, by decide +kernel, by decide +kernel⟩ ⟨by decide +kernel, by decide +kernel⟩ dX7_round_298)) (
  tab_cons (eS (st_iconst h (by decide +kernel) dX7_round_301)) (
  tab_cons (eO (so_iastore h dX7_round_302)) (
  tab_cons (eS (st_dload h dX7_round_303)) (
  tab_cons (eO (so_dreturn h dX7_round_305)) (
  tab_nil))))))))))))
def tX7_round : Tb := tX7_round_0 ++ (tX7_round_1 ++ (tX7_round_2 ++ (tX7_round_3 ++ (tX7_round_4 ++ (tX7_round_5)))))
theorem kX7_round {X : Ctx} (h : sCx X mX7_round) : tab X mX7_round tX7_round := tab_app (kX7_round_0 h) (tab_app (kX7_round_1 h) (tab_app (kX7_round_2 h) (tab_app (kX7_round_3 h) (tab_app (kX7_round_4 h) (kX7_round_5 h)))))
theorem dX7_simulate_0 : decode cX7_simulate 0 = .ok (.aload_n 0, 1) := by decide +kernel
theorem dX7_simulate_1 : decode cX7_simulate 1 = .ok (.aload_n 0, 1) := by decide +kernel
theorem dX7_simulate_2 : decode cX7_simulate 2 = .ok (.iload_n 1, 1) := by decide +kernel
theorem dX7_simulate_3 : decode cX7_simulate 3 = .ok (.iload_n 2, 1) := by decide +kernel
theorem dX7_simulate_4 : decode cX7_simulate 4 = .ok (.invokevirtual 100, 3) := by decide +kernel
theorem dX7_simulate_7 : decode cX7_simulate 7 = .ok (.ifCond .eq 20, 3) := by decide +kernel
theorem dX7_simulate_10 : decode cX7_simulate 10 = .ok (.dload_n 3, 1) := by decide +kernel
theorem dX7_simulate_11 : decode cX7_simulate 11 = .ok (.ldc2_w 178, 3) := by decide +kernel
theorem dX7_simulate_14 : decode cX7_simulate 14 = .ok (.ldc2_w 61, 3) := by decide +kernel
theorem dX7_simulate_17 : decode cX7_simulate 17 = .ok (.invokestatic 63, 3) := by decide +kernel
theorem dX7_simulate_20 : decode cX7_simulate 20 = .ok (.ifCond .eq 7, 3) := by decide +kernel
theorem dX7_simulate_23 : decode cX7_simulate 23 = .ok (.iconst 0, 1) := by decide +kernel
theorem dX7_simulate_24 : decode cX7_simulate 24 = .ok (.goto 4, 3) := by decide +kernel
theorem dX7_simulate_27 : decode cX7_simulate 27 = .ok (.iconst 1, 1) := by decide +kernel
theorem dX7_simulate_28 : decode cX7_simulate 28 = .ok (.putfield 45, 3) := by decide +kernel
theorem dX7_simulate_31 : decode cX7_simulate 31 = .ok (.aload_n 0, 1) := by decide +kernel
theorem dX7_simulate_32 : decode cX7_simulate 32 = .ok (.getfield 45, 3) := by decide +kernel
theorem dX7_simulate_35 : decode cX7_simulate 35 = .ok (.ifCond .le 5, 3) := by decide +kernel
theorem dX7_simulate_38 : decode cX7_simulate 38 = .ok (.iconst 0, 1) := by decide +kernel
theorem dX7_simulate_39 : decode cX7_simulate 39 = .ok (.ireturn, 1) := by decide +kernel
theorem dX7_simulate_40 : decode cX7_simulate 40 = .ok (.aload_n 0, 1) := by decide +kernel
theorem dX7_simulate_41 : decode cX7_simulate 41 = .ok (.invokevirtual 56, 3) := by decide +kernel
theorem dX7_simulate_44 : decode cX7_simulate 44 = .ok (.aload_n 0, 1) := by decide +kernel
theorem dX7_simulate_45 : decode cX7_simulate 45 = .ok (.getfield 7, 3) := by decide +kernel
theorem dX7_simulate_48 : decode cX7_simulate 48 = .ok (.iconst 1, 1) := by decide +kernel
theorem dX7_simulate_49 : decode cX7_simulate 49 = .ok (.iconst 0, 1) := by decide +kernel
theorem dX7_simulate_50 : decode cX7_simulate 50 = .ok (.iastore, 1) := by decide +kernel
theorem dX7_simulate_51 : decode cX7_simulate 51 = .ok (.aload_n 0, 1) := by decide +kernel
theorem dX7_simulate_52 : decode cX7_simulate 52 = .ok (.getfield 13, 3) := by decide +kernel
theorem dX7_simulate_55 : decode cX7_simulate 55 = .ok (.iconst 3, 1) := by decide +kernel
theorem dX7_simulate_56 : decode cX7_simulate 56 = .ok (.dconst 0, 1) := by decide +kernel
theorem dX7_simulate_57 : decode cX7_simulate 57 = .ok (.dastore, 1) := by decide +kernel
theorem dX7_simulate_58 : decode cX7_simulate 58 = .ok (.iconst 0, 1) := by decide +kernel
theorem dX7_simulate_59 : decode cX7_simulate 59 = .ok (.istore 5, 2) := by decide +kernel
theorem dX7_simulate_61 : decode cX7_simulate 61 = .ok (.iload 5, 2) := by decide +kernel
theorem dX7_simulate_63 : decode cX7_simulate 63 = .ok (.bipush 12, 2) := by decide +kernel
theorem dX7_simulate_65 : decode cX7_simulate 65 = .ok (.if_icmp .ge 17, 3) := by decide +kernel
theorem dX7_simulate_68 : decode cX7_simulate 68 = .ok (.aload_n 0, 1) := by decide +kernel
theorem dX7_simulate_69 : decode cX7_simulate 69 = .ok (.getfield 38, 3) := by decide +kernel
theorem dX7_simulate_72 : decode cX7_simulate 72 = .ok (.iload 5, 2) := by decide +kernel
theorem dX7_simulate_74 : decode cX7_simulate 74 = .ok (.iconst 0, 1) := by decide +kernel
theorem dX7_simulate_75 : decode cX7_simulate 75 = .ok (.iastore, 1) := by decide +kernel
theorem dX7_simulate_76 : decode cX7_simulate 76 = .ok (.iinc 5 1, 3) := by decide +kernel
theorem dX7_simulate_79 : decode cX7_simulate 79 = .ok (.goto (-18), 3) := by decide +kernel
theorem dX7_simulate_82 : decode cX7_simulate 82 = .ok (.aload_n 0, 1) := by decide +kernel
theorem dX7_simulate_83 : decode cX7_simulate 83 = .ok (.iload_n 1, 1) := by decide +kernel
theorem dX7_simulate_84 : decode cX7_simulate 84 = .ok (.iload_n 2, 1) := by decide +kernel
theorem dX7_simulate_85 : decode cX7_simulate 85 = .ok (.invokevirtual 103, 3) := by decide +kernel
theorem dX7_simulate_88 : decode cX7_simulate 88 = .ok (.dstore 5, 2) := by decide +kernel
theorem dX7_simulate_90 : decode cX7_simulate 90 = .ok (.dconst 0, 1) := by decide +kernel
theorem dX7_simulate_91 : decode cX7_simulate 91 = .ok (.dstore 7, 2) := by decide +kernel
theorem dX7_simulate_93 : decode cX7_simulate 93 = .ok (.dload 7, 2) := by decide +kernel
theorem dX7_simulate_95 : decode cX7_simulate 95 = .ok (.dconst 0, 1) := by decide +kernel
theorem dX7_simulate_96 : decode cX7_simulate 96 = .ok (.dcmp .l, 1) := by decide +kernel
theorem dX7_simulate_97 : decode cX7_simulate 97 = .ok (.ifCond .lt 17, 3) := by decide +kernel
theorem dX7_simulate_100 : decode cX7_simulate 100 = .ok (.aload_n 0, 1) := by decide +kernel
theorem dX7_simulate_101 : decode cX7_simulate 101 = .ok (.dload 7, 2) := by decide +kernel
theorem dX7_simulate_103 : decode cX7_simulate 103 = .ok (.dload 5, 2) := by decide +kernel
theorem dX7_simulate_105 : decode cX7_simulate 105 = .ok (.dload_n 3, 1) := by decide +kernel
theorem dX7_simulate_106 : decode cX7_simulate 106 = .ok (.invokevirtual 180, 3) := by decide +kernel
theorem dX7_simulate_109 : decode cX7_simulate 109 = .ok (.dstore 7, 2) := by decide +kernel
theorem dX7_simulate_111 : decode cX7_simulate 111 = .ok (.goto (-18), 3) := by decide +kernel
theorem dX7_simulate_114 : decode cX7_simulate 114 = .ok (.aload_n 0, 1) := by decide +kernel
theorem dX7_simulate_115 : decode cX7_simulate 115 = .ok (.getfield 7, 3) := by decide +kernel
theorem dX7_simulate_118 : decode cX7_simulate 118 = .ok (.iconst 1, 1) := by decide +kernel
theorem dX7_simulate_119 : decode cX7_simulate 119 = .ok (.iaload, 1) := by decide +kernel
theorem dX7_simulate_120 : decode cX7_simulate 120 = .ok (.ireturn, 1) := by decide +kernel
def tX7_simulate_0 : Tb := [(0, .inl (f_aload 0, 1)), (1, .inl (f_aload 0, 2)), (2, .inl (f_iload 1, 3)), (3, .inl (f_iload 2, 4)), (4, .inr (.inr (.inl (13, 7, 3, mX7_isLocation)))), (7, .inr (.inl (b_if_eq, 27, 10))), (10, .inl (f_dload 3, 11)), (11, .inl (f_cd 4562254508917369340, 14)), (14, .inl (f_cd 4696837146684686336, 17)), (17, .inr (.inr (.inl (14, 20, 3, mX7_inReal)))), (20, .inr (.inl (b_if_eq, 27, 23))), (23, .inl (f_ci (0), 24)), (24, .inl (f_id, 28)), (27, .inl (f_ci (1), 28)), (28, .inl (f_putI 7 0, 31)), (31, .inl (f_aload 0, 32)), (32, .inl (f_get 7 0, 35)), (35, .inr (.inl (b_if_le, 40, 38))), (38, .inl (f_ci (0), 39)), (39, .inr (.inr (.inl (15, 40, 0, m0)))), (40, .inl (f_aload 0, 41)), (41, .inr (.inr (.inl (13, 44, 1, mX7_save)))), (44, .inl (f_aload 0, 45)), (45, .inl (f_get 7 1, 48)), (48, .inl (f_ci (1), 49)), (49, .inl (f_ci (0), 50)), (50, .inr (.inr (.inl (4, 51, 0, m0)))), (51, .inl (f_aload 0, 52)), (52, .inl (f_get 7 2, 55)), (55, .inl (f_ci (3), 56))]
set_option maxRecDepth 10000 in
theorem kX7_simulate_0 {X : Ctx} (h : sCx X mX7_simulate) : tab X mX7_simulate tX7_simulate_0 :=
  tab_cons (eS (st_aloadn h rfl dX7_simulate_0)) (
  tab_cons (eS (st_aloadn h rfl dX7_simulate_1)) (
  tab_cons (eS (st_iloadn h rfl dX7_simulate_2)) (
  tab_cons (eS (st_iloadn h rfl dX7_simulate_3)) (
  tab_cons (eO (so_callV h gw_341 gw_342 gw_343 gw_295 gw_344 ⟨by decide +kernel, by decide +kernel, by decide +kernel, by decide +kernel⟩ ⟨by decide +kernel, by decide +kernel⟩ dX7_simulate_4)) (
  tab_cons (eB (sb_if_eq h dX7_simulate_7 (by decide))) (
  tab_cons (eS (st_dloadn h rfl dX7_simulate_10)) (
  tab_cons (eS (st_ldc2d h gw_414 dX7_simulate_11)) (
  tab_cons (eS (st_ldc2d h gw_306 dX7_simulate_14)) (
  tab_cons (eO (so_callS h gw_307 gw_308 gw_295 gw_309 ⟨by decide +kernel, by decide +kernel, by decide +kernel⟩ ⟨by decide +kernel, by decide +kernel⟩ dX7_simulate_17)) (
  tab_cons (eB (sb_if_eq h dX7_simulate_20 (by decide))) (
  tab_cons (eS (st_iconst h (by decide +kernel) dX7_simulate_23)) (
  tab_cons (eS (st_goto h dX7_simulate_24 (by decide))) (
  tab_cons (eS (st_iconst h (by decide +kernel) dX7_simulate_27)) (
  tab_cons (eS (st_putI h (ci := 7) (k := 0) tyX7 tyX7_ok nmX7 rfl giX7 (by decide) rfl rfl (by decide +kernel) gw_291 dX7_simulate_28)) (
  tab_cons (eS (st_aloadn h rfl dX7_simulate_31)) (
  tab_cons (eS (st_get h (ci := 7) (k := 0) rfl giX7 (by decide) rfl gw_291 dX7_simulate_32)) (
  tab_cons (eB (sb_if_le h dX7_simulate_35 (by decide))) (
  tab_cons (eS (st_iconst h (by decide +kernel) dX7_simulate_38)) (
  tab_cons (eO (so_ireturn h dX7_simulate_39)) (
  tab_cons (eS (st_aloadn h rfl dX7_simulate_40)) (
  tab_cons (eO (so_callV h gw_301 gw_302 gw_303 gw_295 gw_304 ⟨by decide +kernel, by decide +kernel, by decide +kernel, by decide +kernel⟩ ⟨by decide +kernel, by decide +kernel⟩ dX7_simulate_41)) (
  tab_cons (eS (st_aloadn h rfl dX7_simulate_44)) (
  tab_cons (eS (st_get h (ci := 7) (k := 1) rfl giX7 (by decide) rfl gw_292 dX7_simulate_45)) (
  tab_cons (eS (st_iconst h (by decide +kernel) dX7_simulate_48)) (
  tab_cons (eS (st_iconst h (by decide +kernel) dX7_simulate_49)) (
  tab_cons (eO (so_iastore h dX7_simulate_50)) (
  tab_cons (eS (st_aloadn h rfl dX7_simulate_51)) (
  tab_cons (eS (st_get h (ci := 7) (k := 2) rfl giX7 (by decide) rfl gw_300 dX7_simulate_52)) (
  tab_cons (eS (st_iconst h (by decide +kernel) dX7_simulate_55)) (
  tab_nil))))))))))))))))))))))))))))))
def tX7_simulate_1 : Tb := [(56, .inl (f_cd 0, 57)), (57, .inr (.inr (.inl (5, 58, 0, m0)))), (58, .inl (f_ci (0), 59)), (59, .inl (f_istore 9 5, 61)), (61, .inl (f_iload 5, 63)), (63, .inl (f_ci (12), 65)), (65, .inr (.inl (b_icmp_ge, 82, 68))), (68, .inl (f_aload 0, 69)), (69, .inl (f_get 7 14, 72)), (72, .inl (f_iload 5, 74)), (74, .inl (f_ci (0), 75)), (75, .inr (.inr (.inl (4, 76, 0, m0)))), (76, .inl (f_iinc 9 5 (1), 79)), (79, .inl (f_id, 61)), (82, .inl (f_aload 0, 83)), (83, .inl (f_iload 1, 84)), (84, .inl (f_iload 2, 85)), (85, .inr (.inr (.inl (13, 88, 3, mX7_currentAt)))), (88, .inl (f_dstore 9 5, 90)), (90, .inl (f_cd 0, 91)), (91, .inl (f_dstore 9 7, 93)), (93, .inl (f_dload 7, 95)), (95, .inl (f_cd 0, 96)), (96, .inl (f_dcmpl, 97)), (97, .inr (.inl (b_if_lt, 114, 100))), (100, .inl (f_aload 0, 101)), (101, .inl (f_dload 7, 103)), (103, .inl (f_dload 5, 105)), (105, .inl (f_dload 3, 106)), (106, .inr (.inr (.inl (13, 109, 4, mX7_round))))]
set_option maxRecDepth 10000 in
theorem kX7_simulate_1 {X : Ctx} (h : sCx X mX7_simulate) : tab X mX7_simulate tX7_simulate_1 :=
  tab_cons (eS (st_dconst0 h rfl dX7_simulate_56)) (
  tab_cons (eO (so_dastore h dX7_simulate_57)) (
  tab_cons (eS (st_iconst h (by decide +kernel) dX7_simulate_58)) (
  tab_cons (eS (st_istore h dX7_simulate_59)) (
  tab_cons (eS (st_iload h dX7_simulate_61)) (
  tab_cons (eS (st_bipush h (by decide +kernel) dX7_simulate_63)) (
  tab_cons (eB (sb_icmp_ge h dX7_simulate_65 (by decide))) (
  tab_cons (eS (st_aloadn h rfl dX7_simulate_68)) (
  tab_cons (eS (st_get h (ci := 7) (k := 14) rfl giX7 (by decide) rfl gw_412 dX7_simulate_69)) (
  tab_cons (eS (st_iload h dX7_simulate_72)) (
  tab_cons (eS (st_iconst h (by decide +kernel) dX7_simulate_74)) (
  tab_cons (eO (so_iastore h dX7_simulate_75)) (
  tab_cons (eS (st_iinc h (by decide +kernel) dX7_simulate_76)) (
  tab_cons (eS (st_goto h dX7_simulate_79 (by decide))) (
  tab_cons (eS (st_aloadn h rfl dX7_simulate_82)) (
  tab_cons (eS (st_iloadn h rfl dX7_simulate_83)) (
  tab_cons (eS (st_iloadn h rfl dX7_simulate_84)) (
  tab_cons (eO (so_callV h gw_345 gw_346 gw_347 gw_295 gw_348 ⟨by decide +kernel, by decide +kernel, by decide +kernel, by decide +kernel⟩ ⟨by decide +kernel, by decide +kernel⟩ dX7_simulate_85)) (
  tab_cons (eS (st_dstore h dX7_simulate_88)) (
  tab_cons (eS (st_dconst0 h rfl dX7_simulate_90)) (
  tab_cons (eS (st_dstore h dX7_simulate_91)) (
  tab_cons (eS (st_dload h dX7_simulate_93)) (
  tab_cons (eS (st_dconst0 h rfl dX7_simulate_95)) (
  tab_cons (eS (st_dcmpl h dX7_simulate_96)) (
  tab_cons (eB (sb_if_lt h dX7_simulate_97 (by decide))) (
  tab_cons (eS (st_aloadn h rfl dX7_simulate_100)) (
  tab_cons (eS (st_dload h dX7_simulate_101)) (
  tab_cons (eS (st_dload h dX7_simulate_103)) (
  tab_cons (eS (st_dloadn h rfl dX7_simulate_105)) (
  tab_cons (eO (so_callV h gw_415 gw_416 gw_417 gw_295 gw_418 ⟨by decide +kernel, by decide +kernel, by decide +kernel, by decide +kernel⟩ ⟨by decide +kernel, by decide +kernel⟩ dX7_simulate_106)) (
  tab_nil))))))))))))))))))))))))))))))
def tX7_simulate_2 : Tb := [(109, .inl (f_dstore 9 7, 111)), (111, .inl (f_id, 93)), (114, .inl (f_aload 0, 115)), (115, .inl (f_get 7 1, 118)), (118, .inl (f_ci (1), 119)), (119, .inr (.inr (.inl (0, 120, 0, m0)))), (120, .inr (.inr (.inl (15, 121, 0, m0))))]
set_option maxRecDepth 10000 in
theorem kX7_simulate_2 {X : Ctx} (h : sCx X mX7_simulate) : tab X mX7_simulate tX7_simulate_2 :=
  tab_cons (eS (st_dstore h dX7_simulate_109)) (
  tab_cons (eS (st_goto h dX7_simulate_111 (by decide))) (
  tab_cons (eS (st_aloadn h rfl dX7_simulate_114)) (
  tab_cons (eS (st_get h (ci := 7) (k := 1) rfl giX7 (by decide) rfl gw_292 dX7_simulate_115)) (
  tab_cons (eS (st_iconst h (by decide +kernel) dX7_simulate_118)) (
  tab_cons (eO (so_iaload h dX7_simulate_119)) (
  tab_cons (eO (so_ireturn h dX7_simulate_120)) (
  tab_nil)))))))
def tX7_simulate : Tb := tX7_simulate_0 ++ (tX7_simulate_1 ++ (tX7_simulate_2))
theorem kX7_simulate {X : Ctx} (h : sCx X mX7_simulate) : tab X mX7_simulate tX7_simulate := tab_app (kX7_simulate_0 h) (tab_app (kX7_simulate_1 h) (kX7_simulate_2 h))
theorem dX7_eventCount_0 : decode cX7_eventCount 0 = .ok (.aload_n 0, 1) := by decide +kernel
theorem dX7_eventCount_1 : decode cX7_eventCount 1 = .ok (.iconst 0, 1) := by decide +kernel
theorem dX7_eventCount_2 : decode cX7_eventCount 2 = .ok (.putfield 45, 3) := by decide +kernel
theorem dX7_eventCount_5 : decode cX7_eventCount 5 = .ok (.aload_n 0, 1) := by decide +kernel
theorem dX7_eventCount_6 : decode cX7_eventCount 6 = .ok (.getfield 7, 3) := by decide +kernel
theorem dX7_eventCount_9 : decode cX7_eventCount 9 = .ok (.iconst 1, 1) := by decide +kernel
theorem dX7_eventCount_10 : decode cX7_eventCount 10 = .ok (.iaload, 1) := by decide +kernel
theorem dX7_eventCount_11 : decode cX7_eventCount 11 = .ok (.ireturn, 1) := by decide +kernel
def tX7_eventCount_0 : Tb := [(0, .inl (f_aload 0, 1)), (1, .inl (f_ci (0), 2)), (2, .inl (f_putI 7 0, 5)), (5, .inl (f_aload 0, 6)), (6, .inl (f_get 7 1, 9)), (9, .inl (f_ci (1), 10)), (10, .inr (.inr (.inl (0, 11, 0, m0)))), (11, .inr (.inr (.inl (15, 12, 0, m0))))]
set_option maxRecDepth 10000 in
theorem kX7_eventCount_0 {X : Ctx} (h : sCx X mX7_eventCount) : tab X mX7_eventCount tX7_eventCount_0 :=
  tab_cons (eS (st_aloadn h rfl dX7_eventCount_0)) (
  tab_cons (eS (st_iconst h (by decide +kernel) dX7_eventCount_1)) (
  tab_cons (eS (st_putI h (ci := 7) (k := 0) tyX7 tyX7_ok nmX7 rfl giX7 (by decide) rfl rfl (by decide +kernel) gw_291 dX7_eventCount_2)) (
  tab_cons (eS (st_aloadn h rfl dX7_eventCount_5)) (
  tab_cons (eS (st_get h (ci := 7) (k := 1) rfl giX7 (by decide) rfl gw_292 dX7_eventCount_6)) (
  tab_cons (eS (st_iconst h (by decide +kernel) dX7_eventCount_9)) (
  tab_cons (eO (so_iaload h dX7_eventCount_10)) (
  tab_cons (eO (so_ireturn h dX7_eventCount_11)) (
  tab_nil))))))))
def tX7_eventCount : Tb := tX7_eventCount_0
theorem kX7_eventCount {X : Ctx} (h : sCx X mX7_eventCount) : tab X mX7_eventCount tX7_eventCount := kX7_eventCount_0 h
theorem dX7_event_0 : decode cX7_event 0 = .ok (.aload_n 0, 1) := by decide +kernel
theorem dX7_event_1 : decode cX7_event 1 = .ok (.iload_n 1, 1) := by decide +kernel
theorem dX7_event_2 : decode cX7_event 2 = .ok (.iconst 0, 1) := by decide +kernel
theorem dX7_event_3 : decode cX7_event 3 = .ok (.aload_n 0, 1) := by decide +kernel
theorem dX7_event_4 : decode cX7_event 4 = .ok (.getfield 7, 3) := by decide +kernel
theorem dX7_event_7 : decode cX7_event 7 = .ok (.iconst 1, 1) := by decide +kernel
theorem dX7_event_8 : decode cX7_event 8 = .ok (.iaload, 1) := by decide +kernel
theorem dX7_event_9 : decode cX7_event 9 = .ok (.iconst 1, 1) := by decide +kernel
theorem dX7_event_10 : decode cX7_event 10 = .ok (.isub, 1) := by decide +kernel
theorem dX7_event_11 : decode cX7_event 11 = .ok (.invokestatic 49, 3) := by decide +kernel
theorem dX7_event_14 : decode cX7_event 14 = .ok (.ifCond .eq 7, 3) := by decide +kernel
theorem dX7_event_17 : decode cX7_event 17 = .ok (.iconst 0, 1) := by decide +kernel
theorem dX7_event_18 : decode cX7_event 18 = .ok (.goto 4, 3) := by decide +kernel
theorem dX7_event_21 : decode cX7_event 21 = .ok (.iconst 1, 1) := by decide +kernel
theorem dX7_event_22 : decode cX7_event 22 = .ok (.putfield 45, 3) := by decide +kernel
theorem dX7_event_25 : decode cX7_event 25 = .ok (.aload_n 0, 1) := by decide +kernel
theorem dX7_event_26 : decode cX7_event 26 = .ok (.getfield 45, 3) := by decide +kernel
theorem dX7_event_29 : decode cX7_event 29 = .ok (.ifCond .le 7, 3) := by decide +kernel
theorem dX7_event_32 : decode cX7_event 32 = .ok (.iconst 0, 1) := by decide +kernel
theorem dX7_event_33 : decode cX7_event 33 = .ok (.goto 12, 3) := by decide +kernel
theorem dX7_event_36 : decode cX7_event 36 = .ok (.aload_n 0, 1) := by decide +kernel
theorem dX7_event_37 : decode cX7_event 37 = .ok (.getfield 7, 3) := by decide +kernel
theorem dX7_event_40 : decode cX7_event 40 = .ok (.bipush 110, 2) := by decide +kernel
theorem dX7_event_42 : decode cX7_event 42 = .ok (.iload_n 1, 1) := by decide +kernel
theorem dX7_event_43 : decode cX7_event 43 = .ok (.iadd, 1) := by decide +kernel
theorem dX7_event_44 : decode cX7_event 44 = .ok (.iaload, 1) := by decide +kernel
theorem dX7_event_45 : decode cX7_event 45 = .ok (.ireturn, 1) := by decide +kernel
def tX7_event_0 : Tb := [(0, .inl (f_aload 0, 1)), (1, .inl (f_iload 1, 2)), (2, .inl (f_ci (0), 3)), (3, .inl (f_aload 0, 4)), (4, .inl (f_get 7 1, 7)), (7, .inl (f_ci (1), 8)), (8, .inr (.inr (.inl (0, 9, 0, m0)))), (9, .inl (f_ci (1), 10)), (10, .inl (f_isub, 11)), (11, .inr (.inr (.inl (14, 14, 3, mX7_in)))), (14, .inr (.inl (b_if_eq, 21, 17))), (17, .inl (f_ci (0), 18)), (18, .inl (f_id, 22)), (21, .inl (f_ci (1), 22)), (22, .inl (f_putI 7 0, 25)), (25, .inl (f_aload 0, 26)), (26, .inl (f_get 7 0, 29)), (29, .inr (.inl (b_if_le, 36, 32))), (32, .inl (f_ci (0), 33)), (33, .inl (f_id, 45)), (36, .inl (f_aload 0, 37)), (37, .inl (f_get 7 1, 40)), (40, .inl (f_ci (110), 42)), (42, .inl (f_iload 1, 43)), (43, .inl (f_iadd, 44)), (44, .inr (.inr (.inl (0, 45, 0, m0)))), (45, .inr (.inr (.inl (15, 46, 0, m0))))]
set_option maxRecDepth 10000 in
theorem kX7_event_0 {X : Ctx} (h : sCx X mX7_event) : tab X mX7_event tX7_event_0 :=
  tab_cons (eS (st_aloadn h rfl dX7_event_0)) (
  tab_cons (eS (st_iloadn h rfl dX7_event_1)) (
  tab_cons (eS (st_iconst h (by decide +kernel) dX7_event_2)) (
  tab_cons (eS (st_aloadn h rfl dX7_event_3)) (
  tab_cons (eS (st_get h (ci := 7) (k := 1) rfl giX7 (by decide) rfl gw_292 dX7_event_4)) (
  tab_cons (eS (st_iconst h (by decide +kernel) dX7_event_7)) (
  tab_cons (eO (so_iaload h dX7_event_8)) (
  tab_cons (eS (st_iconst h (by decide +kernel) dX7_event_9)) (
  tab_cons (eS (st_isub h dX7_event_10)) (
  tab_cons (eO (so_callS h gw_293 gw_294 gw_295 gw_296 ⟨by decide +kernel, by decide +kernel, by decide +kernel⟩ ⟨by decide +kernel, by decide +kernel⟩ dX7_event_11)) (
  tab_cons (eB (sb_if_eq h dX7_event_14 (by decide))) (
  tab_cons (eS (st_iconst h (by decide +kernel) dX7_event_17)) (
  tab_cons (eS (st_goto h dX7_event_18 (by decide))) (
  tab_cons (eS (st_iconst h (by decide +kernel) dX7_event_21)) (
  tab_cons (eS (st_putI h (ci := 7) (k := 0) tyX7 tyX7_ok nmX7 rfl giX7 (by decide) rfl rfl (by decide +kernel) gw_291 dX7_event_22)) (
  tab_cons (eS (st_aloadn h rfl dX7_event_25)) (
  tab_cons (eS (st_get h (ci := 7) (k := 0) rfl giX7 (by decide) rfl gw_291 dX7_event_26)) (
  tab_cons (eB (sb_if_le h dX7_event_29 (by decide))) (
  tab_cons (eS (st_iconst h (by decide +kernel) dX7_event_32)) (
  tab_cons (eS (st_goto h dX7_event_33 (by decide))) (
  tab_cons (eS (st_aloadn h rfl dX7_event_36)) (
  tab_cons (eS (st_get h (ci := 7) (k := 1) rfl giX7 (by decide) rfl gw_292 dX7_event_37)) (
  tab_cons (eS (st_bipush h (by decide +kernel) dX7_event_40)) (
  tab_cons (eS (st_iloadn h rfl dX7_event_42)) (
  tab_cons (eS (st_iadd h dX7_event_43)) (
  tab_cons (eO (so_iaload h dX7_event_44)) (
  tab_cons (eO (so_ireturn h dX7_event_45)) (
  tab_nil)))))))))))))))))))))))))))
def tX7_event : Tb := tX7_event_0
theorem kX7_event {X : Ctx} (h : sCx X mX7_event) : tab X mX7_event tX7_event := kX7_event_0 h
theorem dX7_eventTime_0 : decode cX7_eventTime 0 = .ok (.aload_n 0, 1) := by decide +kernel
theorem dX7_eventTime_1 : decode cX7_eventTime 1 = .ok (.iload_n 1, 1) := by decide +kernel
theorem dX7_eventTime_2 : decode cX7_eventTime 2 = .ok (.iconst 0, 1) := by decide +kernel
theorem dX7_eventTime_3 : decode cX7_eventTime 3 = .ok (.aload_n 0, 1) := by decide +kernel
theorem dX7_eventTime_4 : decode cX7_eventTime 4 = .ok (.getfield 7, 3) := by decide +kernel
theorem dX7_eventTime_7 : decode cX7_eventTime 7 = .ok (.iconst 1, 1) := by decide +kernel
theorem dX7_eventTime_8 : decode cX7_eventTime 8 = .ok (.iaload, 1) := by decide +kernel
theorem dX7_eventTime_9 : decode cX7_eventTime 9 = .ok (.iconst 1, 1) := by decide +kernel
theorem dX7_eventTime_10 : decode cX7_eventTime 10 = .ok (.isub, 1) := by decide +kernel
theorem dX7_eventTime_11 : decode cX7_eventTime 11 = .ok (.invokestatic 49, 3) := by decide +kernel
theorem dX7_eventTime_14 : decode cX7_eventTime 14 = .ok (.ifCond .eq 7, 3) := by decide +kernel
theorem dX7_eventTime_17 : decode cX7_eventTime 17 = .ok (.iconst 0, 1) := by decide +kernel
theorem dX7_eventTime_18 : decode cX7_eventTime 18 = .ok (.goto 4, 3) := by decide +kernel
theorem dX7_eventTime_21 : decode cX7_eventTime 21 = .ok (.iconst 1, 1) := by decide +kernel
theorem dX7_eventTime_22 : decode cX7_eventTime 22 = .ok (.putfield 45, 3) := by decide +kernel
theorem dX7_eventTime_25 : decode cX7_eventTime 25 = .ok (.aload_n 0, 1) := by decide +kernel
theorem dX7_eventTime_26 : decode cX7_eventTime 26 = .ok (.getfield 45, 3) := by decide +kernel
theorem dX7_eventTime_29 : decode cX7_eventTime 29 = .ok (.ifCond .le 7, 3) := by decide +kernel
theorem dX7_eventTime_32 : decode cX7_eventTime 32 = .ok (.dconst 0, 1) := by decide +kernel
theorem dX7_eventTime_33 : decode cX7_eventTime 33 = .ok (.goto 12, 3) := by decide +kernel
theorem dX7_eventTime_36 : decode cX7_eventTime 36 = .ok (.aload_n 0, 1) := by decide +kernel
theorem dX7_eventTime_37 : decode cX7_eventTime 37 = .ok (.getfield 13, 3) := by decide +kernel
theorem dX7_eventTime_40 : decode cX7_eventTime 40 = .ok (.bipush 16, 2) := by decide +kernel
theorem dX7_eventTime_42 : decode cX7_eventTime 42 = .ok (.iload_n 1, 1) := by decide +kernel
theorem dX7_eventTime_43 : decode cX7_eventTime 43 = .ok (.iadd, 1) := by decide +kernel
theorem dX7_eventTime_44 : decode cX7_eventTime 44 = .ok (.daload, 1) := by decide +kernel
theorem dX7_eventTime_45 : decode cX7_eventTime 45 = .ok (.dreturn, 1) := by decide +kernel
def tX7_eventTime_0 : Tb := [(0, .inl (f_aload 0, 1)), (1, .inl (f_iload 1, 2)), (2, .inl (f_ci (0), 3)), (3, .inl (f_aload 0, 4)), (4, .inl (f_get 7 1, 7)), (7, .inl (f_ci (1), 8)), (8, .inr (.inr (.inl (0, 9, 0, m0)))), (9, .inl (f_ci (1), 10)), (10, .inl (f_isub, 11)), (11, .inr (.inr (.inl (14, 14, 3, mX7_in)))), (14, .inr (.inl (b_if_eq, 21, 17))), (17, .inl (f_ci (0), 18)), (18, .inl (f_id, 22)), (21, .inl (f_ci (1), 22)), (22, .inl (f_putI 7 0, 25)), (25, .inl (f_aload 0, 26)), (26, .inl (f_get 7 0, 29)), (29, .inr (.inl (b_if_le, 36, 32))), (32, .inl (f_cd 0, 33)), (33, .inl (f_id, 45)), (36, .inl (f_aload 0, 37)), (37, .inl (f_get 7 2, 40)), (40, .inl (f_ci (16), 42)), (42, .inl (f_iload 1, 43)), (43, .inl (f_iadd, 44)), (44, .inr (.inr (.inl (1, 45, 0, m0)))), (45, .inr (.inr (.inl (16, 46, 0, m0))))]
set_option maxRecDepth 10000 in
theorem kX7_eventTime_0 {X : Ctx} (h : sCx X mX7_eventTime) : tab X mX7_eventTime tX7_eventTime_0 :=
  tab_cons (eS (st_aloadn h rfl dX7_eventTime_0)) (
  tab_cons (eS (st_iloadn h rfl dX7_eventTime_1)) (
  tab_cons (eS (st_iconst h (by decide +kernel) dX7_eventTime_2)) (
  tab_cons (eS (st_aloadn h rfl dX7_eventTime_3)) (
  tab_cons (eS (st_get h (ci := 7) (k := 1) rfl giX7 (by decide) rfl gw_292 dX7_eventTime_4)) (
  tab_cons (eS (st_iconst h (by decide +kernel) dX7_eventTime_7)) (
  tab_cons (eO (so_iaload h dX7_eventTime_8)) (
  tab_cons (eS (st_iconst h (by decide +kernel) dX7_eventTime_9)) (
  tab_cons (eS (st_isub h dX7_eventTime_10)) (
  tab_cons (eO (so_callS h gw_293 gw_294 gw_295 gw_296 ⟨by decide +kernel, by decide +kernel, by decide +kernel⟩ ⟨by decide +kernel, by decide +kernel⟩ dX7_eventTime_11)) (
  tab_cons (eB (sb_if_eq h dX7_eventTime_14 (by decide))) (
  tab_cons (eS (st_iconst h (by decide +kernel) dX7_eventTime_17)) (
  tab_cons (eS (st_goto h dX7_eventTime_18 (by decide))) (
  tab_cons (eS (st_iconst h (by decide +kernel) dX7_eventTime_21)) (
  tab_cons (eS (st_putI h (ci := 7) (k := 0) tyX7 tyX7_ok nmX7 rfl giX7 (by decide) rfl rfl (by decide +kernel) gw_291 dX7_eventTime_22)) (
  tab_cons (eS (st_aloadn h rfl dX7_eventTime_25)) (
  tab_cons (eS (st_get h (ci := 7) (k := 0) rfl giX7 (by decide) rfl gw_291 dX7_eventTime_26)) (
  tab_cons (eB (sb_if_le h dX7_eventTime_29 (by decide))) (
  tab_cons (eS (st_dconst0 h rfl dX7_eventTime_32)) (
  tab_cons (eS (st_goto h dX7_eventTime_33 (by decide))) (
  tab_cons (eS (st_aloadn h rfl dX7_eventTime_36)) (
  tab_cons (eS (st_get h (ci := 7) (k := 2) rfl giX7 (by decide) rfl gw_300 dX7_eventTime_37)) (
  tab_cons (eS (st_bipush h (by decide +kernel) dX7_eventTime_40)) (
  tab_cons (eS (st_iloadn h rfl dX7_eventTime_42)) (
  tab_cons (eS (st_iadd h dX7_eventTime_43)) (
  tab_cons (eO (so_daload h dX7_eventTime_44)) (
  tab_cons (eO (so_dreturn h dX7_eventTime_45)) (
  tab_nil)))))))))))))))))))))))))))
def tX7_eventTime : Tb := tX7_eventTime_0
theorem kX7_eventTime {X : Ctx} (h : sCx X mX7_eventTime) : tab X mX7_eventTime tX7_eventTime := kX7_eventTime_0 h
theorem dX7_clearedTime_0 : decode cX7_clearedTime 0 = .ok (.aload_n 0, 1) := by decide +kernel
theorem dX7_clearedTime_1 : decode cX7_clearedTime 1 = .ok (.iconst 0, 1) := by decide +kernel
theorem dX7_clearedTime_2 : decode cX7_clearedTime 2 = .ok (.putfield 45, 3) := by decide +kernel
theorem dX7_clearedTime_5 : decode cX7_clearedTime 5 = .ok (.aload_n 0, 1) := by decide +kernel
theorem dX7_clearedTime_6 : decode cX7_clearedTime 6 = .ok (.getfield 13, 3) := by decide +kernel
theorem dX7_clearedTime_9 : decode cX7_clearedTime 9 = .ok (.iconst 3, 1) := by decide +kernel
theorem dX7_clearedTime_10 : decode cX7_clearedTime 10 = .ok (.daload, 1) := by decide +kernel
theorem dX7_clearedTime_11 : decode cX7_clearedTime 11 = .ok (.dreturn, 1) := by decide +kernel
def tX7_clearedTime_0 : Tb := [(0, .inl (f_aload 0, 1)), (1, .inl (f_ci (0), 2)), (2, .inl (f_putI 7 0, 5)), (5, .inl (f_aload 0, 6)), (6, .inl (f_get 7 2, 9)), (9, .inl (f_ci (3), 10)), (10, .inr (.inr (.inl (1, 11, 0, m0)))), (11, .inr (.inr (.inl (16, 12, 0, m0))))]
set_option maxRecDepth 10000 in
theorem kX7_clearedTime_0 {X : Ctx} (h : sCx X mX7_clearedTime) : tab X mX7_clearedTime tX7_clearedTime_0 :=
  tab_cons (eS (st_aloadn h rfl dX7_clearedTime_0)) (
  tab_cons (eS (st_iconst h (by decide +kernel) dX7_clearedTime_1)) (
  tab_cons (eS (st_putI h (ci := 7) (k := 0) tyX7 tyX7_ok nmX7 rfl giX7 (by decide) rfl rfl (by decide +kernel) gw_291 dX7_clearedTime_2)) (
  tab_cons (eS (st_aloadn h rfl dX7_clearedTime_5)) (
  tab_cons (eS (st_get h (ci := 7) (k := 2) rfl giX7 (by decide) rfl gw_300 dX7_clearedTime_6)) (
  tab_cons (eS (st_iconst h (by decide +kernel) dX7_clearedTime_9)) (
  tab_cons (eO (so_daload h dX7_clearedTime_10)) (
  tab_cons (eO (so_dreturn h dX7_clearedTime_11)) (
  tab_nil))))))))
def tX7_clearedTime : Tb := tX7_clearedTime_0
theorem kX7_clearedTime {X : Ctx} (h : sCx X mX7_clearedTime) : tab X mX7_clearedTime tX7_clearedTime := kX7_clearedTime_0 h
theorem dX7_openOnes_0 : decode cX7_openOnes 0 = .ok (.iconst 0, 1) := by decide +kernel
theorem dX7_openOnes_1 : decode cX7_openOnes 1 = .ok (.istore_n 1, 1) := by decide +kernel
theorem dX7_openOnes_2 : decode cX7_openOnes 2 = .ok (.iconst 0, 1) := by decide +kernel
theorem dX7_openOnes_3 : decode cX7_openOnes 3 = .ok (.istore_n 2, 1) := by decide +kernel
theorem dX7_openOnes_4 : decode cX7_openOnes 4 = .ok (.iload_n 2, 1) := by decide +kernel
theorem dX7_openOnes_5 : decode cX7_openOnes 5 = .ok (.aload_n 0, 1) := by decide +kernel
theorem dX7_openOnes_6 : decode cX7_openOnes 6 = .ok (.getfield 7, 3) := by decide +kernel
theorem dX7_openOnes_9 : decode cX7_openOnes 9 = .ok (.iconst 0, 1) := by decide +kernel
theorem dX7_openOnes_10 : decode cX7_openOnes 10 = .ok (.iaload, 1) := by decide +kernel
theorem dX7_openOnes_11 : decode cX7_openOnes 11 = .ok (.if_icmp .ge 25, 3) := by decide +kernel
theorem dX7_openOnes_14 : decode cX7_openOnes 14 = .ok (.iload_n 1, 1) := by decide +kernel
theorem dX7_openOnes_15 : decode cX7_openOnes 15 = .ok (.aload_n 0, 1) := by decide +kernel
theorem dX7_openOnes_16 : decode cX7_openOnes 16 = .ok (.getfield 7, 3) := by decide +kernel
theorem dX7_openOnes_19 : decode cX7_openOnes 19 = .ok (.iload_n 2, 1) := by decide +kernel
theorem dX7_openOnes_20 : decode cX7_openOnes 20 = .ok (.bipush 8, 2) := by decide +kernel
theorem dX7_openOnes_22 : decode cX7_openOnes 22 = .ok (.invokestatic 71, 3) := by decide +kernel
theorem dX7_openOnes_25 : decode cX7_openOnes 25 = .ok (.iaload, 1) := by decide +kernel
theorem dX7_openOnes_26 : decode cX7_openOnes 26 = .ok (.iload_n 2, 1) := by decide +kernel
theorem dX7_openOnes_27 : decode cX7_openOnes 27 = .ok (.ishl, 1) := by decide +kernel
theorem dX7_openOnes_28 : decode cX7_openOnes 28 = .ok (.ior, 1) := by decide +kernel
theorem dX7_openOnes_29 : decode cX7_openOnes 29 = .ok (.istore_n 1, 1) := by decide +kernel
theorem dX7_openOnes_30 : decode cX7_openOnes 30 = .ok (.iinc 2 1, 3) := by decide +kernel
theorem dX7_openOnes_33 : decode cX7_openOnes 33 = .ok (.goto (-29), 3) := by decide +kernel
theorem dX7_openOnes_36 : decode cX7_openOnes 36 = .ok (.iload_n 1, 1) := by decide +kernel
theorem dX7_openOnes_37 : decode cX7_openOnes 37 = .ok (.ireturn, 1) := by decide +kernel
def tX7_openOnes_0 : Tb := [(0, .inl (f_ci (0), 1)), (1, .inl (f_istore 3 1, 2)), (2, .inl (f_ci (0), 3)), (3, .inl (f_istore 3 2, 4)), (4, .inl (f_iload 2, 5)), (5, .inl (f_aload 0, 6)), (6, .inl (f_get 7 1, 9)), (9, .inl (f_ci (0), 10)), (10, .inr (.inr (.inl (0, 11, 0, m0)))), (11, .inr (.inl (b_icmp_ge, 36, 14))), (14, .inl (f_iload 1, 15)), (15, .inl (f_aload 0, 16)), (16, .inl (f_get 7 1, 19)), (19, .inl (f_iload 2, 20)), (20, .inl (f_ci (8), 22)), (22, .inr (.inr (.inl (14, 25, 2, mX7_at)))), (25, .inr (.inr (.inl (0, 26, 0, m0)))), (26, .inl (f_iload 2, 27)), (27, .inl (f_ishl, 28)), (28, .inl (f_ior, 29)), (29, .inl (f_istore 3 1, 30)), (30, .inl (f_iinc 3 2 (1), 33)), (33, .inl (f_id, 4)), (36, .inl (f_iload 1, 37)), (37, .inr (.inr (.inl (15, 38, 0, m0))))]
set_option maxRecDepth 10000 in
theorem kX7_openOnes_0 {X : Ctx} (h : sCx X mX7_openOnes) : tab X mX7_openOnes tX7_openOnes_0 :=
  tab_cons (eS (st_iconst h (by decide +kernel) dX7_openOnes_0)) (
  tab_cons (eS (st_istoren h rfl dX7_openOnes_1)) (
  tab_cons (eS (st_iconst h (by decide +kernel) dX7_openOnes_2)) (
  tab_cons (eS (st_istoren h rfl dX7_openOnes_3)) (
  tab_cons (eS (st_iloadn h rfl dX7_openOnes_4)) (
  tab_cons (eS (st_aloadn h rfl dX7_openOnes_5)) (
  tab_cons (eS (st_get h (ci := 7) (k := 1) rfl giX7 (by decide) rfl gw_292 dX7_openOnes_6)) (
  tab_cons (eS (st_iconst h (by decide +kernel) dX7_openOnes_9)) (
  tab_cons (eO (so_iaload h dX7_openOnes_10)) (
  tab_cons (eB (sb_icmp_ge h dX7_openOnes_11 (by decide))) (
  tab_cons (eS (st_iloadn h rfl dX7_openOnes_14)) (
  tab_cons (eS (st_aloadn h rfl dX7_openOnes_15)) (
  tab_cons (eS (st_get h (ci := 7) (k := 1) rfl giX7 (by decide) rfl gw_292 dX7_openOnes_16)) (
  tab_cons (eS (st_iloadn h rfl dX7_openOnes_19)) (
  tab_cons (eS (st_bipush h (by decide +kernel) dX7_openOnes_20)) (
  tab_cons (eO (so_callS h gw_312 gw_313 gw_295 gw_314 ⟨by decide +kernel, by decide +kernel, by decide +kernel⟩ ⟨by decide +kernel, by decide +kernel⟩ dX7_openOnes_22)) (
  tab_cons (eO (so_iaload h dX7_openOnes_25)) (
  tab_cons (eS (st_iloadn h rfl dX7_openOnes_26)) (
  tab_cons (eS (st_ishl h dX7_openOnes_27)) (
  tab_cons (eS (st_ior h dX7_openOnes_28)) (
  tab_cons (eS (st_istoren h rfl dX7_openOnes_29)) (
  tab_cons (eS (st_iinc h (by decide +kernel) dX7_openOnes_30)) (
  tab_cons (eS (st_goto h dX7_openOnes_33 (by decide))) (
  tab_cons (eS (st_iloadn h rfl dX7_openOnes_36)) (
  tab_cons (eO (so_ireturn h dX7_openOnes_37)) (
  tab_nil)))))))))))))))))))))))))
def tX7_openOnes : Tb := tX7_openOnes_0
theorem kX7_openOnes {X : Ctx} (h : sCx X mX7_openOnes) : tab X mX7_openOnes tX7_openOnes := kX7_openOnes_0 h
theorem dX7_openBreakers_0 : decode cX7_openBreakers 0 = .ok (.aload_n 0, 1) := by decide +kernel
theorem dX7_openBreakers_1 : decode cX7_openBreakers 1 = .ok (.iconst 0, 1) := by decide +kernel
theorem dX7_openBreakers_2 : decode cX7_openBreakers 2 = .ok (.putfield 45, 3) := by decide +kernel
theorem dX7_openBreakers_5 : decode cX7_openBreakers 5 = .ok (.aload_n 0, 1) := by decide +kernel
theorem dX7_openBreakers_6 : decode cX7_openBreakers 6 = .ok (.invokevirtual 184, 3) := by decide +kernel
theorem dX7_openBreakers_9 : decode cX7_openBreakers 9 = .ok (.ireturn, 1) := by decide +kernel
def tX7_openBreakers_0 : Tb := [(0, .inl (f_aload 0, 1)), (1, .inl (f_ci (0), 2)), (2, .inl (f_putI 7 0, 5)), (5, .inl (f_aload 0, 6)), (6, .inr (.inr (.inl (13, 9, 1, mX7_openOnes)))), (9, .inr (.inr (.inl (15, 10, 0, m0))))]
set_option maxRecDepth 10000 in
theorem kX7_openBreakers_0 {X : Ctx} (h : sCx X mX7_openBreakers) : tab X mX7_openBreakers tX7_openBreakers_0 :=
  tab_cons (eS (st_aloadn h rfl dX7_openBreakers_0)) (
  tab_cons (eS (st_iconst h (by decide +kernel) dX7_openBreakers_1)) (
  tab_cons (eS (st_putI h (ci := 7) (k := 0) tyX7 tyX7_ok nmX7 rfl giX7 (by decide) rfl rfl (by decide +kernel) gw_291 dX7_openBreakers_2)) (
  tab_cons (eS (st_aloadn h rfl dX7_openBreakers_5)) (
  tab_cons (eO (so_callV h gw_419 gw_420 gw_421 gw_295 gw_422 ⟨by decide +kernel, by decide +kernel, by decide +kernel, by decide +kernel⟩ ⟨by decide +kernel, by decide +kernel⟩ dX7_openBreakers_6)) (
  tab_cons (eO (so_ireturn h dX7_openBreakers_9)) (
  tab_nil))))))
def tX7_openBreakers : Tb := tX7_openBreakers_0
theorem kX7_openBreakers {X : Ctx} (h : sCx X mX7_openBreakers) : tab X mX7_openBreakers tX7_openBreakers := kX7_openBreakers_0 h
theorem dX7_lostLoad_0 : decode cX7_lostLoad 0 = .ok (.aload_n 0, 1) := by decide +kernel
theorem dX7_lostLoad_1 : decode cX7_lostLoad 1 = .ok (.iconst 0, 1) := by decide +kernel
theorem dX7_lostLoad_2 : decode cX7_lostLoad 2 = .ok (.putfield 45, 3) := by decide +kernel
theorem dX7_lostLoad_5 : decode cX7_lostLoad 5 = .ok (.iconst 0, 1) := by decide +kernel
theorem dX7_lostLoad_6 : decode cX7_lostLoad 6 = .ok (.istore_n 1, 1) := by decide +kernel
theorem dX7_lostLoad_7 : decode cX7_lostLoad 7 = .ok (.iconst 1, 1) := by decide +kernel
theorem dX7_lostLoad_8 : decode cX7_lostLoad 8 = .ok (.istore_n 2, 1) := by decide +kernel
theorem dX7_lostLoad_9 : decode cX7_lostLoad 9 = .ok (.iload_n 2, 1) := by decide +kernel
theorem dX7_lostLoad_10 : decode cX7_lostLoad 10 = .ok (.aload_n 0, 1) := by decide +kernel
theorem dX7_lostLoad_11 : decode cX7_lostLoad 11 = .ok (.getfield 7, 3) := by decide +kernel
theorem dX7_lostLoad_14 : decode cX7_lostLoad 14 = .ok (.iconst 0, 1) := by decide +kernel
theorem dX7_lostLoad_15 : decode cX7_lostLoad 15 = .ok (.iaload, 1) := by decide +kernel
theorem dX7_lostLoad_16 : decode cX7_lostLoad 16 = .ok (.if_icmp .gt 42, 3) := by decide +kernel
theorem dX7_lostLoad_19 : decode cX7_lostLoad 19 = .ok (.aload_n 0, 1) := by decide +kernel
theorem dX7_lostLoad_20 : decode cX7_lostLoad 20 = .ok (.iload_n 2, 1) := by decide +kernel
theorem dX7_lostLoad_21 : decode cX7_lostLoad 21 = .ok (.iconst 1, 1) := by decide +kernel
theorem dX7_lostLoad_22 : decode cX7_lostLoad 22 = .ok (.isub, 1) := by decide +kernel
theorem dX7_lostLoad_23 : decode cX7_lostLoad 23 = .ok (.invokevirtual 96, 3) := by decide +kernel
theorem dX7_lostLoad_26 : decode cX7_lostLoad 26 = .ok (.iload_n 1, 1) := by decide +kernel
theorem dX7_lostLoad_27 : decode cX7_lostLoad 27 = .ok (.aload_n 0, 1) := by decide +kernel
theorem dX7_lostLoad_28 : decode cX7_lostLoad 28 = .ok (.invokevirtual 164, 3) := by decide +kernel
theorem dX7_lostLoad_31 : decode cX7_lostLoad 31 = .ok (.ifCond .eq 18, 3) := by decide +kernel
theorem dX7_lostLoad_34 : decode cX7_lostLoad 34 = .ok (.aload_n 0, 1) := by decide +kernel
theorem dX7_lostLoad_35 : decode cX7_lostLoad 35 = .ok (.getfield 7, 3) := by decide +kernel
theorem dX7_lostLoad_38 : decode cX7_lostLoad 38 = .ok (.iload_n 2, 1) := by decide +kernel
theorem dX7_lostLoad_39 : decode cX7_lostLoad 39 = .ok (.iconst 1, 1) := by decide +kernel
theorem dX7_lostLoad_40 : decode cX7_lostLoad 40 = .ok (.isub, 1) := by decide +kernel
theorem dX7_lostLoad_41 : decode cX7_lostLoad 41 = .ok (.iconst 1, 1) := by decide +kernel
theorem dX7_lostLoad_42 : decode cX7_lostLoad 42 = .ok (.invokestatic 71, 3) := by decide +kernel
theorem dX7_lostLoad_45 : decode cX7_lostLoad 45 = .ok (.iaload, 1) := by decide +kernel
theorem dX7_lostLoad_46 : decode cX7_lostLoad 46 = .ok (.goto 4, 3) := by decide +kernel
theorem dX7_lostLoad_49 : decode cX7_lostLoad 49 = .ok (.iconst 0, 1) := by decide +kernel
theorem dX7_lostLoad_50 : decode cX7_lostLoad 50 = .ok (.iadd, 1) := by decide +kernel
theorem dX7_lostLoad_51 : decode cX7_lostLoad 51 = .ok (.istore_n 1, 1) := by decide +kernel
theorem dX7_lostLoad_52 : decode cX7_lostLoad 52 = .ok (.iinc 2 1, 3) := by decide +kernel
theorem dX7_lostLoad_55 : decode cX7_lostLoad 55 = .ok (.goto (-46), 3) := by decide +kernel
theorem dX7_lostLoad_58 : decode cX7_lostLoad 58 = .ok (.iload_n 1, 1) := by decide +kernel
theorem dX7_lostLoad_59 : decode cX7_lostLoad 59 = .ok (.ireturn, 1) := by decide +kernel
def tX7_lostLoad_0 : Tb := [(0, .inl (f_aload 0, 1)), (1, .inl (f_ci (0), 2)), (2, .inl (f_putI 7 0, 5)), (5, .inl (f_ci (0), 6)), (6, .inl (f_istore 3 1, 7)), (7, .inl (f_ci (1), 8)), (8, .inl (f_istore 3 2, 9)), (9, .inl (f_iload 2, 10)), (10, .inl (f_aload 0, 11)), (11, .inl (f_get 7 1, 14)), (14, .inl (f_ci (0), 15)), (15, .inr (.inr (.inl (0, 16, 0, m0)))), (16, .inr (.inl (b_icmp_gt, 58, 19))), (19, .inl (f_aload 0, 20)), (20, .inl (f_iload 2, 21)), (21, .inl (f_ci (1), 22)), (22, .inl (f_isub, 23)), (23, .inr (.inr (.inl (13, 26, 2, mX7_findPath)))), (26, .inl (f_iload 1, 27)), (27, .inl (f_aload 0, 28)), (28, .inr (.inr (.inl (13, 31, 1, mX7_isPathOpen)))), (31, .inr (.inl (b_if_eq, 49, 34))), (34, .inl (f_aload 0, 35)), (35, .inl (f_get 7 1, 38)), (38, .inl (f_iload 2, 39)), (39, .inl (f_ci (1), 40)), (40, .inl (f_isub, 41)), (41, .inl (f_ci (1), 42)), (42, .inr (.inr (.inl (14, 45, 2, mX7_at)))), (45, .inr (.inr (.inl (0, 46, 0, m0))))]
set_option maxRecDepth 10000 in
theorem kX7_lostLoad_0 {X : Ctx} (h : sCx X mX7_lostLoad) : tab X mX7_lostLoad tX7_lostLoad_0 :=
  tab_cons (eS (st_aloadn h rfl dX7_lostLoad_0)) (
  tab_cons (eS (st_iconst h (by decide +kernel) dX7_lostLoad_1)) (
  tab_cons (eS (st_putI h (ci := 7) (k := 0) tyX7 tyX7_ok nmX7 rfl giX7 (by decide) rfl rfl (by decide +kernel) gw_291 dX7_lostLoad_2)) (
  tab_cons (eS (st_iconst h (by decide +kernel) dX7_lostLoad_5)) (
  tab_cons (eS (st_istoren h rfl dX7_lostLoad_6)) (
  tab_cons (eS (st_iconst h (by decide +kernel) dX7_lostLoad_7)) (
  tab_cons (eS (st_istoren h rfl dX7_lostLoad_8)) (
  tab_cons (eS (st_iloadn h rfl dX7_lostLoad_9)) (
  tab_cons (eS (st_aloadn h rfl dX7_lostLoad_10)) (
  tab_cons (eS (st_get h (ci := 7) (k := 1) rfl giX7 (by decide) rfl gw_292 dX7_lostLoad_11)) (
  tab_cons (eS (st_iconst h (by decide +kernel) dX7_lostLoad_14)) (
  tab_cons (eO (so_iaload h dX7_lostLoad_15)) (
  tab_cons (eB (sb_icmp_gt h dX7_lostLoad_16 (by decide))) (
  tab_cons (eS (st_aloadn h rfl dX7_lostLoad_19)) (
  tab_cons (eS (st_iloadn h rfl dX7_lostLoad_20)) (
  tab_cons (eS (st_iconst h (by decide +kernel) dX7_lostLoad_21)) (
  tab_cons (eS (st_isub h dX7_lostLoad_22)) (
  tab_cons (eO (so_callV h gw_337 gw_338 gw_339 gw_295 gw_340 ⟨by decide +kernel, by decide +kernel, by decide +kernel, by decide +kernel⟩ ⟨by decide +kernel, by decide +kernel⟩ dX7_lostLoad_23)) (
  tab_cons (eS (st_iloadn h rfl dX7_lostLoad_26)) (
  tab_cons (eS (st_aloadn h rfl dX7_lostLoad_27)) (
  tab_cons (eO (so_callV h gw_399 gw_400 gw_401 gw_295 gw_402 ⟨by decide +kernel, by decide +kernel, by decide +kernel, by decide +kernel⟩ ⟨by decide +kernel, by decide +kernel⟩ dX7_lostLoad_28)) (
  tab_cons (eB (sb_if_eq h dX7_lostLoad_31 (by decide))) (
  tab_cons (eS (st_aloadn h rfl dX7_lostLoad_34)) (
  tab_cons (eS (st_get h (ci := 7) (k := 1) rfl giX7 (by decide) rfl gw_292 dX7_lostLoad_35)) (
  tab_cons (eS (st_iloadn h rfl dX7_lostLoad_38)) (
  tab_cons (eS (st_iconst h (by decide +kernel) dX7_lostLoad_39)) (
  tab_cons (eS (st_isub h dX7_lostLoad_40)) (
  tab_cons (eS (st_iconst h (by decide +kernel) dX7_lostLoad_41)) (
  tab_cons (eO (so_callS h gw_312 gw_313 gw_295 gw_314 ⟨by decide +kernel, by decide +kernel, by decide +kernel⟩ ⟨by decide +kernel, by decide +kernel⟩ dX7_lostLoad_42)) (
  tab_cons (eO (so_iaload h dX7_lostLoad_45)) (
  tab_nil))))))))))))))))))))))))))))))
def tX7_lostLoad_1 : Tb := [(46, .inl (f_id, 50)), (49, .inl (f_ci (0), 50)), (50, .inl (f_iadd, 51)), (51, .inl (f_istore 3 1, 52)), (52, .inl (f_iinc 3 2 (1), 55)), (55, .inl (f_id, 9)), (58, .inl (f_iload 1, 59)), (59, .inr (.inr (.inl (15, 60, 0, m0))))]
set_option maxRecDepth 10000 in
theorem kX7_lostLoad_1 {X : Ctx} (h : sCx X mX7_lostLoad) : tab X mX7_lostLoad tX7_lostLoad_1 :=
  tab_cons (eS (st_goto h dX7_lostLoad_46 (by decide))) (
  tab_cons (eS (st_iconst h (by decide +kernel) dX7_lostLoad_49)) (
  tab_cons (eS (st_iadd h dX7_lostLoad_50)) (
  tab_cons (eS (st_istoren h rfl dX7_lostLoad_51)) (
  tab_cons (eS (st_iinc h (by decide +kernel) dX7_lostLoad_52)) (
  tab_cons (eS (st_goto h dX7_lostLoad_55 (by decide))) (
  tab_cons (eS (st_iloadn h rfl dX7_lostLoad_58)) (
  tab_cons (eO (so_ireturn h dX7_lostLoad_59)) (
  tab_nil))))))))
def tX7_lostLoad : Tb := tX7_lostLoad_0 ++ (tX7_lostLoad_1)
theorem kX7_lostLoad {X : Ctx} (h : sCx X mX7_lostLoad) : tab X mX7_lostLoad tX7_lostLoad := tab_app (kX7_lostLoad_0 h) (kX7_lostLoad_1 h)
theorem dX7_closeAll_0 : decode cX7_closeAll 0 = .ok (.aload_n 0, 1) := by decide +kernel
theorem dX7_closeAll_1 : decode cX7_closeAll 1 = .ok (.iconst 0, 1) := by decide +kernel
theorem dX7_closeAll_2 : decode cX7_closeAll 2 = .ok (.putfield 45, 3) := by decide +kernel
theorem dX7_closeAll_5 : decode cX7_closeAll 5 = .ok (.aload_n 0, 1) := by decide +kernel
theorem dX7_closeAll_6 : decode cX7_closeAll 6 = .ok (.invokevirtual 56, 3) := by decide +kernel
theorem dX7_closeAll_9 : decode cX7_closeAll 9 = .ok (.iconst 0, 1) := by decide +kernel
theorem dX7_closeAll_10 : decode cX7_closeAll 10 = .ok (.istore_n 1, 1) := by decide +kernel
theorem dX7_closeAll_11 : decode cX7_closeAll 11 = .ok (.iconst 0, 1) := by decide +kernel
theorem dX7_closeAll_12 : decode cX7_closeAll 12 = .ok (.istore_n 2, 1) := by decide +kernel
theorem dX7_closeAll_13 : decode cX7_closeAll 13 = .ok (.iload_n 2, 1) := by decide +kernel
theorem dX7_closeAll_14 : decode cX7_closeAll 14 = .ok (.aload_n 0, 1) := by decide +kernel
theorem dX7_closeAll_15 : decode cX7_closeAll 15 = .ok (.getfield 7, 3) := by decide +kernel
theorem dX7_closeAll_18 : decode cX7_closeAll 18 = .ok (.iconst 0, 1) := by decide +kernel
theorem dX7_closeAll_19 : decode cX7_closeAll 19 = .ok (.iaload, 1) := by decide +kernel
theorem dX7_closeAll_20 : decode cX7_closeAll 20 = .ok (.if_icmp .ge 35, 3) := by decide +kernel
theorem dX7_closeAll_23 : decode cX7_closeAll 23 = .ok (.iload_n 1, 1) := by decide +kernel
theorem dX7_closeAll_24 : decode cX7_closeAll 24 = .ok (.aload_n 0, 1) := by decide +kernel
theorem dX7_closeAll_25 : decode cX7_closeAll 25 = .ok (.getfield 7, 3) := by decide +kernel
theorem dX7_closeAll_28 : decode cX7_closeAll 28 = .ok (.iload_n 2, 1) := by decide +kernel
theorem dX7_closeAll_29 : decode cX7_closeAll 29 = .ok (.bipush 8, 2) := by decide +kernel
theorem dX7_closeAll_31 : decode cX7_closeAll 31 = .ok (.invokestatic 71, 3) := by decide +kernel
theorem dX7_closeAll_34 : decode cX7_closeAll 34 = .ok (.iaload, 1) := by decide +kernel
theorem dX7_closeAll_35 : decode cX7_closeAll 35 = .ok (.iadd, 1) := by decide +kernel
theorem dX7_closeAll_36 : decode cX7_closeAll 36 = .ok (.istore_n 1, 1) := by decide +kernel
theorem dX7_closeAll_37 : decode cX7_closeAll 37 = .ok (.aload_n 0, 1) := by decide +kernel
theorem dX7_closeAll_38 : decode cX7_closeAll 38 = .ok (.getfield 7, 3) := by decide +kernel
theorem dX7_closeAll_41 : decode cX7_closeAll 41 = .ok (.iload_n 2, 1) := by decide +kernel
theorem dX7_closeAll_42 : decode cX7_closeAll 42 = .ok (.bipush 8, 2) := by decide +kernel
theorem dX7_closeAll_44 : decode cX7_closeAll 44 = .ok (.invokestatic 71, 3) := by decide +kernel
theorem dX7_closeAll_47 : decode cX7_closeAll 47 = .ok (.iconst 0, 1) := by decide +kernel
theorem dX7_closeAll_48 : decode cX7_closeAll 48 = .ok (.iastore, 1) := by decide +kernel
theorem dX7_closeAll_49 : decode cX7_closeAll 49 = .ok (.iinc 2 1, 3) := by decide +kernel
theorem dX7_closeAll_52 : decode cX7_closeAll 52 = .ok (.goto (-39), 3) := by decide +kernel
theorem dX7_closeAll_55 : decode cX7_closeAll 55 = .ok (.iload_n 1, 1) := by decide +kernel
theorem dX7_closeAll_56 : decode cX7_closeAll 56 = .ok (.ireturn, 1) := by decide +kernel
def tX7_closeAll_0 : Tb := [(0, .inl (f_aload 0, 1)), (1, .inl (f_ci (0), 2)), (2, .inl (f_putI 7 0, 5)), (5, .inl (f_aload 0, 6)), (6, .inr (.inr (.inl (13, 9, 1, mX7_save)))), (9, .inl (f_ci (0), 10)), (10, .inl (f_istore 3 1, 11)), (11, .inl (f_ci (0), 12)), (12, .inl (f_istore 3 2, 13)), (13, .inl (f_iload 2, 14)), (14, .inl (f_aload 0, 15)), (15, .inl (f_get 7 1, 18)), (18, .inl (f_ci (0), 19)), (19, .inr (.inr (.inl (0, 20, 0, m0)))), (20, .inr (.inl (b_icmp_ge, 55, 23))), (23, .inl (f_iload 1, 24)), (24, .inl (f_aload 0, 25)), (25, .inl (f_get 7 1, 28)), (28, .inl (f_iload 2, 29)), (29, .inl (f_ci (8), 31)), (31, .inr (.inr (.inl (14, 34, 2, mX7_at)))), (34, .inr (.inr (.inl (0, 35, 0, m0)))), (35, .inl (f_iadd, 36)), (36, .inl (f_istore 3 1, 37)), (37, .inl (f_aload 0, 38)), (38, .inl (f_get 7 1, 41)), (41, .inl (f_iload 2, 42)), (42, .inl (f_ci (8), 44)), (44, .inr (.inr (.inl (14, 47, 2, mX7_at)))), (47, .inl (f_ci (0), 48))]
set_option maxRecDepth 10000 in
theorem kX7_closeAll_0 {X : Ctx} (h : sCx X mX7_closeAll) : tab X mX7_closeAll tX7_closeAll_0 :=
  tab_cons (eS (st_aloadn h rfl dX7_closeAll_0)) (
  tab_cons (eS (st_iconst h (by decide +kernel) dX7_closeAll_1)) (
  tab_cons (eS (st_putI h (ci := 7) (k := 0) tyX7 tyX7_ok nmX7 rfl giX7 (by decide) rfl rfl (by decide +kernel) gw_291 dX7_closeAll_2)) (
  tab_cons (eS (st_aloadn h rfl dX7_closeAll_5)) (
  tab_cons (eO (so_callV h gw_301 gw_302 gw_303 gw_295 gw_304 ⟨by decide +kernel, by decide +kernel, by decide +kernel, by decide +kernel⟩ ⟨by decide +kernel, by decide +kernel⟩ dX7_closeAll_6)) (
  tab_cons (eS (st_iconst h (by decide +kernel) dX7_closeAll_9)) (
  tab_cons (eS (st_istoren h rfl dX7_closeAll_10)) (
  tab_cons (eS (st_iconst h (by decide +kernel) dX7_closeAll_11)) (
  tab_cons (eS (st_istoren h rfl dX7_closeAll_12)) (
  tab_cons (eS (st_iloadn h rfl dX7_closeAll_13)) (
  tab_cons (eS (st_aloadn h rfl dX7_closeAll_14)) (
  tab_cons (eS (st_get h (ci := 7) (k := 1) rfl giX7 (by decide) rfl gw_292 dX7_closeAll_15)) (
  tab_cons (eS (st_iconst h (by decide +kernel) dX7_closeAll_18)) (
  tab_cons (eO (so_iaload h dX7_closeAll_19)) (
  tab_cons (eB (sb_icmp_ge h dX7_closeAll_20 (by decide))) (
  tab_cons (eS (st_iloadn h rfl dX7_closeAll_23)) (
  tab_cons (eS (st_aloadn h rfl dX7_closeAll_24)) (
  tab_cons (eS (st_get h (ci := 7) (k := 1) rfl giX7 (by decide) rfl gw_292 dX7_closeAll_25)) (
  tab_cons (eS (st_iloadn h rfl dX7_closeAll_28)) (
  tab_cons (eS (st_bipush h (by decide +kernel) dX7_closeAll_29)) (
  tab_cons (eO (so_callS h gw_312 gw_313 gw_295 gw_314 ⟨by decide +kernel, by decide +kernel, by decide +kernel⟩ ⟨by decide +kernel, by decide +kernel⟩ dX7_closeAll_31)) (
  tab_cons (eO (so_iaload h dX7_closeAll_34)) (
  tab_cons (eS (st_iadd h dX7_closeAll_35)) (
  tab_cons (eS (st_istoren h rfl dX7_closeAll_36)) (
  tab_cons (eS (st_aloadn h rfl dX7_closeAll_37)) (
  tab_cons (eS (st_get h (ci := 7) (k := 1) rfl giX7 (by decide) rfl gw_292 dX7_closeAll_38)) (
  tab_cons (eS (st_iloadn h rfl dX7_closeAll_41)) (
  tab_cons (eS (st_bipush h (by decide +kernel) dX7_closeAll_42)) (
  tab_cons (eO (so_callS h gw_312 gw_313 gw_295 gw_314 ⟨by decide +kernel, by decide +kernel, by decide +kernel⟩ ⟨by decide +kernel, by decide +kernel⟩ dX7_closeAll_44)) (
  tab_cons (eS (st_iconst h (by decide +kernel) dX7_closeAll_47)) (
  tab_nil))))))))))))))))))))))))))))))
def tX7_closeAll_1 : Tb := [(48, .inr (.inr (.inl (4, 49, 0, m0)))), (49, .inl (f_iinc 3 2 (1), 52)), (52, .inl (f_id, 13)), (55, .inl (f_iload 1, 56)), (56, .inr (.inr (.inl (15, 57, 0, m0))))]
set_option maxRecDepth 10000 in
theorem kX7_closeAll_1 {X : Ctx} (h : sCx X mX7_closeAll) : tab X mX7_closeAll tX7_closeAll_1 :=
  tab_cons (eO (so_iastore h dX7_closeAll_48)) (
  tab_cons (eS (st_iinc h (by decide +kernel) dX7_closeAll_49)) (
  tab_cons (eS (st_goto h dX7_closeAll_52 (by decide))) (
  tab_cons (eS (st_iloadn h rfl dX7_closeAll_55)) (
  tab_cons (eO (so_ireturn h dX7_closeAll_56)) (
  tab_nil)))))
def tX7_closeAll : Tb := tX7_closeAll_0 ++ (tX7_closeAll_1)
theorem kX7_closeAll {X : Ctx} (h : sCx X mX7_closeAll) : tab X mX7_closeAll tX7_closeAll := tab_app (kX7_closeAll_0 h) (kX7_closeAll_1 h)
theorem dX7_undo_0 : decode cX7_undo 0 = .ok (.aload_n 0, 1) := by decide +kernel
theorem dX7_undo_1 : decode cX7_undo 1 = .ok (.aload_n 0, 1) := by decide +kernel
theorem dX7_undo_2 : decode cX7_undo 2 = .ok (.getfield 53, 3) := by decide +kernel
theorem dX7_undo_5 : decode cX7_undo 5 = .ok (.ifCond .ne 7, 3) := by decide +kernel
theorem dX7_undo_8 : decode cX7_undo 8 = .ok (.iconst 1, 1) := by decide +kernel
theorem dX7_undo_9 : decode cX7_undo 9 = .ok (.goto 4, 3) := by decide +kernel
theorem dX7_undo_12 : decode cX7_undo 12 = .ok (.iconst 0, 1) := by decide +kernel
theorem dX7_undo_13 : decode cX7_undo 13 = .ok (.putfield 45, 3) := by decide +kernel
theorem dX7_undo_16 : decode cX7_undo 16 = .ok (.aload_n 0, 1) := by decide +kernel
theorem dX7_undo_17 : decode cX7_undo 17 = .ok (.getfield 45, 3) := by decide +kernel
theorem dX7_undo_20 : decode cX7_undo 20 = .ok (.ifCond .le 5, 3) := by decide +kernel
theorem dX7_undo_23 : decode cX7_undo 23 = .ok (.iconst 0, 1) := by decide +kernel
theorem dX7_undo_24 : decode cX7_undo 24 = .ok (.ireturn, 1) := by decide +kernel
theorem dX7_undo_25 : decode cX7_undo 25 = .ok (.aload_n 0, 1) := by decide +kernel
theorem dX7_undo_26 : decode cX7_undo 26 = .ok (.dup, 1) := by decide +kernel
theorem dX7_undo_27 : decode cX7_undo 27 = .ok (.getfield 53, 3) := by decide +kernel
theorem dX7_undo_30 : decode cX7_undo 30 = .ok (.iconst 1, 1) := by decide +kernel
theorem dX7_undo_31 : decode cX7_undo 31 = .ok (.isub, 1) := by decide +kernel
theorem dX7_undo_32 : decode cX7_undo 32 = .ok (.putfield 53, 3) := by decide +kernel
theorem dX7_undo_35 : decode cX7_undo 35 = .ok (.iconst 0, 1) := by decide +kernel
theorem dX7_undo_36 : decode cX7_undo 36 = .ok (.istore_n 1, 1) := by decide +kernel
theorem dX7_undo_37 : decode cX7_undo 37 = .ok (.iload_n 1, 1) := by decide +kernel
theorem dX7_undo_38 : decode cX7_undo 38 = .ok (.sipush 170, 3) := by decide +kernel
theorem dX7_undo_41 : decode cX7_undo 41 = .ok (.if_icmp .ge 30, 3) := by decide +kernel
theorem dX7_undo_44 : decode cX7_undo 44 = .ok (.aload_n 0, 1) := by decide +kernel
theorem dX7_undo_45 : decode cX7_undo 45 = .ok (.getfield 7, 3) := by decide +kernel
theorem dX7_undo_48 : decode cX7_undo 48 = .ok (.iload_n 1, 1) := by decide +kernel
theorem dX7_undo_49 : decode cX7_undo 49 = .ok (.aload_n 0, 1) := by decide +kernel
theorem dX7_undo_50 : decode cX7_undo 50 = .ok (.getfield 17, 3) := by decide +kernel
theorem dX7_undo_53 : decode cX7_undo 53 = .ok (.sipush 170, 3) := by decide +kernel
theorem dX7_undo_56 : decode cX7_undo 56 = .ok (.aload_n 0, 1) := by decide +kernel
theorem dX7_undo_57 : decode cX7_undo 57 = .ok (.getfield 53, 3) := by decide +kernel
theorem dX7_undo_60 : decode cX7_undo 60 = .ok (.imul, 1) := by decide +kernel
theorem dX7_undo_61 : decode cX7_undo 61 = .ok (.iload_n 1, 1) := by decide +kernel
theorem dX7_undo_62 : decode cX7_undo 62 = .ok (.iadd, 1) := by decide +kernel
theorem dX7_undo_63 : decode cX7_undo 63 = .ok (.iaload, 1) := by decide +kernel
theorem dX7_undo_64 : decode cX7_undo 64 = .ok (.iastore, 1) := by decide +kernel
theorem dX7_undo_65 : decode cX7_undo 65 = .ok (.iinc 1 1, 3) := by decide +kernel
theorem dX7_undo_68 : decode cX7_undo 68 = .ok (.goto (-31), 3) := by decide +kernel
theorem dX7_undo_71 : decode cX7_undo 71 = .ok (.iconst 0, 1) := by decide +kernel
theorem dX7_undo_72 : decode cX7_undo 72 = .ok (.istore_n 1, 1) := by decide +kernel
theorem dX7_undo_73 : decode cX7_undo 73 = .ok (.iload_n 1, 1) := by decide +kernel
theorem dX7_undo_74 : decode cX7_undo 74 = .ok (.bipush 76, 2) := by decide +kernel
theorem dX7_undo_76 : decode cX7_undo 76 = .ok (.if_icmp .ge 29, 3) := by decide +kernel
theorem dX7_undo_79 : decode cX7_undo 79 = .ok (.aload_n 0, 1) := by decide +kernel
theorem dX7_undo_80 : decode cX7_undo 80 = .ok (.getfield 13, 3) := by decide +kernel
theorem dX7_undo_83 : decode cX7_undo 83 = .ok (.iload_n 1, 1) := by decide +kernel
theorem dX7_undo_84 : decode cX7_undo 84 = .ok (.aload_n 0, 1) := by decide +kernel
theorem dX7_undo_85 : decode cX7_undo 85 = .ok (.getfield 20, 3) := by decide +kernel
theorem dX7_undo_88 : decode cX7_undo 88 = .ok (.bipush 76, 2) := by decide +kernel
theorem dX7_undo_90 : decode cX7_undo 90 = .ok (.aload_n 0, 1) := by decide +kernel
theorem dX7_undo_91 : decode cX7_undo 91 = .ok (.getfield 53, 3) := by decide +kernel
theorem dX7_undo_94 : decode cX7_undo 94 = .ok (.imul, 1) := by decide +kernel
theorem dX7_undo_95 : decode cX7_undo 95 = .ok (.iload_n 1, 1) := by decide +kernel
theorem dX7_undo_96 : decode cX7_undo 96 = .ok (.iadd, 1) := by decide +kernel
theorem dX7_undo_97 : decode cX7_undo 97 = .ok (.daload, 1) := by decide +kernel
theorem dX7_undo_98 : decode cX7_undo 98 = .ok (.dastore, 1) := by decide +kernel
theorem dX7_undo_99 : decode cX7_undo 99 = .ok (.iinc 1 1, 3) := by decide +kernel
theorem dX7_undo_102 : decode cX7_undo 102 = .ok (.goto (-29), 3) := by decide +kernel
theorem dX7_undo_105 : decode cX7_undo 105 = .ok (.aload_n 0, 1) := by decide +kernel
theorem dX7_undo_106 : decode cX7_undo 106 = .ok (.getfield 53, 3) := by decide +kernel
theorem dX7_undo_109 : decode cX7_undo 109 = .ok (.ireturn, 1) := by decide +kernel
def tX7_undo_0 : Tb := [(0, .inl (f_aload 0, 1)), (1, .inl (f_aload 0, 2)), (2, .inl (f_get 7 5, 5)), (5, .inr (.inl (b_if_eq, 8, 12))), (8, .inl (f_ci (1), 9)), (9, .inl (f_id, 13)), (12, .inl (f_ci (0), 13)), (13, .inl (f_putI 7 0, 16)), (16, .inl (f_aload 0, 17)), (17, .inl (f_get 7 0, 20)), (20, .inr (.inl (b_if_le, 25, 23))), (23, .inl (f_ci (0), 24)), (24, .inr (.inr (.inl (15, 25, 0, m0)))), (25, .inl (f_aload 0, 26)), (26, .inl (f_dup, 27)), (27, .inl (f_get 7 5, 30)), (30, .inl (f_ci (1), 31)), (31, .inl (f_isub, 32)), (32, .inl (f_putI 7 5, 35)), (35, .inl (f_ci (0), 36)), (36, .inl (f_istore 2 1, 37)), (37, .inl (f_iload 1, 38)), (38, .inl (f_ci (170), 41)), (41, .inr (.inl (b_icmp_ge, 71, 44))), (44, .inl (f_aload 0, 45)), (45, .inl (f_get 7 1, 48)), (48, .inl (f_iload 1, 49)), (49, .inl (f_aload 0, 50)), (50, .inl (f_get 7 3, 53)), (53, .inl (f_ci (170), 56))]
set_option maxRecDepth 10000 in
theorem kX7_undo_0 {X : Ctx} (h : sCx X mX7_undo) : tab X mX7_undo tX7_undo_0 :=
  tab_cons (eS (st_aloadn h rfl dX7_undo_0)) (
  tab_cons (eS (st_aloadn h rfl dX7_undo_1)) (
  tab_cons (eS (st_get h (ci := 7) (k := 5) rfl giX7 (by decide) rfl gw_297 dX7_undo_2)) (
  tab_cons (eB (sb_if_ne h dX7_undo_5 (by decide))) (
  tab_cons (eS (st_iconst h (by decide +kernel) dX7_undo_8)) (
  tab_cons (eS (st_goto h dX7_undo_9 (by decide))) (
  tab_cons (eS (st_iconst h (by decide +kernel) dX7_undo_12)) (
  tab_cons (eS (st_putI h (ci := 7) (k := 0) tyX7 tyX7_ok nmX7 rfl giX7 (by decide) rfl rfl (by decide +kernel) gw_291 dX7_undo_13)) (
  tab_cons (eS (st_aloadn h rfl dX7_undo_16)) (
  tab_cons (eS (st_get h (ci := 7) (k := 0) rfl giX7 (by decide) rfl gw_291 dX7_undo_17)) (
  tab_cons (eB (sb_if_le h dX7_undo_20 (by decide))) (
  tab_cons (eS (st_iconst h (by decide +kernel) dX7_undo_23)) (
  tab_cons (eO (so_ireturn h dX7_undo_24)) (
  tab_cons (eS (st_aloadn h rfl dX7_undo_25)) (
  tab_cons (eS (st_dup h dX7_undo_26)) (
  tab_cons (eS (st_get h (ci := 7) (k := 5) rfl giX7 (by decide) rfl gw_297 dX7_undo_27)) (
  tab_cons (eS (st_iconst h (by decide +kernel) dX7_undo_30)) (
  tab_cons (eS (st_isub h dX7_undo_31)) (
  tab_cons (eS (st_putI h (ci := 7) (k := 5) tyX7 tyX7_ok nmX7 rfl giX7 (by decide) rfl rfl (by decide +kernel) gw_297 dX7_undo_32)) (
  tab_cons (eS (st_iconst h (by decide +kernel) dX7_undo_35)) (
  tab_cons (eS (st_istoren h rfl dX7_undo_36)) (
  tab_cons (eS (st_iloadn h rfl dX7_undo_37)) (
  tab_cons (eS (st_sipush h (by decide +kernel) dX7_undo_38)) (
  tab_cons (eB (sb_icmp_ge h dX7_undo_41 (by decide))) (
  tab_cons (eS (st_aloadn h rfl dX7_undo_44)) (
  tab_cons (eS (st_get h (ci := 7) (k := 1) rfl giX7 (by decide) rfl gw_292 dX7_undo_45)) (
  tab_cons (eS (st_iloadn h rfl dX7_undo_48)) (
  tab_cons (eS (st_aloadn h rfl dX7_undo_49)) (
  tab_cons (eS (st_get h (ci := 7) (k := 3) rfl giX7 (by decide) rfl gw_298 dX7_undo_50)) (
  tab_cons (eS (st_sipush h (by decide +kernel) dX7_undo_53)) (
  tab_nil))))))))))))))))))))))))))))))
def tX7_undo_1 : Tb := [(56, .inl (f_aload 0, 57)), (57, .inl (f_get 7 5, 60)), (60, .inl (f_imul, 61)), (61, .inl (f_iload 1, 62)), (62, .inl (f_iadd, 63)), (63, .inr (.inr (.inl (0, 64, 0, m0)))), (64, .inr (.inr (.inl (4, 65, 0, m0)))), (65, .inl (f_iinc 2 1 (1), 68)), (68, .inl (f_id, 37)), (71, .inl (f_ci (0), 72)), (72, .inl (f_istore 2 1, 73)), (73, .inl (f_iload 1, 74)), (74, .inl (f_ci (76), 76)), (76, .inr (.inl (b_icmp_ge, 105, 79))), (79, .inl (f_aload 0, 80)), (80, .inl (f_get 7 2, 83)), (83, .inl (f_iload 1, 84)), (84, .inl (f_aload 0, 85)), (85, .inl (f_get 7 4, 88)), (88, .inl (f_ci (76), 90)), (90, .inl (f_aload 0, 91)), (91, .inl (f_get 7 5, 94)), (94, .inl (f_imul, 95)), (95, .inl (f_iload 1, 96)), (96, .inl (f_iadd, 97)), (97, .inr (.inr (.inl (1, 98, 0, m0)))), (98, .inr (.inr (.inl (5, 99, 0, m0)))), (99, .inl (f_iinc 2 1 (1), 102)), (102, .inl (f_id, 73)), (105, .inl (f_aload 0, 106))]
set_option maxRecDepth 10000 in
theorem kX7_undo_1 {X : Ctx} (h : sCx X mX7_undo) : tab X mX7_undo tX7_undo_1 :=
  tab_cons (eS (st_aloadn h rfl dX7_undo_56)) (
  tab_cons (eS (st_get h (ci := 7) (k := 5) rfl giX7 (by decide) rfl gw_297 dX7_undo_57)) (
  tab_cons (eS (st_imul h dX7_undo_60)) (
  tab_cons (eS (st_iloadn h rfl dX7_undo_61)) (
  tab_cons (eS (st_iadd h dX7_undo_62)) (
  tab_cons (eO (so_iaload h dX7_undo_63)) (
  tab_cons (eO (so_iastore h dX7_undo_64)) (
  tab_cons (eS (st_iinc h (by decide +kernel) dX7_undo_65)) (
  tab_cons (eS (st_goto h dX7_undo_68 (by decide))) (
  tab_cons (eS (st_iconst h (by decide +kernel) dX7_undo_71)) (
  tab_cons (eS (st_istoren h rfl dX7_undo_72)) (
  tab_cons (eS (st_iloadn h rfl dX7_undo_73)) (
  tab_cons (eS (st_bipush h (by decide +kernel) dX7_undo_74)) (
  tab_cons (eB (sb_icmp_ge h dX7_undo_76 (by decide))) (
  tab_cons (eS (st_aloadn h rfl dX7_undo_79)) (
  tab_cons (eS (st_get h (ci := 7) (k := 2) rfl giX7 (by decide) rfl gw_300 dX7_undo_80)) (
  tab_cons (eS (st_iloadn h rfl dX7_undo_83)) (
  tab_cons (eS (st_aloadn h rfl dX7_undo_84)) (
  tab_cons (eS (st_get h (ci := 7) (k := 4) rfl giX7 (by decide) rfl gw_299 dX7_undo_85)) (
  tab_cons (eS (st_bipush h (by decide +kernel) dX7_undo_88)) (
  tab_cons (eS (st_aloadn h rfl dX7_undo_90)) (
  tab_cons (eS (st_get h (ci := 7) (k := 5) rfl giX7 (by decide) rfl gw_297 dX7_undo_91)) (
  tab_cons (eS (st_imul h dX7_undo_94)) (
  tab_cons (eS (st_iloadn h rfl dX7_undo_95)) (
  tab_cons (eS (st_iadd h dX7_undo_96)) (
  tab_cons (eO (so_daload h dX7_undo_97)) (
  tab_cons (eO (so_dastore h dX7_undo_98)) (
  tab_cons (eS (st_iinc h (by decide +kernel) dX7_undo_99)) (
  tab_cons (eS (st_goto h dX7_undo_102 (by decide))) (
  tab_cons (eS (st_aloadn h rfl dX7_undo_105)) (
  tab_nil))))))))))))))))))))))))))))))
def tX7_undo_2 : Tb := [(106, .inl (f_get 7 5, 109)), (109, .inr (.inr (.inl (15, 110, 0, m0))))]
set_option maxRecDepth 10000 in
theorem kX7_undo_2 {X : Ctx} (h : sCx X mX7_undo) : tab X mX7_undo tX7_undo_2 :=
  tab_cons (eS (st_get h (ci := 7) (k := 5) rfl giX7 (by decide) rfl gw_297 dX7_undo_106)) (
  tab_cons (eO (so_ireturn h dX7_undo_109)) (
  tab_nil))
def tX7_undo : Tb := tX7_undo_0 ++ (tX7_undo_1 ++ (tX7_undo_2))
theorem kX7_undo {X : Ctx} (h : sCx X mX7_undo) : tab X mX7_undo tX7_undo := tab_app (kX7_undo_0 h) (tab_app (kX7_undo_1 h) (kX7_undo_2 h))
theorem dX7_mixed_0 : decode cX7_mixed 0 = .ok (.ldc2_w 187, 3) := by decide +kernel
theorem dX7_mixed_3 : decode cX7_mixed 3 = .ok (.lload_n 0, 1) := by decide +kernel
theorem dX7_mixed_4 : decode cX7_mixed 4 = .ok (.lmul, 1) := by decide +kernel
theorem dX7_mixed_5 : decode cX7_mixed 5 = .ok (.lload_n 2, 1) := by decide +kernel
theorem dX7_mixed_6 : decode cX7_mixed 6 = .ok (.ladd, 1) := by decide +kernel
theorem dX7_mixed_7 : decode cX7_mixed 7 = .ok (.lreturn, 1) := by decide +kernel
def tX7_mixed_0 : Tb := [(0, .inl (f_cl (31), 3)), (3, .inl (f_lload 0, 4)), (4, .inl (f_lmul, 5)), (5, .inl (f_lload 2, 6)), (6, .inl (f_ladd, 7)), (7, .inr (.inr (.inl (17, 8, 0, m0))))]
set_option maxRecDepth 10000 in
theorem kX7_mixed_0 {X : Ctx} (h : sCx X mX7_mixed) : tab X mX7_mixed tX7_mixed_0 :=
  tab_cons (eS (st_ldc2l h gw_423 dX7_mixed_0)) (
  tab_cons (eS (st_lloadn h rfl dX7_mixed_3)) (
  tab_cons (eS (st_lmul h dX7_mixed_4)) (
  tab_cons (eS (st_lloadn h rfl dX7_mixed_5)) (
  tab_cons (eS (st_ladd h dX7_mixed_6)) (
  tab_cons (eO (so_lreturn h dX7_mixed_7)) (
  tab_nil))))))
def tX7_mixed : Tb := tX7_mixed_0
theorem kX7_mixed {X : Ctx} (h : sCx X mX7_mixed) : tab X mX7_mixed tX7_mixed := kX7_mixed_0 h
theorem dX7_mixedReal_0 : decode cX7_mixedReal 0 = .ok (.ldc2_w 187, 3) := by decide +kernel
theorem dX7_mixedReal_3 : decode cX7_mixedReal 3 = .ok (.lload_n 0, 1) := by decide +kernel
theorem dX7_mixedReal_4 : decode cX7_mixedReal 4 = .ok (.lmul, 1) := by decide +kernel
theorem dX7_mixedReal_5 : decode cX7_mixedReal 5 = .ok (.dload_n 2, 1) := by decide +kernel
theorem dX7_mixedReal_6 : decode cX7_mixedReal 6 = .ok (.invokestatic 189, 3) := by decide +kernel
theorem dX7_mixedReal_9 : decode cX7_mixedReal 9 = .ok (.ladd, 1) := by decide +kernel
theorem dX7_mixedReal_10 : decode cX7_mixedReal 10 = .ok (.lreturn, 1) := by decide +kernel
def tX7_mixedReal_0 : Tb := [(0, .inl (f_cl (31), 3)), (3, .inl (f_lload 0, 4)), (4, .inl (f_lmul, 5)), (5, .inl (f_dload 2, 6)), (6, .inr (.inr (.inl (14, 9, 1, mJxe99ae_doubleToLongBits_ccdee)))), (9, .inl (f_ladd, 10)), (10, .inr (.inr (.inl (17, 11, 0, m0))))]
set_option maxRecDepth 10000 in
theorem kX7_mixedReal_0 {X : Ctx} (h : sCx X mX7_mixedReal) : tab X mX7_mixedReal tX7_mixedReal_0 :=
  tab_cons (eS (st_ldc2l h gw_423 dX7_mixedReal_0)) (
  tab_cons (eS (st_lloadn h rfl dX7_mixedReal_3)) (
  tab_cons (eS (st_lmul h dX7_mixedReal_4)) (
  tab_cons (eS (st_dloadn h rfl dX7_mixedReal_5)) (
  tab_cons (eO (so_callS h gw_424 gw_425 gw_426 gw_427 ⟨by decide +kernel, by decide +kernel, by decide +kernel⟩ ⟨by decide +kernel, by decide +kernel⟩ dX7_mixedReal_6)) (
  tab_cons (eS (st_ladd h dX7_mixedReal_9)) (
  tab_cons (eO (so_lreturn h dX7_mixedReal_10)) (
  tab_nil)))))))
def tX7_mixedReal : Tb := tX7_mixedReal_0
theorem kX7_mixedReal {X : Ctx} (h : sCx X mX7_mixedReal) : tab X mX7_mixedReal tX7_mixedReal := kX7_mixedReal_0 h
theorem dX7_digest_0 : decode cX7_digest 0 = .ok (.aload_n 0, 1) := by decide +kernel
theorem dX7_digest_1 : decode cX7_digest 1 = .ok (.iconst 0, 1) := by decide +kernel
theorem dX7_digest_2 : decode cX7_digest 2 = .ok (.putfield 45, 3) := by decide +kernel
theorem dX7_digest_5 : decode cX7_digest 5 = .ok (.ldc2_w 195, 3) := by decide +kernel
theorem dX7_digest_8 : decode cX7_digest 8 = .ok (.aload_n 0, 1) := by decide +kernel
theorem dX7_digest_9 : decode cX7_digest 9 = .ok (.getfield 53, 3) := by decide +kernel
theorem dX7_digest_12 : decode cX7_digest 12 = .ok (.i2l, 1) := by decide +kernel
theorem dX7_digest_13 : decode cX7_digest 13 = .ok (.invokestatic 197, 3) := by decide +kernel
theorem dX7_digest_16 : decode cX7_digest 16 = .ok (.lstore_n 1, 1) := by decide +kernel
theorem dX7_digest_17 : decode cX7_digest 17 = .ok (.lload_n 1, 1) := by decide +kernel
theorem dX7_digest_18 : decode cX7_digest 18 = .ok (.aload_n 0, 1) := by decide +kernel
theorem dX7_digest_19 : decode cX7_digest 19 = .ok (.getfield 13, 3) := by decide +kernel
theorem dX7_digest_22 : decode cX7_digest 22 = .ok (.iconst 0, 1) := by decide +kernel
theorem dX7_digest_23 : decode cX7_digest 23 = .ok (.daload, 1) := by decide +kernel
theorem dX7_digest_24 : decode cX7_digest 24 = .ok (.invokestatic 201, 3) := by decide +kernel
theorem dX7_digest_27 : decode cX7_digest 27 = .ok (.aload_n 0, 1) := by decide +kernel
theorem dX7_digest_28 : decode cX7_digest 28 = .ok (.getfield 13, 3) := by decide +kernel
theorem dX7_digest_31 : decode cX7_digest 31 = .ok (.iconst 1, 1) := by decide +kernel
theorem dX7_digest_32 : decode cX7_digest 32 = .ok (.daload, 1) := by decide +kernel
theorem dX7_digest_33 : decode cX7_digest 33 = .ok (.invokestatic 201, 3) := by decide +kernel
theorem dX7_digest_36 : decode cX7_digest 36 = .ok (.aload_n 0, 1) := by decide +kernel
theorem dX7_digest_37 : decode cX7_digest 37 = .ok (.getfield 13, 3) := by decide +kernel
theorem dX7_digest_40 : decode cX7_digest 40 = .ok (.iconst 2, 1) := by decide +kernel
theorem dX7_digest_41 : decode cX7_digest 41 = .ok (.daload, 1) := by decide +kernel
theorem dX7_digest_42 : decode cX7_digest 42 = .ok (.invokestatic 201, 3) := by decide +kernel
theorem dX7_digest_45 : decode cX7_digest 45 = .ok (.lstore_n 1, 1) := by decide +kernel
theorem dX7_digest_46 : decode cX7_digest 46 = .ok (.lload_n 1, 1) := by decide +kernel
theorem dX7_digest_47 : decode cX7_digest 47 = .ok (.aload_n 0, 1) := by decide +kernel
theorem dX7_digest_48 : decode cX7_digest 48 = .ok (.getfield 7, 3) := by decide +kernel
theorem dX7_digest_51 : decode cX7_digest 51 = .ok (.iconst 0, 1) := by decide +kernel
theorem dX7_digest_52 : decode cX7_digest 52 = .ok (.iaload, 1) := by decide +kernel
theorem dX7_digest_53 : decode cX7_digest 53 = .ok (.i2l, 1) := by decide +kernel
theorem dX7_digest_54 : decode cX7_digest 54 = .ok (.invokestatic 197, 3) := by decide +kernel
theorem dX7_digest_57 : decode cX7_digest 57 = .ok (.lstore_n 1, 1) := by decide +kernel
theorem dX7_digest_58 : decode cX7_digest 58 = .ok (.iconst 0, 1) := by decide +kernel
theorem dX7_digest_59 : decode cX7_digest 59 = .ok (.istore_n 3, 1) := by decide +kernel
theorem dX7_digest_60 : decode cX7_digest 60 = .ok (.iload_n 3, 1) := by decide +kernel
theorem dX7_digest_61 : decode cX7_digest 61 = .ok (.aload_n 0, 1) := by decide +kernel
theorem dX7_digest_62 : decode cX7_digest 62 = .ok (.getfield 7, 3) := by decide +kernel
theorem dX7_digest_65 : decode cX7_digest 65 = .ok (.iconst 0, 1) := by decide +kernel
theorem dX7_digest_66 : decode cX7_digest 66 = .ok (.iaload, 1) := by decide +kernel
theorem dX7_digest_67 : decode cX7_digest 67 = .ok (.if_icmp .ge 81, 3) := by decide +kernel
theorem dX7_digest_70 : decode cX7_digest 70 = .ok (.lload_n 1, 1) := by decide +kernel
theorem dX7_digest_71 : decode cX7_digest 71 = .ok (.aload_n 0, 1) := by decide +kernel
theorem dX7_digest_72 : decode cX7_digest 72 = .ok (.getfield 7, 3) := by decide +kernel
theorem dX7_digest_75 : decode cX7_digest 75 = .ok (.iload_n 3, 1) := by decide +kernel
theorem dX7_digest_76 : decode cX7_digest 76 = .ok (.iconst 0, 1) := by decide +kernel
theorem dX7_digest_77 : decode cX7_digest 77 = .ok (.invokestatic 71, 3) := by decide +kernel
theorem dX7_digest_80 : decode cX7_digest 80 = .ok (.iaload, 1) := by decide +kernel
theorem dX7_digest_81 : decode cX7_digest 81 = .ok (.i2l, 1) := by decide +kernel
theorem dX7_digest_82 : decode cX7_digest 82 = .ok (.invokestatic 197, 3) := by decide +kernel
theorem dX7_digest_85 : decode cX7_digest 85 = .ok (.aload_n 0, 1) := by decide +kernel
theorem dX7_digest_86 : decode cX7_digest 86 = .ok (.getfield 13, 3) := by decide +kernel
theorem dX7_digest_89 : decode cX7_digest 89 = .ok (.iconst 4, 1) := by decide +kernel
theorem dX7_digest_90 : decode cX7_digest 90 = .ok (.iload_n 3, 1) := by decide +kernel
theorem dX7_digest_91 : decode cX7_digest 91 = .ok (.iadd, 1) := by decide +kernel
theorem dX7_digest_92 : decode cX7_digest 92 = .ok (.daload, 1) := by decide +kernel
theorem dX7_digest_93 : decode cX7_digest 93 = .ok (.invokestatic 201, 3) := by decide +kernel
theorem dX7_digest_96 : decode cX7_digest 96 = .ok (.lstore_n 1, 1) := by decide +kernel
theorem dX7_digest_97 : decode cX7_digest 97 = .ok (.iconst 1, 1) := by decide +kernel
theorem dX7_digest_98 : decode cX7_digest 98 = .ok (.istore 4, 2) := by decide +kernel
theorem dX7_digest_100 : decode cX7_digest 100 = .ok (.iload 4, 2) := by decide +kernel
theorem dX7_digest_102 : decode cX7_digest 102 = .ok (.bipush 7, 2) := by decide +kernel
theorem dX7_digest_104 : decode cX7_digest 104 = .ok (.if_icmp .gt 26, 3) := by decide +kernel
theorem dX7_digest_107 : decode cX7_digest 107 = .ok (.lload_n 1, 1) := by decide +kernel
theorem dX7_digest_108 : decode cX7_digest 108 = .ok (.aload_n 0, 1) := by decide +kernel
theorem dX7_digest_109 : decode cX7_digest 109 = .ok (.getfield 7, 3) := by decide +kernel
theorem dX7_digest_112 : decode cX7_digest 112 = .ok (.iload_n 3, 1) := by decide +kernel
theorem dX7_digest_113 : decode cX7_digest 113 = .ok (.iload 4, 2) := by decide +kernel
theorem dX7_digest_115 : decode cX7_digest 115 = .ok (.invokestatic 71, 3) := by decide +kernel
theorem dX7_digest_118 : decode cX7_digest 118 = .ok (.iaload, 1) := by decide +kernel
theorem dX7_digest_119 : decode cX7_digest 119 = .ok (.i2l, 1) := by decide +kernel
theorem dX7_digest_120 : decode cX7_digest 120 = .ok (.invokestatic 197, 3) := by decide +kernel
theorem dX7_digest_123 : decode cX7_digest 123 = .ok (.lstore_n 1, 1) := by decide +kernel
theorem dX7_digest_124 : decode cX7_digest 124 = .ok (.iinc 4 1, 3) := by decide +kernel
theorem dX7_digest_127 : decode cX7_digest 127 = .ok (.goto (-27), 3) := by decide +kernel
theorem dX7_digest_130 : decode cX7_digest 130 = .ok (.lload_n 1, 1) := by decide +kernel
theorem dX7_digest_131 : decode cX7_digest 131 = .ok (.aload_n 0, 1) := by decide +kernel
theorem dX7_digest_132 : decode cX7_digest 132 = .ok (.iload_n 3, 1) := by decide +kernel
theorem dX7_digest_133 : decode cX7_digest 133 = .ok (.bipush 100, 2) := by decide +kernel
theorem dX7_digest_135 : decode cX7_digest 135 = .ok (.invokevirtual 103, 3) := by decide +kernel
theorem dX7_digest_138 : decode cX7_digest 138 = .ok (.invokestatic 201, 3) := by decide +kernel
theorem dX7_digest_141 : decode cX7_digest 141 = .ok (.lstore_n 1, 1) := by decide +kernel
theorem dX7_digest_142 : decode cX7_digest 142 = .ok (.iinc 3 1, 3) := by decide +kernel
theorem dX7_digest_145 : decode cX7_digest 145 = .ok (.goto (-85), 3) := by decide +kernel
theorem dX7_digest_148 : decode cX7_digest 148 = .ok (.lload_n 1, 1) := by decide +kernel
theorem dX7_digest_149 : decode cX7_digest 149 = .ok (.aload_n 0, 1) := by decide +kernel
theorem dX7_digest_150 : decode cX7_digest 150 = .ok (.invokevirtual 184, 3) := by decide +kernel
theorem dX7_digest_153 : decode cX7_digest 153 = .ok (.i2l, 1) := by decide +kernel
theorem dX7_digest_154 : decode cX7_digest 154 = .ok (.invokestatic 197, 3) := by decide +kernel
theorem dX7_digest_157 : decode cX7_digest 157 = .ok (.aload_n 0, 1) := by decide +kernel
theorem dX7_digest_158 : decode cX7_digest 158 = .ok (.invokevirtual 145, 3) := by decide +kernel
theorem dX7_digest_161 : decode cX7_digest 161 = .ok (.i2l, 1) := by decide +kernel
theorem dX7_digest_162 : decode cX7_digest 162 = .ok (.invokestatic 197, 3) := by decide +kernel
theorem dX7_digest_165 : decode cX7_digest 165 = .ok (.aload_n 0, 1) := by decide +kernel
theorem dX7_digest_166 : decode cX7_digest 166 = .ok (.getfield 7, 3) := by decide +kernel
theorem dX7_digest_169 : decode cX7_digest 169 = .ok (.iconst 1, 1) := by decide +kernel
theorem dX7_digest_170 : decode cX7_digest 170 = .ok (.iaload, 1) := by decide +kernel
theorem dX7_digest_171 : decode cX7_digest 171 = .ok (.i2l, 1) := by decide +kernel
theorem dX7_digest_172 : decode cX7_digest 172 = .ok (.invokestatic 197, 3) := by decide +kernel
theorem dX7_digest_175 : decode cX7_digest 175 = .ok (.lstore_n 1, 1) := by decide +kernel
theorem dX7_digest_176 : decode cX7_digest 176 = .ok (.iconst 0, 1) := by decide +kernel
theorem dX7_digest_177 : decode cX7_digest 177 = .ok (.istore_n 3, 1) := by decide +kernel
theorem dX7_digest_178 : decode cX7_digest 178 = .ok (.iload_n 3, 1) := by decide +kernel
theorem dX7_digest_179 : decode cX7_digest 179 = .ok (.aload_n 0, 1) := by decide +kernel
theorem dX7_digest_180 : decode cX7_digest 180 = .ok (.getfield 7, 3) := by decide +kernel
theorem dX7_digest_183 : decode cX7_digest 183 = .ok (.iconst 1, 1) := by decide +kernel
theorem dX7_digest_184 : decode cX7_digest 184 = .ok (.iaload, 1) := by decide +kernel
theorem dX7_digest_185 : decode cX7_digest 185 = .ok (.if_icmp .ge 36, 3) := by decide +kernel
theorem dX7_digest_188 : decode cX7_digest 188 = .ok (.lload_n 1, 1) := by decide +kernel
theorem dX7_digest_189 : decode cX7_digest 189 = .ok (.aload_n 0, 1) := by decide +kernel
theorem dX7_digest_190 : decode cX7_digest 190 = .ok (.getfield 7, 3) := by decide +kernel
theorem dX7_digest_193 : decode cX7_digest 193 = .ok (.bipush 110, 2) := by decide +kernel
theorem dX7_digest_195 : decode cX7_digest 195 = .ok (.iload_n 3, 1) := by decide +kernel
theorem dX7_digest_196 : decode cX7_digest 196 = .ok (.iadd, 1) := by decide +kernel
theorem dX7_digest_197 : decode cX7_digest 197 = .ok (.iaload, 1) := by decide +kernel
theorem dX7_digest_198 : decode cX7_digest 198 = .ok (.i2l, 1) := by decide +kernel
theorem dX7_digest_199 : decode cX7_digest 199 = .ok (.invokestatic 197, 3) := by decide +kernel
theorem dX7_digest_202 : decode cX7_digest 202 = .ok (.aload_n 0, 1) := by decide +kernel
theorem dX7_digest_203 : decode cX7_digest 203 = .ok (.getfield 13, 3) := by decide +kernel
theorem dX7_digest_206 : decode cX7_digest 206 = .ok (.bipush 16, 2) := by decide +kernel
theorem dX7_digest_208 : decode cX7_digest 208 = .ok (.iload_n 3, 1) := by decide +kernel
theorem dX7_digest_209 : decode cX7_digest 209 = .ok (.iadd, 1) := by decide +kernel
theorem dX7_digest_210 : decode cX7_digest 210 = .ok (.daload, 1) := by decide +kernel
theorem dX7_digest_211 : decode cX7_digest 211 = .ok (.invokestatic 201, 3) := by decide +kernel
theorem dX7_digest_214 : decode cX7_digest 214 = .ok (.lstore_n 1, 1) := by decide +kernel
theorem dX7_digest_215 : decode cX7_digest 215 = .ok (.iinc 3 1, 3) := by decide +kernel
theorem dX7_digest_218 : decode cX7_digest 218 = .ok (.goto (-40), 3) := by decide +kernel
theorem dX7_digest_221 : decode cX7_digest 221 = .ok (.lload_n 1, 1) := by decide +kernel
theorem dX7_digest_222 : decode cX7_digest 222 = .ok (.aload_n 0, 1) := by decide +kernel
theorem dX7_digest_223 : decode cX7_digest 223 = .ok (.getfield 13, 3) := by decide +kernel
theorem dX7_digest_226 : decode cX7_digest 226 = .ok (.iconst 3, 1) := by decide +kernel
theorem dX7_digest_227 : decode cX7_digest 227 = .ok (.daload, 1) := by decide +kernel
theorem dX7_digest_228 : decode cX7_digest 228 = .ok (.invokestatic 201, 3) := by decide +kernel
theorem dX7_digest_231 : decode cX7_digest 231 = .ok (.lreturn, 1) := by decide +kernel
def tX7_digest_0 : Tb := [(0, .inl (f_aload 0, 1)), (1, .inl (f_ci (0), 2)), (2, .inl (f_putI 7 0, 5)), (5, .inl (f_cl (11901), 8)), (8, .inl (f_aload 0, 9)), (9, .inl (f_get 7 5, 12)), (12, .inl (f_i2l, 13)), (13, .inr (.inr (.inl (14, 16, 2, mX7_mixed)))), (16, .inl (f_lstore 5 1, 17)), (17, .inl (f_lload 1, 18)), (18, .inl (f_aload 0, 19)), (19, .inl (f_get 7 2, 22)), (22, .inl (f_ci (0), 23)), (23, .inr (.inr (.inl (1, 24, 0, m0)))), (24, .inr (.inr (.inl (14, 27, 2, mX7_mixedReal)))), (27, .inl (f_aload 0, 28)), (28, .inl (f_get 7 2, 31)), (31, .inl (f_ci (1), 32)), (32, .inr (.inr (.inl (1, 33, 0, m0)))), (33, .inr (.inr (.inl (14, 36, 2, mX7_mixedReal)))), (36, .inl (f_aload 0, 37)), (37, .inl (f_get 7 2, 40)), (40, .inl (f_ci (2), 41)), (41, .inr (.inr (.inl (1, 42, 0, m0)))), (42, .inr (.inr (.inl (14, 45, 2, mX7_mixedReal)))), (45, .inl (f_lstore 5 1, 46)), (46, .inl (f_lload 1, 47)), (47, .inl (f_aload 0, 48)), (48, .inl (f_get 7 1, 51)), (51, .inl (f_ci (0), 52))]
set_option maxRecDepth 10000 in
theorem kX7_digest_0 {X : Ctx} (h : sCx X mX7_digest) : tab X mX7_digest tX7_digest_0 :=
  tab_cons (eS (st_aloadn h rfl dX7_digest_0)) (
  tab_cons (eS (st_iconst h (by decide +kernel) dX7_digest_1)) (
  tab_cons (eS (st_putI h (ci := 7) (k := 0) tyX7 tyX7_ok nmX7 rfl giX7 (by decide) rfl rfl (by decide +kernel) gw_291 dX7_digest_2)) (
  tab_cons (eS (st_ldc2l h gw_428 dX7_digest_5)) (
  tab_cons (eS (st_aloadn h rfl dX7_digest_8)) (
  tab_cons (eS (st_get h (ci := 7) (k := 5) rfl giX7 (by decide) rfl gw_297 dX7_digest_9)) (
  tab_cons (eS (st_i2l h dX7_digest_12)) (
  tab_cons (eO (so_callS h gw_429 gw_430 gw_295 gw_431 ⟨by decide +kernel, by decide +kernel, by decide +kernel⟩ ⟨by decide +kernel, by decide +kernel⟩ dX7_digest_13)) (
  tab_cons (eS (st_lstoren h rfl dX7_digest_16)) (
  tab_cons (eS (st_lloadn h rfl dX7_digest_17)) (
  tab_cons (eS (st_aloadn h rfl dX7_digest_18)) (
  tab_cons (eS (st_get h (ci := 7) (k := 2) rfl giX7 (by decide) rfl gw_300 dX7_digest_19)) (
  tab_cons (eS (st_iconst h (by decide +kernel) dX7_digest_22)) (
  tab_cons (eO (so_daload h dX7_digest_23)) (
  tab_cons (eO (so_callS h gw_432 gw_433 gw_295 gw_434 ⟨by decide +kernel, by decide +kernel, by decide +kernel⟩ ⟨by decide +kernel, by decide +kernel⟩ dX7_digest_24)) (
  tab_cons (eS (st_aloadn h rfl dX7_digest_27)) (
  tab_cons (eS (st_get h (ci := 7) (k := 2) rfl giX7 (by decide) rfl gw_300 dX7_digest_28)) (
  tab_cons (eS (st_iconst h (by decide +kernel) dX7_digest_31)) (
  tab_cons (eO (so_daload h dX7_digest_32)) (
  tab_cons (eO (so_callS h gw_432 gw_433 gw_295 gw_434 ⟨by decide +kernel, by decide +kernel, by decide +kernel⟩ ⟨by decide +kernel, by decide +kernel⟩ dX7_digest_33)) (
  tab_cons (eS (st_aloadn h rfl dX7_digest_36)) (
  tab_cons (eS (st_get h (ci := 7) (k := 2) rfl giX7 (by decide) rfl gw_300 dX7_digest_37)) (
  tab_cons (eS (st_iconst h (by decide +kernel) dX7_digest_40)) (
  tab_cons (eO (so_daload h dX7_digest_41)) (
  tab_cons (eO (so_callS h gw_432 gw_433 gw_295 gw_434 ⟨by decide +kernel, by decide +kernel, by decide +kernel⟩ ⟨by decide +kernel, by decide +kernel⟩ dX7_digest_42)) (
  tab_cons (eS (st_lstoren h rfl dX7_digest_45)) (
  tab_cons (eS (st_lloadn h rfl dX7_digest_46)) (
  tab_cons (eS (st_aloadn h rfl dX7_digest_47)) (
  tab_cons (eS (st_get h (ci := 7) (k := 1) rfl giX7 (by decide) rfl gw_292 dX7_digest_48)) (
  tab_cons (eS (st_iconst h (by decide +kernel) dX7_digest_51)) (
  tab_nil))))))))))))))))))))))))))))))
def tX7_digest_1 : Tb := [(52, .inr (.inr (.inl (0, 53, 0, m0)))), (53, .inl (f_i2l, 54)), (54, .inr (.inr (.inl (14, 57, 2, mX7_mixed)))), (57, .inl (f_lstore 5 1, 58)), (58, .inl (f_ci (0), 59)), (59, .inl (f_istore 5 3, 60)), (60, .inl (f_iload 3, 61)), (61, .inl (f_aload 0, 62)), (62, .inl (f_get 7 1, 65)), (65, .inl (f_ci (0), 66)), (66, .inr (.inr (.inl (0, 67, 0, m0)))), (67, .inr (.inl (b_icmp_ge, 148, 70))), (70, .inl (f_lload 1, 71)), (71, .inl (f_aload 0, 72)), (72, .inl (f_get 7 1, 75)), (75, .inl (f_iload 3, 76)), (76, .inl (f_ci (0), 77)), (77, .inr (.inr (.inl (14, 80, 2, mX7_at)))), (80, .inr (.inr (.inl (0, 81, 0, m0)))), (81, .inl (f_i2l, 82)), (82, .inr (.inr (.inl (14, 85, 2, mX7_mixed)))), (85, .inl (f_aload 0, 86)), (86, .inl (f_get 7 2, 89)), (89, .inl (f_ci (4), 90)), (90, .inl (f_iload 3, 91)), (91, .inl (f_iadd, 92)), (92, .inr (.inr (.inl (1, 93, 0, m0)))), (93, .inr (.inr (.inl (14, 96, 2, mX7_mixedReal)))), (96, .inl (f_lstore 5 1, 97)), (97, .inl (f_ci (1), 98))]
set_option maxRecDepth 10000 in
theorem kX7_digest_1 {X : Ctx} (h : sCx X mX7_digest) : tab X mX7_digest tX7_digest_1 :=
  tab_cons (eO (so_iaload h dX7_digest_52)) (
  tab_cons (eS (st_i2l h dX7_digest_53)) (
  tab_cons (eO (so_callS h gw_429 gw_430 gw_295 gw_431 ⟨by decide +kernel, by decide +kernel, by decide +kernel⟩ ⟨by decide +kernel, by decide +kernel⟩ dX7_digest_54)) (
  tab_cons (eS (st_lstoren h rfl dX7_digest_57)) (
  tab_cons (eS (st_iconst h (by decide +kernel) dX7_digest_58)) (
  tab_cons (eS (st_istoren h rfl dX7_digest_59)) (
  tab_cons (eS (st_iloadn h rfl dX7_digest_60)) (
  tab_cons (eS (st_aloadn h rfl dX7_digest_61)) (
  tab_cons (eS (st_get h (ci := 7) (k := 1) rfl giX7 (by decide) rfl gw_292 dX7_digest_62)) (
  tab_cons (eS (st_iconst h (by decide +kernel) dX7_digest_65)) (
  tab_cons (eO (so_iaload h dX7_digest_66)) (
  tab_cons (eB (sb_icmp_ge h dX7_digest_67 (by decide))) (
  tab_cons (eS (st_lloadn h rfl dX7_digest_70)) (
  tab_cons (eS (st_aloadn h rfl dX7_digest_71)) (
  tab_cons (eS (st_get h (ci := 7) (k := 1) rfl giX7 (by decide) rfl gw_292 dX7_digest_72)) (
  tab_cons (eS (st_iloadn h rfl dX7_digest_75)) (
  tab_cons (eS (st_iconst h (by decide +kernel) dX7_digest_76)) (
  tab_cons (eO (so_callS h gw_312 gw_313 gw_295 gw_314 ⟨by decide +kernel, by decide +kernel, by decide +kernel⟩ ⟨by decide +kernel, by decide +kernel⟩ dX7_digest_77)) (
  tab_cons (eO (so_iaload h dX7_digest_80)) (
  tab_cons (eS (st_i2l h dX7_digest_81)) (
  tab_cons (eO (so_callS h gw_429 gw_430 gw_295 gw_431 ⟨by decide +kernel, by decide +kernel, by decide +kernel⟩ ⟨by decide +kernel, by decide +kernel⟩ dX7_digest_82)) (
  tab_cons (eS (st_aloadn h rfl dX7_digest_85)) (
  tab_cons (eS (st_get h (ci := 7) (k := 2) rfl giX7 (by decide) rfl gw_300 dX7_digest_86)) (
  tab_cons (eS (st_iconst h (by decide +kernel) dX7_digest_89)) (
  tab_cons (eS (st_iloadn h rfl dX7_digest_90)) (
  tab_cons (eS (st_iadd h dX7_digest_91)) (
  tab_cons (eO (so_daload h dX7_digest_92)) (
  tab_cons (eO (so_callS h gw_432 gw_433 gw_295 gw_434 ⟨by decide +kernel, by decide +kernel, by decide +kernel⟩ ⟨by decide +kernel, by decide +kernel⟩ dX7_digest_93)) (
  tab_cons (eS (st_lstoren h rfl dX7_digest_96)) (
  tab_cons (eS (st_iconst h (by decide +kernel) dX7_digest_97)) (
  tab_nil))))))))))))))))))))))))))))))
def tX7_digest_2 : Tb := [(98, .inl (f_istore 5 4, 100)), (100, .inl (f_iload 4, 102)), (102, .inl (f_ci (7), 104)), (104, .inr (.inl (b_icmp_gt, 130, 107))), (107, .inl (f_lload 1, 108)), (108, .inl (f_aload 0, 109)), (109, .inl (f_get 7 1, 112)), (112, .inl (f_iload 3, 113)), (113, .inl (f_iload 4, 115)), (115, .inr (.inr (.inl (14, 118, 2, mX7_at)))), (118, .inr (.inr (.inl (0, 119, 0, m0)))), (119, .inl (f_i2l, 120)), (120, .inr (.inr (.inl (14, 123, 2, mX7_mixed)))), (123, .inl (f_lstore 5 1, 124)), (124, .inl (f_iinc 5 4 (1), 127)), (127, .inl (f_id, 100)), (130, .inl (f_lload 1, 131)), (131, .inl (f_aload 0, 132)), (132, .inl (f_iload 3, 133)), (133, .inl (f_ci (100), 135)), (135, .inr (.inr (.inl (13, 138, 3, mX7_currentAt)))), (138, .inr (.inr (.inl (14, 141, 2, mX7_mixedReal)))), (141, .inl (f_lstore 5 1, 142)), (142, .inl (f_iinc 5 3 (1), 145)), (145, .inl (f_id, 60)), (148, .inl (f_lload 1, 149)), (149, .inl (f_aload 0, 150)), (150, .inr (.inr (.inl (13, 153, 1, mX7_openOnes)))), (153, .inl (f_i2l, 154)), (154, .inr (.inr (.inl (14, 157, 2, mX7_mixed))))]
set_option maxRecDepth 10000 in
theorem kX7_digest_2 {X : Ctx} (h : sCx X mX7_digest) : tab X mX7_digest tX7_digest_2 :=
  tab_cons (eS (st_istore h dX7_digest_98)) (
  tab_cons (eS (st_iload h dX7_digest_100)) (
  tab_cons (eS (st_bipush h (by decide +kernel) dX7_digest_102)) (
  tab_cons (eB (sb_icmp_gt h dX7_digest_104 (by decide))) (
  tab_cons (eS (st_lloadn h rfl dX7_digest_107)) (
  tab_cons (eS (st_aloadn h rfl dX7_digest_108)) (
  tab_cons (eS (st_get h (ci := 7) (k := 1) rfl giX7 (by decide) rfl gw_292 dX7_digest_109)) (
  tab_cons (eS (st_iloadn h rfl dX7_digest_112)) (
  tab_cons (eS (st_iload h dX7_digest_113)) (
  tab_cons (eO (so_callS h gw_312 gw_313 gw_295 gw_314 ⟨by decide +kernel, by decide +kernel, by decide +kernel⟩ ⟨by decide +kernel, by decide +kernel⟩ dX7_digest_115)) (
  tab_cons (eO (so_iaload h dX7_digest_118)) (
  tab_cons (eS (st_i2l h dX7_digest_119)) (
  tab_cons (eO (so_callS h gw_429 gw_430 gw_295 gw_431 ⟨by decide +kernel, by decide +kernel, by decide +kernel⟩ ⟨by decide +kernel, by decide +kernel⟩ dX7_digest_120)) (
  tab_cons (eS (st_lstoren h rfl dX7_digest_123)) (
  tab_cons (eS (st_iinc h (by decide +kernel) dX7_digest_124)) (
  tab_cons (eS (st_goto h dX7_digest_127 (by decide))) (
  tab_cons (eS (st_lloadn h rfl dX7_digest_130)) (
  tab_cons (eS (st_aloadn h rfl dX7_digest_131)) (
  tab_cons (eS (st_iloadn h rfl dX7_digest_132)) (
  tab_cons (eS (st_bipush h (by decide +kernel) dX7_digest_133)) (
  tab_cons (eO (so_callV h gw_345 gw_346 gw_347 gw_295 gw_348 ⟨by decide +kernel, by decide +kernel, by decide +kernel, by decide +kernel⟩ ⟨by decide +kernel, by decide +kernel⟩ dX7_digest_135)) (
  tab_cons (eO (so_callS h gw_432 gw_433 gw_295 gw_434 ⟨by decide +kernel, by decide +kernel, by decide +kernel⟩ ⟨by decide +kernel, by decide +kernel⟩ dX7_digest_138)) (
  tab_cons (eS (st_lstoren h rfl dX7_digest_141)) (
  tab_cons (eS (st_iinc h (by decide +kernel) dX7_digest_142)) (
  tab_cons (eS (st_goto h dX7_digest_145 (by decide))) (
  tab_cons (eS (st_lloadn h rfl dX7_digest_148)) (
  tab_cons (eS (st_aloadn h rfl dX7_digest_149)) (
  tab_cons (eO (so_callV h gw_419 gw_420 gw_421 gw_295 gw_422 ⟨by decide +kernel, by decide +kernel, by decide +kernel, by decide +kernel⟩ ⟨by decide +kernel, by decide +kernel⟩ dX7_digest_150)) (
  tab_cons (eS (st_i2l h dX7_digest_153)) (
  tab_cons (eO (so_callS h gw_429 gw_430 gw_295 gw_431 ⟨by decide +kernel, by decide +kernel, by decide +kernel⟩ ⟨by decide +kernel, by decide +kernel⟩ dX7_digest_154)) (
  tab_nil))))))))))))))))))))))))))))))
def tX7_digest_3 : Tb := [(157, .inl (f_aload 0, 158)), (158, .inr (.inr (.inl (13, 161, 1, mX7_violations)))), (161, .inl (f_i2l, 162)), (162, .inr (.inr (.inl (14, 165, 2, mX7_mixed)))), (165, .inl (f_aload 0, 166)), (166, .inl (f_get 7 1, 169)), (169, .inl (f_ci (1), 170)), (170, .inr (.inr (.inl (0, 171, 0, m0)))), (171, .inl (f_i2l, 172)), (172, .inr (.inr (.inl (14, 175, 2, mX7_mixed)))), (175, .inl (f_lstore 5 1, 176)), (176, .inl (f_ci (0), 177)), (177, .inl (f_istore 5 3, 178)), (178, .inl (f_iload 3, 179)), (179, .inl (f_aload 0, 180)), (180, .inl (f_get 7 1, 183)), (183, .inl (f_ci (1), 184)), (184, .inr (.inr (.inl (0, 185, 0, m0)))), (185, .inr (.inl (b_icmp_ge, 221, 188))), (188, .inl (f_lload 1, 189)), (189, .inl (f_aload 0, 190)), (190, .inl (f_get 7 1, 193)), (193, .inl (f_ci (110), 195)), (195, .inl (f_iload 3, 196)), (196, .inl (f_iadd, 197)), (197, .inr (.inr (.inl (0, 198, 0, m0)))), (198, .inl (f_i2l, 199)), (199, .inr (.inr (.inl (14, 202, 2, mX7_mixed)))), (202, .inl (f_aload 0, 203)), (203, .inl (f_get 7 2, 206))]
set_option maxRecDepth 10000 in
theorem kX7_digest_3 {X : Ctx} (h : sCx X mX7_digest) : tab X mX7_digest tX7_digest_3 :=
  tab_cons (eS (st_aloadn h rfl dX7_digest_157)) (
  tab_cons (eO (so_callV h gw_380 gw_381 gw_382 gw_295 gw_383 ⟨by decide +kernel, by decide +kernel, by decide +kernel, by decide +kernel⟩ ⟨by decide +kernel, by decide +kernel⟩ dX7_digest_158)) (
  tab_cons (eS (st_i2l h dX7_digest_161)) (
  tab_cons (eO (so_callS h gw_429 gw_430 gw_295 gw_431 ⟨by decide +kernel, by decide +kernel, by decide +kernel⟩ ⟨by decide +kernel, by decide +kernel⟩ dX7_digest_162)) (
  tab_cons (eS (st_aloadn h rfl dX7_digest_165)) (
  tab_cons (eS (st_get h (ci := 7) (k := 1) rfl giX7 (by decide) rfl gw_292 dX7_digest_166)) (
  tab_cons (eS (st_iconst h (by decide +kernel) dX7_digest_169)) (
  tab_cons (eO (so_iaload h dX7_digest_170)) (
  tab_cons (eS (st_i2l h dX7_digest_171)) (
  tab_cons (eO (so_callS h gw_429 gw_430 gw_295 gw_431 ⟨by decide +kernel, by decide +kernel, by decide +kernel⟩ ⟨by decide +kernel, by decide +kernel⟩ dX7_digest_172)) (
  tab_cons (eS (st_lstoren h rfl dX7_digest_175)) (
  tab_cons (eS (st_iconst h (by decide +kernel) dX7_digest_176)) (
  tab_cons (eS (st_istoren h rfl dX7_digest_177)) (
  tab_cons (eS (st_iloadn h rfl dX7_digest_178)) (
  tab_cons (eS (st_aloadn h rfl dX7_digest_179)) (
  tab_cons (eS (st_get h (ci := 7) (k := 1) rfl giX7 (by decide) rfl gw_292 dX7_digest_180)) (
  tab_cons (eS (st_iconst h (by decide +kernel) dX7_digest_183)) (
  tab_cons (eO (so_iaload h dX7_digest_184)) (
  tab_cons (eB (sb_icmp_ge h dX7_digest_185 (by decide))) (
  tab_cons (eS (st_lloadn h rfl dX7_digest_188)) (
  tab_cons (eS (st_aloadn h rfl dX7_digest_189)) (
  tab_cons (eS (st_get h (ci := 7) (k := 1) rfl giX7 (by decide) rfl gw_292 dX7_digest_190)) (
  tab_cons (eS (st_bipush h (by decide +kernel) dX7_digest_193)) (
  tab_cons (eS (st_iloadn h rfl dX7_digest_195)) (
  tab_cons (eS (st_iadd h dX7_digest_196)) (
  tab_cons (eO (so_iaload h dX7_digest_197)) (
  tab_cons (eS (st_i2l h dX7_digest_198)) (
  tab_cons (eO (so_callS h gw_429 gw_430 gw_295 gw_431 ⟨by decide +kernel, by decide +kernel, by decide +kernel⟩ ⟨by decide +kernel, by decide +kernel⟩ dX7_digest_199)) (
  tab_cons (eS (st_aloadn h rfl dX7_digest_202)) (
  tab_cons (eS (st_get h (ci := 7) (k := 2) rfl giX7 (by decide) rfl gw_300 dX7_digest_203)) (
  tab_nil))))))))))))))))))))))))))))))
def tX7_digest_4 : Tb := [(206, .inl (f_ci (16), 208)), (208, .inl (f_iload 3, 209)), (209, .inl (f_iadd, 210)), (210, .inr (.inr (.inl (1, 211, 0, m0)))), (211, .inr (.inr (.inl (14, 214, 2, mX7_mixedReal)))), (214, .inl (f_lstore 5 1, 215)), (215, .inl (f_iinc 5 3 (1), 218)), (218, .inl (f_id, 178)), (221, .inl (f_lload 1, 222)), (222, .inl (f_aload 0, 223)), (223, .inl (f_get 7 2, 226)), (226, .inl (f_ci (3), 227)), (227, .inr (.inr (.inl (1, 228, 0, m0)))), (228, .inr (.inr (.inl (14, 231, 2, mX7_mixedReal)))), (231, .inr (.inr (.inl (17, 232, 0, m0))))]
set_option maxRecDepth 10000 in
theorem kX7_digest_4 {X : Ctx} (h : sCx X mX7_digest) : tab X mX7_digest tX7_digest_4 :=
  tab_cons (eS (st_bipush h (by decide +kernel) dX7_digest_206)) (
  tab_cons (eS (st_iloadn h rfl dX7_digest_208)) (
  tab_cons (eS (st_iadd h dX7_digest_209)) (
  tab_cons (eO (so_daload h dX7_digest_210)) (
  tab_cons (eO (so_callS h gw_432 gw_433 gw_295 gw_434 ⟨by decide +kernel, by decide +kernel, by decide +kernel⟩ ⟨by decide +kernel, by decide +kernel⟩ dX7_digest_211)) (
  tab_cons (eS (st_lstoren h rfl dX7_digest_214)) (
  tab_cons (eS (st_iinc h (by decide +kernel) dX7_digest_215)) (
  tab_cons (eS (st_goto h dX7_digest_218 (by decide))) (
  tab_cons (eS (st_lloadn h rfl dX7_digest_221)) (
  tab_cons (eS (st_aloadn h rfl dX7_digest_222)) (
  tab_cons (eS (st_get h (ci := 7) (k := 2) rfl giX7 (by decide) rfl gw_300 dX7_digest_223)) (
  tab_cons (eS (st_iconst h (by decide +kernel) dX7_digest_226)) (
  tab_cons (eO (so_daload h dX7_digest_227)) (
  tab_cons (eO (so_callS h gw_432 gw_433 gw_295 gw_434 ⟨by decide +kernel, by decide +kernel, by decide +kernel⟩ ⟨by decide +kernel, by decide +kernel⟩ dX7_digest_228)) (
  tab_cons (eO (so_lreturn h dX7_digest_231)) (
  tab_nil)))))))))))))))
def tX7_digest : Tb := tX7_digest_0 ++ (tX7_digest_1 ++ (tX7_digest_2 ++ (tX7_digest_3 ++ (tX7_digest_4))))
theorem kX7_digest {X : Ctx} (h : sCx X mX7_digest) : tab X mX7_digest tX7_digest := tab_app (kX7_digest_0 h) (tab_app (kX7_digest_1 h) (tab_app (kX7_digest_2 h) (tab_app (kX7_digest_3 h) (kX7_digest_4 h))))
