theorem dX6_setSource_0 : decode cX6_setSource 0 = .ok (.dload_n 1, 1) := by decide +kernel
theorem dX6_setSource_1 : decode cX6_setSource 1 = .ok (.ldc2_w 30, 3) := by decide +kernel
theorem dX6_setSource_4 : decode cX6_setSource 4 = .ok (.ldc2_w 32, 3) := by decide +kernel
theorem dX6_setSource_7 : decode cX6_setSource 7 = .ok (.invokestatic 34, 3) := by decide +kernel
theorem dX6_setSource_10 : decode cX6_setSource 10 = .ok (.ifCond .ne 13, 3) := by decide +kernel
theorem dX6_setSource_13 : decode cX6_setSource 13 = .ok (.new 38, 3) := by decide +kernel
theorem dX6_setSource_16 : decode cX6_setSource 16 = .ok (.dup, 1) := by decide +kernel
theorem dX6_setSource_17 : decode cX6_setSource 17 = .ok (.ldc 40, 2) := by decide +kernel
theorem dX6_setSource_19 : decode cX6_setSource 19 = .ok (.invokespecial 42, 3) := by decide +kernel
theorem dX6_setSource_22 : decode cX6_setSource 22 = .ok (.athrow, 1) := by decide +kernel
theorem dX6_setSource_23 : decode cX6_setSource 23 = .ok (.dload_n 3, 1) := by decide +kernel
theorem dX6_setSource_24 : decode cX6_setSource 24 = .ok (.invokestatic 45, 3) := by decide +kernel
theorem dX6_setSource_27 : decode cX6_setSource 27 = .ok (.aload_n 0, 1) := by decide +kernel
theorem dX6_setSource_28 : decode cX6_setSource 28 = .ok (.getfield 19, 3) := by decide +kernel
theorem dX6_setSource_31 : decode cX6_setSource 31 = .ok (.aload_n 0, 1) := by decide +kernel
theorem dX6_setSource_32 : decode cX6_setSource 32 = .ok (.getfield 12, 3) := by decide +kernel
theorem dX6_setSource_35 : decode cX6_setSource 35 = .ok (.invokevirtual 49, 3) := by decide +kernel
theorem dX6_setSource_38 : decode cX6_setSource 38 = .ok (.aload_n 0, 1) := by decide +kernel
theorem dX6_setSource_39 : decode cX6_setSource 39 = .ok (.getfield 12, 3) := by decide +kernel
theorem dX6_setSource_42 : decode cX6_setSource 42 = .ok (.getfield 53, 3) := by decide +kernel
theorem dX6_setSource_45 : decode cX6_setSource 45 = .ok (.getfield 57, 3) := by decide +kernel
theorem dX6_setSource_48 : decode cX6_setSource 48 = .ok (.dstore 5, 2) := by decide +kernel
theorem dX6_setSource_50 : decode cX6_setSource 50 = .ok (.aload_n 0, 1) := by decide +kernel
theorem dX6_setSource_51 : decode cX6_setSource 51 = .ok (.getfield 12, 3) := by decide +kernel
theorem dX6_setSource_54 : decode cX6_setSource 54 = .ok (.getfield 53, 3) := by decide +kernel
theorem dX6_setSource_57 : decode cX6_setSource 57 = .ok (.dload_n 1, 1) := by decide +kernel
theorem dX6_setSource_58 : decode cX6_setSource 58 = .ok (.putfield 63, 3) := by decide +kernel
theorem dX6_setSource_61 : decode cX6_setSource 61 = .ok (.aload_n 0, 1) := by decide +kernel
theorem dX6_setSource_62 : decode cX6_setSource 62 = .ok (.getfield 12, 3) := by decide +kernel
theorem dX6_setSource_65 : decode cX6_setSource 65 = .ok (.getfield 53, 3) := by decide +kernel
theorem dX6_setSource_68 : decode cX6_setSource 68 = .ok (.dload_n 3, 1) := by decide +kernel
theorem dX6_setSource_69 : decode cX6_setSource 69 = .ok (.putfield 57, 3) := by decide +kernel
theorem dX6_setSource_72 : decode cX6_setSource 72 = .ok (.dload 5, 2) := by decide +kernel
theorem dX6_setSource_74 : decode cX6_setSource 74 = .ok (.dreturn, 1) := by decide +kernel
def tX6_setSource_0 : Tb := [(0, .inl (f_dload 1, 1)), (1, .inl (f_cd 4636737291354636288, 4)), (4, .inl (f_cd 4696837146684686336, 7)), (7, .inr (.inr (.inl (14, 10, 3, mX6_within_)))), (10, .inr (.inl (b_if_eq, 13, 23))), (16, .inl (f_dup, 17)), (23, .inl (f_dload 3, 24)), (24, .inr (.inr (.inl (14, 27, 1, mX6_requireImpedance)))), (27, .inl (f_aload 0, 28)), (28, .inl (f_get 6 1, 31)), (31, .inl (f_aload 0, 32)), (32, .inl (f_get 6 0, 35)), (35, .inr (.inr (.inl (13, 38, 2, mX5_push)))), (38, .inl (f_aload 0, 39)), (39, .inl (f_get 6 0, 42)), (42, .inl (f_get 4 0, 45)), (45, .inl (f_get 1 1, 48)), (48, .inl (f_dstore 7 5, 50)), (50, .inl (f_aload 0, 51)), (51, .inl (f_get 6 0, 54)), (54, .inl (f_get 4 0, 57)), (57, .inl (f_dload 1, 58)), (58, .inl (f_putD 1 0, 61)), (61, .inl (f_aload 0, 62)), (62, .inl (f_get 6 0, 65)), (65, .inl (f_get 4 0, 68)), (68, .inl (f_dload 3, 69)), (69, .inl (f_putD 1 1, 72)), (72, .inl (f_dload 5, 74)), (74, .inr (.inr (.inl (16, 75, 0, m0))))]
set_option maxRecDepth 10000 in
theorem kX6_setSource_0 {X : Ctx} (h : sCx X mX6_setSource) : tab X mX6_setSource tX6_setSource_0 :=
  tab_cons (eS (st_dloadn h rfl dX6_setSource_0)) (
  tab_cons (eS (st_ldc2d h gw_162 dX6_setSource_1)) (
  tab_cons (eS (st_ldc2d h gw_163 dX6_setSource_4)) (
  tab_cons (eO (so_callS h gw_164 gw_165 gw_27 gw_166 ⟨by decide +kernel, by decide +kernel, by decide +kernel⟩ ⟨by decide +kernel, by decide +kernel⟩ dX6_setSource_7)) (
  tab_cons (eB (sb_if_ne h dX6_setSource_10 (by decide))) (
  tab_cons (eS (st_dup h dX6_setSource_16)) (
  tab_cons (eS (st_dloadn h rfl dX6_setSource_23)) (
  tab_cons (eO (so_callS h gw_167 gw_168 gw_27 gw_169 ⟨by decide +kernel, by decide +kernel, by decide +kernel⟩ ⟨by decide +kernel, by decide +kernel⟩ dX6_setSource_24)) (
  tab_cons (eS (st_aloadn h rfl dX6_setSource_27)) (
  tab_cons (eS (st_get h (ci := 6) (k := 1) rfl giX6 (by decide) rfl gw_170 dX6_setSource_28)) (
  tab_cons (eS (st_aloadn h rfl dX6_setSource_31)) (
  tab_cons (eS (st_get h (ci := 6) (k := 0) rfl giX6 (by decide) rfl gw_171 dX6_setSource_32)) (
  tab_cons (eO (so_callV h gw_172 gw_173 gw_174 gw_175 gw_176 ⟨by decide +kernel, by decide +kernel, by decide +kernel, by decide +kernel⟩ ⟨by decide +kernel, by decide +kernel⟩ dX6_setSource_35)) (
  tab_cons (eS (st_aloadn h rfl dX6_setSource_38)) (
  tab_cons (eS (st_get h (ci := 6) (k := 0) rfl giX6 (by decide) rfl gw_171 dX6_setSource_39)) (
  tab_cons (eS (st_get h (ci := 4) (k := 0) rfl giX4 (by decide) rfl gw_177 dX6_setSource_42)) (
  tab_cons (eS (st_get h (ci := 1) (k := 1) rfl giX1 (by decide) rfl gw_178 dX6_setSource_45)) (
  tab_cons (eS (st_dstore h dX6_setSource_48)) (
  tab_cons (eS (st_aloadn h rfl dX6_setSource_50)) (
  tab_cons (eS (st_get h (ci := 6) (k := 0) rfl giX6 (by decide) rfl gw_171 dX6_setSource_51)) (
  tab_cons (eS (st_get h (ci := 4) (k := 0) rfl giX4 (by decide) rfl gw_177 dX6_setSource_54)) (
  tab_cons (eS (st_dloadn h rfl dX6_setSource_57)) (
  tab_cons (eS (st_putD h (ci := 1) (k := 0) tyX1 tyX1_ok nmX1 rfl giX1 (by decide) rfl rfl (by decide +kernel) gw_179 dX6_setSource_58)) (
  tab_cons (eS (st_aloadn h rfl dX6_setSource_61)) (
  tab_cons (eS (st_get h (ci := 6) (k := 0) rfl giX6 (by decide) rfl gw_171 dX6_setSource_62)) (
  tab_cons (eS (st_get h (ci := 4) (k := 0) rfl giX4 (by decide) rfl gw_177 dX6_setSource_65)) (
  tab_cons (eS (st_dloadn h rfl dX6_setSource_68)) (
  tab_cons (eS (st_putD h (ci := 1) (k := 1) tyX1 tyX1_ok nmX1 rfl giX1 (by decide) rfl rfl (by decide +kernel) gw_178 dX6_setSource_69)) (
  tab_cons (eS (st_dload h dX6_setSource_72)) (
  tab_cons (eO (so_dreturn h dX6_setSource_74)) (
  tab_nil))))))))))))))))))))))))))))))
def tX6_setSource : Tb := tX6_setSource_0
theorem kX6_setSource {X : Ctx} (h : sCx X mX6_setSource) : tab X mX6_setSource tX6_setSource := kX6_setSource_0 h
theorem dX6_addLine_0 : decode cX6_addLine 0 = .ok (.iload_n 1, 1) := by decide +kernel
theorem dX6_addLine_1 : decode cX6_addLine 1 = .ok (.iconst 0, 1) := by decide +kernel
theorem dX6_addLine_2 : decode cX6_addLine 2 = .ok (.aload_n 0, 1) := by decide +kernel
theorem dX6_addLine_3 : decode cX6_addLine 3 = .ok (.getfield 12, 3) := by decide +kernel
theorem dX6_addLine_6 : decode cX6_addLine 6 = .ok (.getfield 53, 3) := by decide +kernel
theorem dX6_addLine_9 : decode cX6_addLine 9 = .ok (.getfield 66, 3) := by decide +kernel
theorem dX6_addLine_12 : decode cX6_addLine 12 = .ok (.invokestatic 70, 3) := by decide +kernel
theorem dX6_addLine_15 : decode cX6_addLine 15 = .ok (.ifCond .ne 13, 3) := by decide +kernel
theorem dX6_addLine_18 : decode cX6_addLine 18 = .ok (.new 38, 3) := by decide +kernel
theorem dX6_addLine_21 : decode cX6_addLine 21 = .ok (.dup, 1) := by decide +kernel
theorem dX6_addLine_22 : decode cX6_addLine 22 = .ok (.ldc 73, 2) := by decide +kernel
theorem dX6_addLine_24 : decode cX6_addLine 24 = .ok (.invokespecial 42, 3) := by decide +kernel
theorem dX6_addLine_27 : decode cX6_addLine 27 = .ok (.athrow, 1) := by decide +kernel
theorem dX6_addLine_28 : decode cX6_addLine 28 = .ok (.dload_n 2, 1) := by decide +kernel
theorem dX6_addLine_29 : decode cX6_addLine 29 = .ok (.invokestatic 45, 3) := by decide +kernel
theorem dX6_addLine_32 : decode cX6_addLine 32 = .ok (.aload_n 0, 1) := by decide +kernel
theorem dX6_addLine_33 : decode cX6_addLine 33 = .ok (.getfield 12, 3) := by decide +kernel
theorem dX6_addLine_36 : decode cX6_addLine 36 = .ok (.getfield 53, 3) := by decide +kernel
theorem dX6_addLine_39 : decode cX6_addLine 39 = .ok (.getfield 66, 3) := by decide +kernel
theorem dX6_addLine_42 : decode cX6_addLine 42 = .ok (.bipush 12, 2) := by decide +kernel
theorem dX6_addLine_44 : decode cX6_addLine 44 = .ok (.if_icmp .lt 13, 3) := by decide +kernel
theorem dX6_addLine_47 : decode cX6_addLine 47 = .ok (.new 75, 3) := by decide +kernel
theorem dX6_addLine_50 : decode cX6_addLine 50 = .ok (.dup, 1) := by decide +kernel
theorem dX6_addLine_51 : decode cX6_addLine 51 = .ok (.ldc 77, 2) := by decide +kernel
theorem dX6_addLine_53 : decode cX6_addLine 53 = .ok (.invokespecial 79, 3) := by decide +kernel
theorem dX6_addLine_56 : decode cX6_addLine 56 = .ok (.athrow, 1) := by decide +kernel
theorem dX6_addLine_57 : decode cX6_addLine 57 = .ok (.aload_n 0, 1) := by decide +kernel
theorem dX6_addLine_58 : decode cX6_addLine 58 = .ok (.getfield 19, 3) := by decide +kernel
theorem dX6_addLine_61 : decode cX6_addLine 61 = .ok (.aload_n 0, 1) := by decide +kernel
theorem dX6_addLine_62 : decode cX6_addLine 62 = .ok (.getfield 12, 3) := by decide +kernel
theorem dX6_addLine_65 : decode cX6_addLine 65 = .ok (.invokevirtual 49, 3) := by decide +kernel
theorem dX6_addLine_68 : decode cX6_addLine 68 = .ok (.aload_n 0, 1) := by decide +kernel
theorem dX6_addLine_69 : decode cX6_addLine 69 = .ok (.getfield 12, 3) := by decide +kernel
theorem dX6_addLine_72 : decode cX6_addLine 72 = .ok (.getfield 53, 3) := by decide +kernel
theorem dX6_addLine_75 : decode cX6_addLine 75 = .ok (.iload_n 1, 1) := by decide +kernel
theorem dX6_addLine_76 : decode cX6_addLine 76 = .ok (.dload_n 2, 1) := by decide +kernel
theorem dX6_addLine_77 : decode cX6_addLine 77 = .ok (.invokevirtual 80, 3) := by decide +kernel
theorem dX6_addLine_80 : decode cX6_addLine 80 = .ok (.ireturn, 1) := by decide +kernel
def tX6_addLine_0 : Tb := [(0, .inl (f_iload 1, 1)), (1, .inl (f_ci (0), 2)), (2, .inl (f_aload 0, 3)), (3, .inl (f_get 6 0, 6)), (6, .inl (f_get 4 0, 9)), (9, .inl (f_get 1 2, 12)), (12, .inr (.inr (.inl (14, 15, 3, mX6_within)))), (15, .inr (.inl (b_if_eq, 18, 28))), (21, .inl (f_dup, 22)), (28, .inl (f_dload 2, 29)), (29, .inr (.inr (.inl (14, 32, 1, mX6_requireImpedance)))), (32, .inl (f_aload 0, 33)), (33, .inl (f_get 6 0, 36)), (36, .inl (f_get 4 0, 39)), (39, .inl (f_get 1 2, 42)), (42, .inl (f_ci (12), 44)), (44, .inr (.inl (b_icmp_lt, 57, 47))), (50, .inl (f_dup, 51)), (57, .inl (f_aload 0, 58)), (58, .inl (f_get 6 1, 61)), (61, .inl (f_aload 0, 62)), (62, .inl (f_get 6 0, 65)), (65, .inr (.inr (.inl (13, 68, 2, mX5_push)))), (68, .inl (f_aload 0, 69)), (69, .inl (f_get 6 0, 72)), (72, .inl (f_get 4 0, 75)), (75, .inl (f_iload 1, 76)), (76, .inl (f_dload 2, 77)), (77, .inr (.inr (.inl (13, 80, 3, mX1_append)))), (80, .inr (.inr (.inl (15, 81, 0, m0))))]
set_option maxRecDepth 10000 in
theorem kX6_addLine_0 {X : Ctx} (h : sCx X mX6_addLine) : tab X mX6_addLine tX6_addLine_0 :=
  tab_cons (eS (st_iloadn h rfl dX6_addLine_0)) (
  tab_cons (eS (st_iconst h (by decide +kernel) dX6_addLine_1)) (
  tab_cons (eS (st_aloadn h rfl dX6_addLine_2)) (
  tab_cons (eS (st_get h (ci := 6) (k := 0) rfl giX6 (by decide) rfl gw_171 dX6_addLine_3)) (
  tab_cons (eS (st_get h (ci := 4) (k := 0) rfl giX4 (by decide) rfl gw_177 dX6_addLine_6)) (
  tab_cons (eS (st_get h (ci := 1) (k := 2) rfl giX1 (by decide) rfl gw_180 dX6_addLine_9)) (
  tab_cons (eO (so_callS h gw_181 gw_182 gw_27 gw_183 ⟨by decide +kernel, by decide +kernel, by decide +kernel⟩ ⟨by decide +kernel, by decide +kernel⟩ dX6_addLine_12)) (
  tab_cons (eB (sb_if_ne h dX6_addLine_15 (by decide))) (
  tab_cons (eS (st_dup h dX6_addLine_21)) (
  tab_cons (eS (st_dloadn h rfl dX6_addLine_28)) (
  tab_cons (eO (so_callS h gw_167 gw_168 gw_27 gw_169 ⟨by decide +kernel, by decide +kernel, by decide +kernel⟩ ⟨by decide +kernel, by decide +kernel⟩ dX6_addLine_29)) (
  tab_cons (eS (st_aloadn h rfl dX6_addLine_32)) (
  tab_cons (eS (st_get h (ci := 6) (k := 0) rfl giX6 (by decide) rfl gw_171 dX6_addLine_33)) (
  tab_cons (eS (st_get h (ci := 4) (k := 0) rfl giX4 (by decide) rfl gw_177 dX6_addLine_36)) (
  tab_cons (eS (st_get h (ci := 1) (k := 2) rfl giX1 (by decide) rfl gw_180 dX6_addLine_39)) (
  tab_cons (eS (st_bipush h (by decide +kernel) dX6_addLine_42)) (
  tab_cons (eB (sb_icmp_lt h dX6_addLine_44 (by decide))) (
  tab_cons (eS (st_dup h dX6_addLine_50)) (
  tab_cons (eS (st_aloadn h rfl dX6_addLine_57)) (
  tab_cons (eS (st_get h (ci := 6) (k := 1) rfl giX6 (by decide) rfl gw_170 dX6_addLine_58)) (
  tab_cons (eS (st_aloadn h rfl dX6_addLine_61)) (
  tab_cons (eS (st_get h (ci := 6) (k := 0) rfl giX6 (by decide) rfl gw_171 dX6_addLine_62)) (
  tab_cons (eO (so_callV h gw_172 gw_173 gw_174 gw_175 gw_176 ⟨by decide +kernel, by decide +kernel, by decide +kernel, by decide +kernel⟩ ⟨by decide +kernel, by decide +kernel⟩ dX6_addLine_65)) (
  tab_cons (eS (st_aloadn h rfl dX6_addLine_68)) (
  tab_cons (eS (st_get h (ci := 6) (k := 0) rfl giX6 (by decide) rfl gw_171 dX6_addLine_69)) (
  tab_cons (eS (st_get h (ci := 4) (k := 0) rfl giX4 (by decide) rfl gw_177 dX6_addLine_72)) (
  tab_cons (eS (st_iloadn h rfl dX6_addLine_75)) (
  tab_cons (eS (st_dloadn h rfl dX6_addLine_76)) (
  tab_cons (eO (so_callV h gw_184 gw_185 gw_186 gw_53 gw_187 ⟨by decide +kernel, by decide +kernel, by decide +kernel, by decide +kernel⟩ ⟨by decide +kernel, by decide +kernel⟩ dX6_addLine_77)) (
  tab_cons (eO (so_ireturn h dX6_addLine_80)) (
  tab_nil))))))))))))))))))))))))))))))
def tX6_addLine : Tb := tX6_addLine_0
theorem kX6_addLine {X : Ctx} (h : sCx X mX6_addLine) : tab X mX6_addLine tX6_addLine := kX6_addLine_0 h
theorem dX6_setLoad_0 : decode cX6_setLoad 0 = .ok (.iload_n 1, 1) := by decide +kernel
theorem dX6_setLoad_1 : decode cX6_setLoad 1 = .ok (.iconst 1, 1) := by decide +kernel
theorem dX6_setLoad_2 : decode cX6_setLoad 2 = .ok (.aload_n 0, 1) := by decide +kernel
theorem dX6_setLoad_3 : decode cX6_setLoad 3 = .ok (.getfield 12, 3) := by decide +kernel
theorem dX6_setLoad_6 : decode cX6_setLoad 6 = .ok (.getfield 53, 3) := by decide +kernel
theorem dX6_setLoad_9 : decode cX6_setLoad 9 = .ok (.getfield 66, 3) := by decide +kernel
theorem dX6_setLoad_12 : decode cX6_setLoad 12 = .ok (.invokestatic 70, 3) := by decide +kernel
theorem dX6_setLoad_15 : decode cX6_setLoad 15 = .ok (.ifCond .ne 13, 3) := by decide +kernel
theorem dX6_setLoad_18 : decode cX6_setLoad 18 = .ok (.new 38, 3) := by decide +kernel
theorem dX6_setLoad_21 : decode cX6_setLoad 21 = .ok (.dup, 1) := by decide +kernel
theorem dX6_setLoad_22 : decode cX6_setLoad 22 = .ok (.ldc 84, 2) := by decide +kernel
theorem dX6_setLoad_24 : decode cX6_setLoad 24 = .ok (.invokespecial 42, 3) := by decide +kernel
theorem dX6_setLoad_27 : decode cX6_setLoad 27 = .ok (.athrow, 1) := by decide +kernel
theorem dX6_setLoad_28 : decode cX6_setLoad 28 = .ok (.iload_n 2, 1) := by decide +kernel
theorem dX6_setLoad_29 : decode cX6_setLoad 29 = .ok (.iconst 0, 1) := by decide +kernel
theorem dX6_setLoad_30 : decode cX6_setLoad 30 = .ok (.sipush 5000, 3) := by decide +kernel
theorem dX6_setLoad_33 : decode cX6_setLoad 33 = .ok (.invokestatic 70, 3) := by decide +kernel
theorem dX6_setLoad_36 : decode cX6_setLoad 36 = .ok (.ifCond .ne 13, 3) := by decide +kernel
theorem dX6_setLoad_39 : decode cX6_setLoad 39 = .ok (.new 38, 3) := by decide +kernel
theorem dX6_setLoad_42 : decode cX6_setLoad 42 = .ok (.dup, 1) := by decide +kernel
theorem dX6_setLoad_43 : decode cX6_setLoad 43 = .ok (.ldc 86, 2) := by decide +kernel
theorem dX6_setLoad_45 : decode cX6_setLoad 45 = .ok (.invokespecial 42, 3) := by decide +kernel
theorem dX6_setLoad_48 : decode cX6_setLoad 48 = .ok (.athrow, 1) := by decide +kernel
theorem dX6_setLoad_49 : decode cX6_setLoad 49 = .ok (.aload_n 0, 1) := by decide +kernel
theorem dX6_setLoad_50 : decode cX6_setLoad 50 = .ok (.getfield 19, 3) := by decide +kernel
theorem dX6_setLoad_53 : decode cX6_setLoad 53 = .ok (.aload_n 0, 1) := by decide +kernel
theorem dX6_setLoad_54 : decode cX6_setLoad 54 = .ok (.getfield 12, 3) := by decide +kernel
theorem dX6_setLoad_57 : decode cX6_setLoad 57 = .ok (.invokevirtual 49, 3) := by decide +kernel
theorem dX6_setLoad_60 : decode cX6_setLoad 60 = .ok (.aload_n 0, 1) := by decide +kernel
theorem dX6_setLoad_61 : decode cX6_setLoad 61 = .ok (.getfield 12, 3) := by decide +kernel
theorem dX6_setLoad_64 : decode cX6_setLoad 64 = .ok (.getfield 53, 3) := by decide +kernel
theorem dX6_setLoad_67 : decode cX6_setLoad 67 = .ok (.getfield 88, 3) := by decide +kernel
theorem dX6_setLoad_70 : decode cX6_setLoad 70 = .ok (.iload_n 1, 1) := by decide +kernel
theorem dX6_setLoad_71 : decode cX6_setLoad 71 = .ok (.iconst 1, 1) := by decide +kernel
theorem dX6_setLoad_72 : decode cX6_setLoad 72 = .ok (.isub, 1) := by decide +kernel
theorem dX6_setLoad_73 : decode cX6_setLoad 73 = .ok (.iaload, 1) := by decide +kernel
theorem dX6_setLoad_74 : decode cX6_setLoad 74 = .ok (.istore_n 3, 1) := by decide +kernel
theorem dX6_setLoad_75 : decode cX6_setLoad 75 = .ok (.aload_n 0, 1) := by decide +kernel
theorem dX6_setLoad_76 : decode cX6_setLoad 76 = .ok (.getfield 12, 3) := by decide +kernel
theorem dX6_setLoad_79 : decode cX6_setLoad 79 = .ok (.getfield 53, 3) := by decide +kernel
theorem dX6_setLoad_82 : decode cX6_setLoad 82 = .ok (.getfield 88, 3) := by decide +kernel
theorem dX6_setLoad_85 : decode cX6_setLoad 85 = .ok (.iload_n 1, 1) := by decide +kernel
theorem dX6_setLoad_86 : decode cX6_setLoad 86 = .ok (.iconst 1, 1) := by decide +kernel
theorem dX6_setLoad_87 : decode cX6_setLoad 87 = .ok (.isub, 1) := by decide +kernel
theorem dX6_setLoad_88 : decode cX6_setLoad 88 = .ok (.iload_n 2, 1) := by decide +kernel
theorem dX6_setLoad_89 : decode cX6_setLoad 89 = .ok (.iastore, 1) := by decide +kernel
theorem dX6_setLoad_90 : decode cX6_setLoad 90 = .ok (.iload_n 3, 1) := by decide +kernel
theorem dX6_setLoad_91 : decode cX6_setLoad 91 = .ok (.ireturn, 1) := by decide +kernel
def tX6_setLoad_0 : Tb := [(0, .inl (f_iload 1, 1)), (1, .inl (f_ci (1), 2)), (2, .inl (f_aload 0, 3)), (3, .inl (f_get 6 0, 6)), (6, .inl (f_get 4 0, 9)), (9, .inl (f_get 1 2, 12)), (12, .inr (.inr (.inl (14, 15, 3, mX6_within)))), (15, .inr (.inl (b_if_eq, 18, 28))), (21, .inl (f_dup, 22)), (28, .inl (f_iload 2, 29)), (29, .inl (f_ci (0), 30)), (30, .inl (f_ci (5000), 33)), (33, .inr (.inr (.inl (14, 36, 3, mX6_within)))), (36, .inr (.inl (b_if_eq, 39, 49))), (42, .inl (f_dup, 43)), (49, .inl (f_aload 0, 50)), (50, .inl (f_get 6 1, 53)), (53, .inl (f_aload 0, 54)), (54, .inl (f_get 6 0, 57)), (57, .inr (.inr (.inl (13, 60, 2, mX5_push)))), (60, .inl (f_aload 0, 61)), (61, .inl (f_get 6 0, 64)), (64, .inl (f_get 4 0, 67)), (67, .inl (f_get 1 6, 70)), (70, .inl (f_iload 1, 71)), (71, .inl (f_ci (1), 72)), (72, .inl (f_isub, 73)), (73, .inr (.inr (.inl (0, 74, 0, m0)))), (74, .inl (f_istore 4 3, 75)), (75, .inl (f_aload 0, 76))]
set_option maxRecDepth 10000 in
theorem kX6_setLoad_0 {X : Ctx} (h : sCx X mX6_setLoad) : tab X mX6_setLoad tX6_setLoad_0 :=
  tab_cons (eS (st_iloadn h rfl dX6_setLoad_0)) (
  tab_cons (eS (st_iconst h (by decide +kernel) dX6_setLoad_1)) (
  tab_cons (eS (st_aloadn h rfl dX6_setLoad_2)) (
  tab_cons (eS (st_get h (ci := 6) (k := 0) rfl giX6 (by decide) rfl gw_171 dX6_setLoad_3)) (
  tab_cons (eS (st_get h (ci := 4) (k := 0) rfl giX4 (by decide) rfl gw_177 dX6_setLoad_6)) (
  tab_cons (eS (st_get h (ci := 1) (k := 2) rfl giX1 (by decide) rfl gw_180 dX6_setLoad_9)) (
  tab_cons (eO (so_callS h gw_181 gw_182 gw_27 gw_183 ⟨by decide +kernel, by decide +kernel, by decide +kernel⟩ ⟨by decide +kernel, by decide +kernel⟩ dX6_setLoad_12)) (
  tab_cons (eB (sb_if_ne h dX6_setLoad_15 (by decide))) (
  tab_cons (eS (st_dup h dX6_setLoad_21)) (
  tab_cons (eS (st_iloadn h rfl dX6_setLoad_28)) (
  tab_cons (eS (st_iconst h (by decide +kernel) dX6_setLoad_29)) (
  tab_cons (eS (st_sipush h (by decide +kernel) dX6_setLoad_30)) (
  tab_cons (eO (so_callS h gw_181 gw_182 gw_27 gw_183 ⟨by decide +kernel, by decide +kernel, by decide +kernel⟩ ⟨by decide +kernel, by decide +kernel⟩ dX6_setLoad_33)) (
  tab_cons (eB (sb_if_ne h dX6_setLoad_36 (by decide))) (
  tab_cons (eS (st_dup h dX6_setLoad_42)) (
  tab_cons (eS (st_aloadn h rfl dX6_setLoad_49)) (
  tab_cons (eS (st_get h (ci := 6) (k := 1) rfl giX6 (by decide) rfl gw_170 dX6_setLoad_50)) (
  tab_cons (eS (st_aloadn h rfl dX6_setLoad_53)) (
  tab_cons (eS (st_get h (ci := 6) (k := 0) rfl giX6 (by decide) rfl gw_171 dX6_setLoad_54)) (
  tab_cons (eO (so_callV h gw_172 gw_173 gw_174 gw_175 gw_176 ⟨by decide +kernel, by decide +kernel, by decide +kernel, by decide +kernel⟩ ⟨by decide +kernel, by decide +kernel⟩ dX6_setLoad_57)) (
  tab_cons (eS (st_aloadn h rfl dX6_setLoad_60)) (
  tab_cons (eS (st_get h (ci := 6) (k := 0) rfl giX6 (by decide) rfl gw_171 dX6_setLoad_61)) (
  tab_cons (eS (st_get h (ci := 4) (k := 0) rfl giX4 (by decide) rfl gw_177 dX6_setLoad_64)) (
  tab_cons (eS (st_get h (ci := 1) (k := 6) rfl giX1 (by decide) rfl gw_188 dX6_setLoad_67)) (
  tab_cons (eS (st_iloadn h rfl dX6_setLoad_70)) (
  tab_cons (eS (st_iconst h (by decide +kernel) dX6_setLoad_71)) (
  tab_cons (eS (st_isub h dX6_setLoad_72)) (
  tab_cons (eO (so_iaload h dX6_setLoad_73)) (
  tab_cons (eS (st_istoren h rfl dX6_setLoad_74)) (
  tab_cons (eS (st_aloadn h rfl dX6_setLoad_75)) (
  tab_nil))))))))))))))))))))))))))))))
def tX6_setLoad_1 : Tb := [(76, .inl (f_get 6 0, 79)), (79, .inl (f_get 4 0, 82)), (82, .inl (f_get 1 6, 85)), (85, .inl (f_iload 1, 86)), (86, .inl (f_ci (1), 87)), (87, .inl (f_isub, 88)), (88, .inl (f_iload 2, 89)), (89, .inr (.inr (.inl (4, 90, 0, m0)))), (90, .inl (f_iload 3, 91)), (91, .inr (.inr (.inl (15, 92, 0, m0))))]
set_option maxRecDepth 10000 in
theorem kX6_setLoad_1 {X : Ctx} (h : sCx X mX6_setLoad) : tab X mX6_setLoad tX6_setLoad_1 :=
  tab_cons (eS (st_get h (ci := 6) (k := 0) rfl giX6 (by decide) rfl gw_171 dX6_setLoad_76)) (
  tab_cons (eS (st_get h (ci := 4) (k := 0) rfl giX4 (by decide) rfl gw_177 dX6_setLoad_79)) (
  tab_cons (eS (st_get h (ci := 1) (k := 6) rfl giX1 (by decide) rfl gw_188 dX6_setLoad_82)) (
  tab_cons (eS (st_iloadn h rfl dX6_setLoad_85)) (
  tab_cons (eS (st_iconst h (by decide +kernel) dX6_setLoad_86)) (
  tab_cons (eS (st_isub h dX6_setLoad_87)) (
  tab_cons (eS (st_iloadn h rfl dX6_setLoad_88)) (
  tab_cons (eO (so_iastore h dX6_setLoad_89)) (
  tab_cons (eS (st_iloadn h rfl dX6_setLoad_90)) (
  tab_cons (eO (so_ireturn h dX6_setLoad_91)) (
  tab_nil))))))))))
def tX6_setLoad : Tb := tX6_setLoad_0 ++ (tX6_setLoad_1)
theorem kX6_setLoad {X : Ctx} (h : sCx X mX6_setLoad) : tab X mX6_setLoad tX6_setLoad := tab_app (kX6_setLoad_0 h) (kX6_setLoad_1 h)
theorem dX6_loadCurrent_0 : decode cX6_loadCurrent 0 = .ok (.aload_n 0, 1) := by decide +kernel
theorem dX6_loadCurrent_1 : decode cX6_loadCurrent 1 = .ok (.iload_n 1, 1) := by decide +kernel
theorem dX6_loadCurrent_2 : decode cX6_loadCurrent 2 = .ok (.invokevirtual 92, 3) := by decide +kernel
theorem dX6_loadCurrent_5 : decode cX6_loadCurrent 5 = .ok (.aload_n 0, 1) := by decide +kernel
theorem dX6_loadCurrent_6 : decode cX6_loadCurrent 6 = .ok (.getfield 12, 3) := by decide +kernel
theorem dX6_loadCurrent_9 : decode cX6_loadCurrent 9 = .ok (.getfield 53, 3) := by decide +kernel
theorem dX6_loadCurrent_12 : decode cX6_loadCurrent 12 = .ok (.iconst 1, 1) := by decide +kernel
theorem dX6_loadCurrent_13 : decode cX6_loadCurrent 13 = .ok (.iload_n 1, 1) := by decide +kernel
theorem dX6_loadCurrent_14 : decode cX6_loadCurrent 14 = .ok (.ishl, 1) := by decide +kernel
theorem dX6_loadCurrent_15 : decode cX6_loadCurrent 15 = .ok (.invokevirtual 96, 3) := by decide +kernel
theorem dX6_loadCurrent_18 : decode cX6_loadCurrent 18 = .ok (.ireturn, 1) := by decide +kernel
def tX6_loadCurrent_0 : Tb := [(0, .inl (f_aload 0, 1)), (1, .inl (f_iload 1, 2)), (2, .inr (.inr (.inl (13, 5, 2, mX6_requireLine)))), (5, .inl (f_aload 0, 6)), (6, .inl (f_get 6 0, 9)), (9, .inl (f_get 4 0, 12)), (12, .inl (f_ci (1), 13)), (13, .inl (f_iload 1, 14)), (14, .inl (f_ishl, 15)), (15, .inr (.inr (.inl (13, 18, 2, mX1_loadOver)))), (18, .inr (.inr (.inl (15, 19, 0, m0))))]
set_option maxRecDepth 10000 in
theorem kX6_loadCurrent_0 {X : Ctx} (h : sCx X mX6_loadCurrent) : tab X mX6_loadCurrent tX6_loadCurrent_0 :=
  tab_cons (eS (st_aloadn h rfl dX6_loadCurrent_0)) (
  tab_cons (eS (st_iloadn h rfl dX6_loadCurrent_1)) (
  tab_cons (eO (so_callV h gw_189 gw_190 gw_191 gw_27 gw_192 ⟨by decide +kernel, by decide +kernel, by decide +kernel, by decide +kernel⟩ ⟨by decide +kernel, by decide +kernel⟩ dX6_loadCurrent_2)) (
  tab_cons (eS (st_aloadn h rfl dX6_loadCurrent_5)) (
  tab_cons (eS (st_get h (ci := 6) (k := 0) rfl giX6 (by decide) rfl gw_171 dX6_loadCurrent_6)) (
  tab_cons (eS (st_get h (ci := 4) (k := 0) rfl giX4 (by decide) rfl gw_177 dX6_loadCurrent_9)) (
  tab_cons (eS (st_iconst h (by decide +kernel) dX6_loadCurrent_12)) (
  tab_cons (eS (st_iloadn h rfl dX6_loadCurrent_13)) (
  tab_cons (eS (st_ishl h dX6_loadCurrent_14)) (
  tab_cons (eO (so_callV h gw_193 gw_194 gw_195 gw_53 gw_196 ⟨by decide +kernel, by decide +kernel, by decide +kernel, by decide +kernel⟩ ⟨by decide +kernel, by decide +kernel⟩ dX6_loadCurrent_15)) (
  tab_cons (eO (so_ireturn h dX6_loadCurrent_18)) (
  tab_nil)))))))))))
def tX6_loadCurrent : Tb := tX6_loadCurrent_0
theorem kX6_loadCurrent {X : Ctx} (h : sCx X mX6_loadCurrent) : tab X mX6_loadCurrent tX6_loadCurrent := kX6_loadCurrent_0 h
theorem dX6_faultCurrent_0 : decode cX6_faultCurrent 0 = .ok (.aload_n 0, 1) := by decide +kernel
theorem dX6_faultCurrent_1 : decode cX6_faultCurrent 1 = .ok (.iload_n 1, 1) := by decide +kernel
theorem dX6_faultCurrent_2 : decode cX6_faultCurrent 2 = .ok (.invokevirtual 92, 3) := by decide +kernel
theorem dX6_faultCurrent_5 : decode cX6_faultCurrent 5 = .ok (.iload_n 2, 1) := by decide +kernel
theorem dX6_faultCurrent_6 : decode cX6_faultCurrent 6 = .ok (.invokestatic 100, 3) := by decide +kernel
theorem dX6_faultCurrent_9 : decode cX6_faultCurrent 9 = .ok (.aload_n 0, 1) := by decide +kernel
theorem dX6_faultCurrent_10 : decode cX6_faultCurrent 10 = .ok (.getfield 12, 3) := by decide +kernel
theorem dX6_faultCurrent_13 : decode cX6_faultCurrent 13 = .ok (.getfield 53, 3) := by decide +kernel
theorem dX6_faultCurrent_16 : decode cX6_faultCurrent 16 = .ok (.iload_n 1, 1) := by decide +kernel
theorem dX6_faultCurrent_17 : decode cX6_faultCurrent 17 = .ok (.iload_n 2, 1) := by decide +kernel
theorem dX6_faultCurrent_18 : decode cX6_faultCurrent 18 = .ok (.invokevirtual 103, 3) := by decide +kernel
theorem dX6_faultCurrent_21 : decode cX6_faultCurrent 21 = .ok (.dreturn, 1) := by decide +kernel
def tX6_faultCurrent_0 : Tb := [(0, .inl (f_aload 0, 1)), (1, .inl (f_iload 1, 2)), (2, .inr (.inr (.inl (13, 5, 2, mX6_requireLine)))), (5, .inl (f_iload 2, 6)), (6, .inr (.inr (.inl (14, 9, 1, mX6_requirePlace)))), (9, .inl (f_aload 0, 10)), (10, .inl (f_get 6 0, 13)), (13, .inl (f_get 4 0, 16)), (16, .inl (f_iload 1, 17)), (17, .inl (f_iload 2, 18)), (18, .inr (.inr (.inl (13, 21, 3, mX1_currentAt)))), (21, .inr (.inr (.inl (16, 22, 0, m0))))]
set_option maxRecDepth 10000 in
theorem kX6_faultCurrent_0 {X : Ctx} (h : sCx X mX6_faultCurrent) : tab X mX6_faultCurrent tX6_faultCurrent_0 :=
  tab_cons (eS (st_aloadn h rfl dX6_faultCurrent_0)) (
  tab_cons (eS (st_iloadn h rfl dX6_faultCurrent_1)) (
  tab_cons (eO (so_callV h gw_189 gw_190 gw_191 gw_27 gw_192 ⟨by decide +kernel, by decide +kernel, by decide +kernel, by decide +kernel⟩ ⟨by decide +kernel, by decide +kernel⟩ dX6_faultCurrent_2)) (
  tab_cons (eS (st_iloadn h rfl dX6_faultCurrent_5)) (
  tab_cons (eO (so_callS h gw_197 gw_198 gw_27 gw_199 ⟨by decide +kernel, by decide +kernel, by decide +kernel⟩ ⟨by decide +kernel, by decide +kernel⟩ dX6_faultCurrent_6)) (
  tab_cons (eS (st_aloadn h rfl dX6_faultCurrent_9)) (
  tab_cons (eS (st_get h (ci := 6) (k := 0) rfl giX6 (by decide) rfl gw_171 dX6_faultCurrent_10)) (
  tab_cons (eS (st_get h (ci := 4) (k := 0) rfl giX4 (by decide) rfl gw_177 dX6_faultCurrent_13)) (
  tab_cons (eS (st_iloadn h rfl dX6_faultCurrent_16)) (
  tab_cons (eS (st_iloadn h rfl dX6_faultCurrent_17)) (
  tab_cons (eO (so_callV h gw_200 gw_51 gw_52 gw_53 gw_54 ⟨by decide +kernel, by decide +kernel, by decide +kernel, by decide +kernel⟩ ⟨by decide +kernel, by decide +kernel⟩ dX6_faultCurrent_18)) (
  tab_cons (eO (so_dreturn h dX6_faultCurrent_21)) (
  tab_nil))))))))))))
def tX6_faultCurrent : Tb := tX6_faultCurrent_0
theorem kX6_faultCurrent {X : Ctx} (h : sCx X mX6_faultCurrent) : tab X mX6_faultCurrent tX6_faultCurrent := kX6_faultCurrent_0 h
theorem dX6_setRelay_0 : decode cX6_setRelay 0 = .ok (.aload_n 0, 1) := by decide +kernel
theorem dX6_setRelay_1 : decode cX6_setRelay 1 = .ok (.iload_n 1, 1) := by decide +kernel
theorem dX6_setRelay_2 : decode cX6_setRelay 2 = .ok (.invokevirtual 92, 3) := by decide +kernel
theorem dX6_setRelay_5 : decode cX6_setRelay 5 = .ok (.iload_n 2, 1) := by decide +kernel
theorem dX6_setRelay_6 : decode cX6_setRelay 6 = .ok (.iconst 1, 1) := by decide +kernel
theorem dX6_setRelay_7 : decode cX6_setRelay 7 = .ok (.sipush 20000, 3) := by decide +kernel
theorem dX6_setRelay_10 : decode cX6_setRelay 10 = .ok (.invokestatic 70, 3) := by decide +kernel
theorem dX6_setRelay_13 : decode cX6_setRelay 13 = .ok (.ifCond .ne 13, 3) := by decide +kernel
theorem dX6_setRelay_16 : decode cX6_setRelay 16 = .ok (.new 38, 3) := by decide +kernel
theorem dX6_setRelay_19 : decode cX6_setRelay 19 = .ok (.dup, 1) := by decide +kernel
theorem dX6_setRelay_20 : decode cX6_setRelay 20 = .ok (.ldc 107, 2) := by decide +kernel
theorem dX6_setRelay_22 : decode cX6_setRelay 22 = .ok (.invokespecial 42, 3) := by decide +kernel
theorem dX6_setRelay_25 : decode cX6_setRelay 25 = .ok (.athrow, 1) := by decide +kernel
theorem dX6_setRelay_26 : decode cX6_setRelay 26 = .ok (.iload_n 3, 1) := by decide +kernel
theorem dX6_setRelay_27 : decode cX6_setRelay 27 = .ok (.iconst 0, 1) := by decide +kernel
theorem dX6_setRelay_28 : decode cX6_setRelay 28 = .ok (.iconst 3, 1) := by decide +kernel
theorem dX6_setRelay_29 : decode cX6_setRelay 29 = .ok (.invokestatic 70, 3) := by decide +kernel
theorem dX6_setRelay_32 : decode cX6_setRelay 32 = .ok (.ifCond .ne 13, 3) := by decide +kernel
theorem dX6_setRelay_35 : decode cX6_setRelay 35 = .ok (.new 38, 3) := by decide +kernel
theorem dX6_setRelay_38 : decode cX6_setRelay 38 = .ok (.dup, 1) := by decide +kernel
theorem dX6_setRelay_39 : decode cX6_setRelay 39 = .ok (.ldc 109, 2) := by decide +kernel
theorem dX6_setRelay_41 : decode cX6_setRelay 41 = .ok (.invokespecial 42, 3) := by decide +kernel
theorem dX6_setRelay_44 : decode cX6_setRelay 44 = .ok (.athrow, 1) := by decide +kernel
theorem dX6_setRelay_45 : decode cX6_setRelay 45 = .ok (.iload 4, 2) := by decide +kernel
theorem dX6_setRelay_47 : decode cX6_setRelay 47 = .ok (.iconst 1, 1) := by decide +kernel
theorem dX6_setRelay_48 : decode cX6_setRelay 48 = .ok (.bipush 20, 2) := by decide +kernel
theorem dX6_setRelay_50 : decode cX6_setRelay 50 = .ok (.invokestatic 70, 3) := by decide +kernel
theorem dX6_setRelay_53 : decode cX6_setRelay 53 = .ok (.ifCond .ne 13, 3) := by decide +kernel
theorem dX6_setRelay_56 : decode cX6_setRelay 56 = .ok (.new 38, 3) := by decide +kernel
theorem dX6_setRelay_59 : decode cX6_setRelay 59 = .ok (.dup, 1) := by decide +kernel
theorem dX6_setRelay_60 : decode cX6_setRelay 60 = .ok (.ldc 111, 2) := by decide +kernel
theorem dX6_setRelay_62 : decode cX6_setRelay 62 = .ok (.invokespecial 42, 3) := by decide +kernel
theorem dX6_setRelay_65 : decode cX6_setRelay 65 = .ok (.athrow, 1) := by decide +kernel
theorem dX6_setRelay_66 : decode cX6_setRelay 66 = .ok (.aload_n 0, 1) := by decide +kernel
theorem dX6_setRelay_67 : decode cX6_setRelay 67 = .ok (.getfield 19, 3) := by decide +kernel
theorem dX6_setRelay_70 : decode cX6_setRelay 70 = .ok (.aload_n 0, 1) := by decide +kernel
theorem dX6_setRelay_71 : decode cX6_setRelay 71 = .ok (.getfield 12, 3) := by decide +kernel
theorem dX6_setRelay_74 : decode cX6_setRelay 74 = .ok (.invokevirtual 49, 3) := by decide +kernel
theorem dX6_setRelay_77 : decode cX6_setRelay 77 = .ok (.aload_n 0, 1) := by decide +kernel
theorem dX6_setRelay_78 : decode cX6_setRelay 78 = .ok (.getfield 12, 3) := by decide +kernel
theorem dX6_setRelay_81 : decode cX6_setRelay 81 = .ok (.getfield 113, 3) := by decide +kernel
theorem dX6_setRelay_84 : decode cX6_setRelay 84 = .ok (.astore 5, 2) := by decide +kernel
theorem dX6_setRelay_86 : decode cX6_setRelay 86 = .ok (.aload 5, 2) := by decide +kernel
theorem dX6_setRelay_88 : decode cX6_setRelay 88 = .ok (.getfield 117, 3) := by decide +kernel
theorem dX6_setRelay_91 : decode cX6_setRelay 91 = .ok (.iload_n 1, 1) := by decide +kernel
theorem dX6_setRelay_92 : decode cX6_setRelay 92 = .ok (.iaload, 1) := by decide +kernel
theorem dX6_setRelay_93 : decode cX6_setRelay 93 = .ok (.istore 6, 2) := by decide +kernel
theorem dX6_setRelay_95 : decode cX6_setRelay 95 = .ok (.aload 5, 2) := by decide +kernel
theorem dX6_setRelay_97 : decode cX6_setRelay 97 = .ok (.getfield 117, 3) := by decide +kernel
theorem dX6_setRelay_100 : decode cX6_setRelay 100 = .ok (.iload_n 1, 1) := by decide +kernel
theorem dX6_setRelay_101 : decode cX6_setRelay 101 = .ok (.iload_n 2, 1) := by decide +kernel
theorem dX6_setRelay_102 : decode cX6_setRelay 102 = .ok (.iastore, 1) := by decide +kernel
theorem dX6_setRelay_103 : decode cX6_setRelay 103 = .ok (.aload 5, 2) := by decide +kernel
theorem dX6_setRelay_105 : decode cX6_setRelay 105 = .ok (.getfield 122, 3) := by decide +kernel
theorem dX6_setRelay_108 : decode cX6_setRelay 108 = .ok (.iload_n 1, 1) := by decide +kernel
theorem dX6_setRelay_109 : decode cX6_setRelay 109 = .ok (.iload_n 3, 1) := by decide +kernel
theorem dX6_setRelay_110 : decode cX6_setRelay 110 = .ok (.iastore, 1) := by decide +kernel
theorem dX6_setRelay_111 : decode cX6_setRelay 111 = .ok (.aload 5, 2) := by decide +kernel
theorem dX6_setRelay_113 : decode cX6_setRelay 113 = .ok (.getfield 125, 3) := by decide +kernel
theorem dX6_setRelay_116 : decode cX6_setRelay 116 = .ok (.iload_n 1, 1) := by decide +kernel
theorem dX6_setRelay_117 : decode cX6_setRelay 117 = .ok (.iload 4, 2) := by decide +kernel
theorem dX6_setRelay_119 : decode cX6_setRelay 119 = .ok (.iastore, 1) := by decide +kernel
theorem dX6_setRelay_120 : decode cX6_setRelay 120 = .ok (.iload 6, 2) := by decide +kernel
theorem dX6_setRelay_122 : decode cX6_setRelay 122 = .ok (.ireturn, 1) := by decide +kernel
def tX6_setRelay_0 : Tb := [(0, .inl (f_aload 0, 1)), (1, .inl (f_iload 1, 2)), (2, .inr (.inr (.inl (13, 5, 2, mX6_requireLine)))), (5, .inl (f_iload 2, 6)), (6, .inl (f_ci (1), 7)), (7, .inl (f_ci (20000), 10)), (10, .inr (.inr (.inl (14, 13, 3, mX6_within)))), (13, .inr (.inl (b_if_eq, 16, 26))), (19, .inl (f_dup, 20)), (26, .inl (f_iload 3, 27)), (27, .inl (f_ci (0), 28)), (28, .inl (f_ci (3), 29)), (29, .inr (.inr (.inl (14, 32, 3, mX6_within)))), (32, .inr (.inl (b_if_eq, 35, 45))), (38, .inl (f_dup, 39)), (45, .inl (f_iload 4, 47)), (47, .inl (f_ci (1), 48)), (48, .inl (f_ci (20), 50)), (50, .inr (.inr (.inl (14, 53, 3, mX6_within)))), (53, .inr (.inl (b_if_eq, 56, 66))), (59, .inl (f_dup, 60)), (66, .inl (f_aload 0, 67)), (67, .inl (f_get 6 1, 70)), (70, .inl (f_aload 0, 71)), (71, .inl (f_get 6 0, 74)), (74, .inr (.inr (.inl (13, 77, 2, mX5_push)))), (77, .inl (f_aload 0, 78)), (78, .inl (f_get 6 0, 81)), (81, .inl (f_get 4 1, 84)), (84, .inl (f_astore 7 5, 86))]
set_option maxRecDepth 10000 in
theorem kX6_setRelay_0 {X : Ctx} (h : sCx X mX6_setRelay) : tab X mX6_setRelay tX6_setRelay_0 :=
  tab_cons (eS (st_aloadn h rfl dX6_setRelay_0)) (
  tab_cons (eS (st_iloadn h rfl dX6_setRelay_1)) (
  tab_cons (eO (so_callV h gw_189 gw_190 gw_191 gw_27 gw_192 ⟨by decide +kernel, by decide +kernel, by decide +kernel, by decide +kernel⟩ ⟨by decide +kernel, by decide +kernel⟩ dX6_setRelay_2)) (
  tab_cons (eS (st_iloadn h rfl dX6_setRelay_5)) (
  tab_cons (eS (st_iconst h (by decide +kernel) dX6_setRelay_6)) (
  tab_cons (eS (st_sipush h (by decide +kernel) dX6_setRelay_7)) (
  tab_cons (eO (so_callS h gw_181 gw_182 gw_27 gw_183 ⟨by decide +kernel, by decide +kernel, by decide +kernel⟩ ⟨by decide +kernel, by decide +kernel⟩ dX6_setRelay_10)) (
  tab_cons (eB (sb_if_ne h dX6_setRelay_13 (by decide))) (
  tab_cons (eS (st_dup h dX6_setRelay_19)) (
  tab_cons (eS (st_iloadn h rfl dX6_setRelay_26)) (
  tab_cons (eS (st_iconst h (by decide +kernel) dX6_setRelay_27)) (
  tab_cons (eS (st_iconst h (by decide +kernel) dX6_setRelay_28)) (
  tab_cons (eO (so_callS h gw_181 gw_182 gw_27 gw_183 ⟨by decide +kernel, by decide +kernel, by decide +kernel⟩ ⟨by decide +kernel, by decide +kernel⟩ dX6_setRelay_29)) (
  tab_cons (eB (sb_if_ne h dX6_setRelay_32 (by decide))) (
  tab_cons (eS (st_dup h dX6_setRelay_38)) (
  tab_cons (eS (st_iload h dX6_setRelay_45)) (
  tab_cons (eS (st_iconst h (by decide +kernel) dX6_setRelay_47)) (
  tab_cons (eS (st_bipush h (by decide +kernel) dX6_setRelay_48)) (
  tab_cons (eO (so_callS h gw_181 gw_182 gw_27 gw_183 ⟨by decide +kernel, by decide +kernel, by decide +kernel⟩ ⟨by decide +kernel, by decide +kernel⟩ dX6_setRelay_50)) (
  tab_cons (eB (sb_if_ne h dX6_setRelay_53 (by decide))) (
  tab_cons (eS (st_dup h dX6_setRelay_59)) (
  tab_cons (eS (st_aloadn h rfl dX6_setRelay_66)) (
  tab_cons (eS (st_get h (ci := 6) (k := 1) rfl giX6 (by decide) rfl gw_170 dX6_setRelay_67)) (
  tab_cons (eS (st_aloadn h rfl dX6_setRelay_70)) (
  tab_cons (eS (st_get h (ci := 6) (k := 0) rfl giX6 (by decide) rfl gw_171 dX6_setRelay_71)) (
  tab_cons (eO (so_callV h gw_172 gw_173 gw_174 gw_175 gw_176 ⟨by decide +kernel, by decide +kernel, by decide +kernel, by decide +kernel⟩ ⟨by decide +kernel, by decide +kernel⟩ dX6_setRelay_74)) (
  tab_cons (eS (st_aloadn h rfl dX6_setRelay_77)) (
  tab_cons (eS (st_get h (ci := 6) (k := 0) rfl giX6 (by decide) rfl gw_171 dX6_setRelay_78)) (
  tab_cons (eS (st_get h (ci := 4) (k := 1) rfl giX4 (by decide) rfl gw_201 dX6_setRelay_81)) (
  tab_cons (eS (st_astore h dX6_setRelay_84)) (
  tab_nil))))))))))))))))))))))))))))))
def tX6_setRelay_1 : Tb := [(86, .inl (f_aload 5, 88)), (88, .inl (f_get 2 0, 91)), (91, .inl (f_iload 1, 92)), (92, .inr (.inr (.inl (0, 93, 0, m0)))), (93, .inl (f_istore 7 6, 95)), (95, .inl (f_aload 5, 97)), (97, .inl (f_get 2 0, 100)), (100, .inl (f_iload 1, 101)), (101, .inl (f_iload 2, 102)), (102, .inr (.inr (.inl (4, 103, 0, m0)))), (103, .inl (f_aload 5, 105)), (105, .inl (f_get 2 1, 108)), (108, .inl (f_iload 1, 109)), (109, .inl (f_iload 3, 110)), (110, .inr (.inr (.inl (4, 111, 0, m0)))), (111, .inl (f_aload 5, 113)), (113, .inl (f_get 2 2, 116)), (116, .inl (f_iload 1, 117)), (117, .inl (f_iload 4, 119)), (119, .inr (.inr (.inl (4, 120, 0, m0)))), (120, .inl (f_iload 6, 122)), (122, .inr (.inr (.inl (15, 123, 0, m0))))]
set_option maxRecDepth 10000 in
theorem kX6_setRelay_1 {X : Ctx} (h : sCx X mX6_setRelay) : tab X mX6_setRelay tX6_setRelay_1 :=
  tab_cons (eS (st_aload h dX6_setRelay_86)) (
  tab_cons (eS (st_get h (ci := 2) (k := 0) rfl giX2 (by decide) rfl gw_202 dX6_setRelay_88)) (
  tab_cons (eS (st_iloadn h rfl dX6_setRelay_91)) (
  tab_cons (eO (so_iaload h dX6_setRelay_92)) (
  tab_cons (eS (st_istore h dX6_setRelay_93)) (
  tab_cons (eS (st_aload h dX6_setRelay_95)) (
  tab_cons (eS (st_get h (ci := 2) (k := 0) rfl giX2 (by decide) rfl gw_202 dX6_setRelay_97)) (
  tab_cons (eS (st_iloadn h rfl dX6_setRelay_100)) (
  tab_cons (eS (st_iloadn h rfl dX6_setRelay_101)) (
  tab_cons (eO (so_iastore h dX6_setRelay_102)) (
  tab_cons (eS (st_aload h dX6_setRelay_103)) (
  tab_cons (eS (st_get h (ci := 2) (k := 1) rfl giX2 (by decide) rfl gw_203 dX6_setRelay_105)) (
  tab_cons (eS (st_iloadn h rfl dX6_setRelay_108)) (
  tab_cons (eS (st_iloadn h rfl dX6_setRelay_109)) (
  tab_cons (eO (so_iastore h dX6_setRelay_110)) (
  tab_cons (eS (st_aload h dX6_setRelay_111)) (
  tab_cons (eS (st_get h (ci := 2) (k := 2) rfl giX2 (by decide) rfl gw_204 dX6_setRelay_113)) (
  tab_cons (eS (st_iloadn h rfl dX6_setRelay_116)) (
  tab_cons (eS (st_iload h dX6_setRelay_117)) (
  tab_cons (eO (so_iastore h dX6_setRelay_119)) (
  tab_cons (eS (st_iload h dX6_setRelay_120)) (
  tab_cons (eO (so_ireturn h dX6_setRelay_122)) (
  tab_nil))))))))))))))))))))))
def tX6_setRelay : Tb := tX6_setRelay_0 ++ (tX6_setRelay_1)
theorem kX6_setRelay {X : Ctx} (h : sCx X mX6_setRelay) : tab X mX6_setRelay tX6_setRelay := tab_app (kX6_setRelay_0 h) (kX6_setRelay_1 h)
theorem dX6_setInstantaneous_0 : decode cX6_setInstantaneous 0 = .ok (.aload_n 0, 1) := by decide +kernel
theorem dX6_setInstantaneous_1 : decode cX6_setInstantaneous 1 = .ok (.iload_n 1, 1) := by decide +kernel
theorem dX6_setInstantaneous_2 : decode cX6_setInstantaneous 2 = .ok (.invokevirtual 92, 3) := by decide +kernel
theorem dX6_setInstantaneous_5 : decode cX6_setInstantaneous 5 = .ok (.iload_n 2, 1) := by decide +kernel
theorem dX6_setInstantaneous_6 : decode cX6_setInstantaneous 6 = .ok (.iconst 0, 1) := by decide +kernel
theorem dX6_setInstantaneous_7 : decode cX6_setInstantaneous 7 = .ok (.ldc 128, 2) := by decide +kernel
theorem dX6_setInstantaneous_9 : decode cX6_setInstantaneous 9 = .ok (.invokestatic 70, 3) := by decide +kernel
theorem dX6_setInstantaneous_12 : decode cX6_setInstantaneous 12 = .ok (.ifCond .ne 13, 3) := by decide +kernel
theorem dX6_setInstantaneous_15 : decode cX6_setInstantaneous 15 = .ok (.new 38, 3) := by decide +kernel
theorem dX6_setInstantaneous_18 : decode cX6_setInstantaneous 18 = .ok (.dup, 1) := by decide +kernel
theorem dX6_setInstantaneous_19 : decode cX6_setInstantaneous 19 = .ok (.ldc 129, 2) := by decide +kernel
theorem dX6_setInstantaneous_21 : decode cX6_setInstantaneous 21 = .ok (.invokespecial 42, 3) := by decide +kernel
theorem dX6_setInstantaneous_24 : decode cX6_setInstantaneous 24 = .ok (.athrow, 1) := by decide +kernel
theorem dX6_setInstantaneous_25 : decode cX6_setInstantaneous 25 = .ok (.aload_n 0, 1) := by decide +kernel
theorem dX6_setInstantaneous_26 : decode cX6_setInstantaneous 26 = .ok (.getfield 19, 3) := by decide +kernel
theorem dX6_setInstantaneous_29 : decode cX6_setInstantaneous 29 = .ok (.aload_n 0, 1) := by decide +kernel
theorem dX6_setInstantaneous_30 : decode cX6_setInstantaneous 30 = .ok (.getfield 12, 3) := by decide +kernel
theorem dX6_setInstantaneous_33 : decode cX6_setInstantaneous 33 = .ok (.invokevirtual 49, 3) := by decide +kernel
theorem dX6_setInstantaneous_36 : decode cX6_setInstantaneous 36 = .ok (.aload_n 0, 1) := by decide +kernel
theorem dX6_setInstantaneous_37 : decode cX6_setInstantaneous 37 = .ok (.getfield 12, 3) := by decide +kernel
theorem dX6_setInstantaneous_40 : decode cX6_setInstantaneous 40 = .ok (.getfield 113, 3) := by decide +kernel
theorem dX6_setInstantaneous_43 : decode cX6_setInstantaneous 43 = .ok (.getfield 131, 3) := by decide +kernel
theorem dX6_setInstantaneous_46 : decode cX6_setInstantaneous 46 = .ok (.iload_n 1, 1) := by decide +kernel
theorem dX6_setInstantaneous_47 : decode cX6_setInstantaneous 47 = .ok (.iaload, 1) := by decide +kernel
theorem dX6_setInstantaneous_48 : decode cX6_setInstantaneous 48 = .ok (.istore_n 3, 1) := by decide +kernel
theorem dX6_setInstantaneous_49 : decode cX6_setInstantaneous 49 = .ok (.aload_n 0, 1) := by decide +kernel
theorem dX6_setInstantaneous_50 : decode cX6_setInstantaneous 50 = .ok (.getfield 12, 3) := by decide +kernel
theorem dX6_setInstantaneous_53 : decode cX6_setInstantaneous 53 = .ok (.getfield 113, 3) := by decide +kernel
theorem dX6_setInstantaneous_56 : decode cX6_setInstantaneous 56 = .ok (.getfield 131, 3) := by decide +kernel
theorem dX6_setInstantaneous_59 : decode cX6_setInstantaneous 59 = .ok (.iload_n 1, 1) := by decide +kernel
theorem dX6_setInstantaneous_60 : decode cX6_setInstantaneous 60 = .ok (.iload_n 2, 1) := by decide +kernel
theorem dX6_setInstantaneous_61 : decode cX6_setInstantaneous 61 = .ok (.iastore, 1) := by decide +kernel
theorem dX6_setInstantaneous_62 : decode cX6_setInstantaneous 62 = .ok (.iload_n 3, 1) := by decide +kernel
theorem dX6_setInstantaneous_63 : decode cX6_setInstantaneous 63 = .ok (.ireturn, 1) := by decide +kernel
def tX6_setInstantaneous_0 : Tb := [(0, .inl (f_aload 0, 1)), (1, .inl (f_iload 1, 2)), (2, .inr (.inr (.inl (13, 5, 2, mX6_requireLine)))), (5, .inl (f_iload 2, 6)), (6, .inl (f_ci (0), 7)), (7, .inl (f_ci (100000), 9)), (9, .inr (.inr (.inl (14, 12, 3, mX6_within)))), (12, .inr (.inl (b_if_eq, 15, 25))), (18, .inl (f_dup, 19)), (25, .inl (f_aload 0, 26)), (26, .inl (f_get 6 1, 29)), (29, .inl (f_aload 0, 30)), (30, .inl (f_get 6 0, 33)), (33, .inr (.inr (.inl (13, 36, 2, mX5_push)))), (36, .inl (f_aload 0, 37)), (37, .inl (f_get 6 0, 40)), (40, .inl (f_get 4 1, 43)), (43, .inl (f_get 2 3, 46)), (46, .inl (f_iload 1, 47)), (47, .inr (.inr (.inl (0, 48, 0, m0)))), (48, .inl (f_istore 4 3, 49)), (49, .inl (f_aload 0, 50)), (50, .inl (f_get 6 0, 53)), (53, .inl (f_get 4 1, 56)), (56, .inl (f_get 2 3, 59)), (59, .inl (f_iload 1, 60)), (60, .inl (f_iload 2, 61)), (61, .inr (.inr (.inl (4, 62, 0, m0)))), (62, .inl (f_iload 3, 63)), (63, .inr (.inr (.inl (15, 64, 0, m0))))]
set_option maxRecDepth 10000 in
theorem kX6_setInstantaneous_0 {X : Ctx} (h : sCx X mX6_setInstantaneous) : tab X mX6_setInstantaneous tX6_setInstantaneous_0 :=
  tab_cons (eS (st_aloadn h rfl dX6_setInstantaneous_0)) (
  tab_cons (eS (st_iloadn h rfl dX6_setInstantaneous_1)) (
  tab_cons (eO (so_callV h gw_189 gw_190 gw_191 gw_27 gw_192 ⟨by decide +kernel, by decide +kernel, by decide +kernel, by decide +kernel⟩ ⟨by decide +kernel, by decide +kernel⟩ dX6_setInstantaneous_2)) (
  tab_cons (eS (st_iloadn h rfl dX6_setInstantaneous_5)) (
  tab_cons (eS (st_iconst h (by decide +kernel) dX6_setInstantaneous_6)) (
  tab_cons (eS (st_ldc h gw_205 dX6_setInstantaneous_7)) (
  tab_cons (eO (so_callS h gw_181 gw_182 gw_27 gw_183 ⟨by decide +kernel, by decide +kernel, by decide +kernel⟩ ⟨by decide +kernel, by decide +kernel⟩ dX6_setInstantaneous_9)) (
  tab_cons (eB (sb_if_ne h dX6_setInstantaneous_12 (by decide))) (
  tab_cons (eS (st_dup h dX6_setInstantaneous_18)) (
  tab_cons (eS (st_aloadn h rfl dX6_setInstantaneous_25)) (
  tab_cons (eS (st_get h (ci := 6) (k := 1) rfl giX6 (by decide) rfl gw_170 dX6_setInstantaneous_26)) (
  tab_cons (eS (st_aloadn h rfl dX6_setInstantaneous_29)) (
  tab_cons (eS (st_get h (ci := 6) (k := 0) rfl giX6 (by decide) rfl gw_171 dX6_setInstantaneous_30)) (
  tab_cons (eO (so_callV h gw_172 gw_173 gw_174 gw_175 gw_176 ⟨by decide +kernel, by decide +kernel, by decide +kernel, by decide +kernel⟩ ⟨by decide +kernel, by decide +kernel⟩ dX6_setInstantaneous_33)) (
  tab_cons (eS (st_aloadn h rfl dX6_setInstantaneous_36)) (
  tab_cons (eS (st_get h (ci := 6) (k := 0) rfl giX6 (by decide) rfl gw_171 dX6_setInstantaneous_37)) (
  tab_cons (eS (st_get h (ci := 4) (k := 1) rfl giX4 (by decide) rfl gw_201 dX6_setInstantaneous_40)) (
  tab_cons (eS (st_get h (ci := 2) (k := 3) rfl giX2 (by decide) rfl gw_206 dX6_setInstantaneous_43)) (
  tab_cons (eS (st_iloadn h rfl dX6_setInstantaneous_46)) (
  tab_cons (eO (so_iaload h dX6_setInstantaneous_47)) (
  tab_cons (eS (st_istoren h rfl dX6_setInstantaneous_48)) (
  tab_cons (eS (st_aloadn h rfl dX6_setInstantaneous_49)) (
  tab_cons (eS (st_get h (ci := 6) (k := 0) rfl giX6 (by decide) rfl gw_171 dX6_setInstantaneous_50)) (
  tab_cons (eS (st_get h (ci := 4) (k := 1) rfl giX4 (by decide) rfl gw_201 dX6_setInstantaneous_53)) (
  tab_cons (eS (st_get h (ci := 2) (k := 3) rfl giX2 (by decide) rfl gw_206 dX6_setInstantaneous_56)) (
  tab_cons (eS (st_iloadn h rfl dX6_setInstantaneous_59)) (
  tab_cons (eS (st_iloadn h rfl dX6_setInstantaneous_60)) (
  tab_cons (eO (so_iastore h dX6_setInstantaneous_61)) (
  tab_cons (eS (st_iloadn h rfl dX6_setInstantaneous_62)) (
  tab_cons (eO (so_ireturn h dX6_setInstantaneous_63)) (
  tab_nil))))))))))))))))))))))))))))))
def tX6_setInstantaneous : Tb := tX6_setInstantaneous_0
theorem kX6_setInstantaneous {X : Ctx} (h : sCx X mX6_setInstantaneous) : tab X mX6_setInstantaneous tX6_setInstantaneous := kX6_setInstantaneous_0 h
theorem dX6_setShots_0 : decode cX6_setShots 0 = .ok (.aload_n 0, 1) := by decide +kernel
theorem dX6_setShots_1 : decode cX6_setShots 1 = .ok (.iload_n 1, 1) := by decide +kernel
theorem dX6_setShots_2 : decode cX6_setShots 2 = .ok (.invokevirtual 92, 3) := by decide +kernel
theorem dX6_setShots_5 : decode cX6_setShots 5 = .ok (.iload_n 2, 1) := by decide +kernel
theorem dX6_setShots_6 : decode cX6_setShots 6 = .ok (.iconst 0, 1) := by decide +kernel
theorem dX6_setShots_7 : decode cX6_setShots 7 = .ok (.iconst 3, 1) := by decide +kernel
theorem dX6_setShots_8 : decode cX6_setShots 8 = .ok (.invokestatic 70, 3) := by decide +kernel
theorem dX6_setShots_11 : decode cX6_setShots 11 = .ok (.ifCond .ne 13, 3) := by decide +kernel
theorem dX6_setShots_14 : decode cX6_setShots 14 = .ok (.new 38, 3) := by decide +kernel
theorem dX6_setShots_17 : decode cX6_setShots 17 = .ok (.dup, 1) := by decide +kernel
theorem dX6_setShots_18 : decode cX6_setShots 18 = .ok (.ldc 134, 2) := by decide +kernel
theorem dX6_setShots_20 : decode cX6_setShots 20 = .ok (.invokespecial 42, 3) := by decide +kernel
theorem dX6_setShots_23 : decode cX6_setShots 23 = .ok (.athrow, 1) := by decide +kernel
theorem dX6_setShots_24 : decode cX6_setShots 24 = .ok (.aload_n 0, 1) := by decide +kernel
theorem dX6_setShots_25 : decode cX6_setShots 25 = .ok (.getfield 19, 3) := by decide +kernel
theorem dX6_setShots_28 : decode cX6_setShots 28 = .ok (.aload_n 0, 1) := by decide +kernel
theorem dX6_setShots_29 : decode cX6_setShots 29 = .ok (.getfield 12, 3) := by decide +kernel
theorem dX6_setShots_32 : decode cX6_setShots 32 = .ok (.invokevirtual 49, 3) := by decide +kernel
theorem dX6_setShots_35 : decode cX6_setShots 35 = .ok (.aload_n 0, 1) := by decide +kernel
theorem dX6_setShots_36 : decode cX6_setShots 36 = .ok (.getfield 12, 3) := by decide +kernel
theorem dX6_setShots_39 : decode cX6_setShots 39 = .ok (.getfield 113, 3) := by decide +kernel
theorem dX6_setShots_42 : decode cX6_setShots 42 = .ok (.getfield 136, 3) := by decide +kernel
theorem dX6_setShots_45 : decode cX6_setShots 45 = .ok (.iload_n 1, 1) := by decide +kernel
theorem dX6_setShots_46 : decode cX6_setShots 46 = .ok (.iaload, 1) := by decide +kernel
theorem dX6_setShots_47 : decode cX6_setShots 47 = .ok (.istore_n 3, 1) := by decide +kernel
theorem dX6_setShots_48 : decode cX6_setShots 48 = .ok (.aload_n 0, 1) := by decide +kernel
theorem dX6_setShots_49 : decode cX6_setShots 49 = .ok (.getfield 12, 3) := by decide +kernel
theorem dX6_setShots_52 : decode cX6_setShots 52 = .ok (.getfield 113, 3) := by decide +kernel
theorem dX6_setShots_55 : decode cX6_setShots 55 = .ok (.getfield 136, 3) := by decide +kernel
theorem dX6_setShots_58 : decode cX6_setShots 58 = .ok (.iload_n 1, 1) := by decide +kernel
theorem dX6_setShots_59 : decode cX6_setShots 59 = .ok (.iload_n 2, 1) := by decide +kernel
theorem dX6_setShots_60 : decode cX6_setShots 60 = .ok (.iastore, 1) := by decide +kernel
theorem dX6_setShots_61 : decode cX6_setShots 61 = .ok (.iload_n 3, 1) := by decide +kernel
theorem dX6_setShots_62 : decode cX6_setShots 62 = .ok (.ireturn, 1) := by decide +kernel
def tX6_setShots_0 : Tb := [(0, .inl (f_aload 0, 1)), (1, .inl (f_iload 1, 2)), (2, .inr (.inr (.inl (13, 5, 2, mX6_requireLine)))), (5, .inl (f_iload 2, 6)), (6, .inl (f_ci (0), 7)), (7, .inl (f_ci (3), 8)), (8, .inr (.inr (.inl (14, 11, 3, mX6_within)))), (11, .inr (.inl (b_if_eq, 14, 24))), (17, .inl (f_dup, 18)), (24, .inl (f_aload 0, 25)), (25, .inl (f_get 6 1, 28)), (28, .inl (f_aload 0, 29)), (29, .inl (f_get 6 0, 32)), (32, .inr (.inr (.inl (13, 35, 2, mX5_push)))), (35, .inl (f_aload 0, 36)), (36, .inl (f_get 6 0, 39)), (39, .inl (f_get 4 1, 42)), (42, .inl (f_get 2 4, 45)), (45, .inl (f_iload 1, 46)), (46, .inr (.inr (.inl (0, 47, 0, m0)))), (47, .inl (f_istore 4 3, 48)), (48, .inl (f_aload 0, 49)), (49, .inl (f_get 6 0, 52)), (52, .inl (f_get 4 1, 55)), (55, .inl (f_get 2 4, 58)), (58, .inl (f_iload 1, 59)), (59, .inl (f_iload 2, 60)), (60, .inr (.inr (.inl (4, 61, 0, m0)))), (61, .inl (f_iload 3, 62)), (62, .inr (.inr (.inl (15, 63, 0, m0))))]
set_option maxRecDepth 10000 in
theorem kX6_setShots_0 {X : Ctx} (h : sCx X mX6_setShots) : tab X mX6_setShots tX6_setShots_0 :=
  tab_cons (eS (st_aloadn h rfl dX6_setShots_0)) (
  tab_cons (eS (st_iloadn h rfl dX6_setShots_1)) (
  tab_cons (eO (so_callV h gw_189 gw_190 gw_191 gw_27 gw_192 ⟨by decide +kernel, by decide +kernel, by decide +kernel, by decide +kernel⟩ ⟨by decide +kernel, by decide +kernel⟩ dX6_setShots_2)) (
  tab_cons (eS (st_iloadn h rfl dX6_setShots_5)) (
  tab_cons (eS (st_iconst h (by decide +kernel) dX6_setShots_6)) (
  tab_cons (eS (st_iconst h (by decide +kernel) dX6_setShots_7)) (
  tab_cons (eO (so_callS h gw_181 gw_182 gw_27 gw_183 ⟨by decide +kernel, by decide +kernel, by decide +kernel⟩ ⟨by decide +kernel, by decide +kernel⟩ dX6_setShots_8)) (
  tab_cons (eB (sb_if_ne h dX6_setShots_11 (by decide))) (
  tab_cons (eS (st_dup h dX6_setShots_17)) (
  tab_cons (eS (st_aloadn h rfl dX6_setShots_24)) (
  tab_cons (eS (st_get h (ci := 6) (k := 1) rfl giX6 (by decide) rfl gw_170 dX6_setShots_25)) (
  tab_cons (eS (st_aloadn h rfl dX6_setShots_28)) (
  tab_cons (eS (st_get h (ci := 6) (k := 0) rfl giX6 (by decide) rfl gw_171 dX6_setShots_29)) (
  tab_cons (eO (so_callV h gw_172 gw_173 gw_174 gw_175 gw_176 ⟨by decide +kernel, by decide +kernel, by decide +kernel, by decide +kernel⟩ ⟨by decide +kernel, by decide +kernel⟩ dX6_setShots_32)) (
  tab_cons (eS (st_aloadn h rfl dX6_setShots_35)) (
  tab_cons (eS (st_get h (ci := 6) (k := 0) rfl giX6 (by decide) rfl gw_171 dX6_setShots_36)) (
  tab_cons (eS (st_get h (ci := 4) (k := 1) rfl giX4 (by decide) rfl gw_201 dX6_setShots_39)) (
  tab_cons (eS (st_get h (ci := 2) (k := 4) rfl giX2 (by decide) rfl gw_207 dX6_setShots_42)) (
  tab_cons (eS (st_iloadn h rfl dX6_setShots_45)) (
  tab_cons (eO (so_iaload h dX6_setShots_46)) (
  tab_cons (eS (st_istoren h rfl dX6_setShots_47)) (
  tab_cons (eS (st_aloadn h rfl dX6_setShots_48)) (
  tab_cons (eS (st_get h (ci := 6) (k := 0) rfl giX6 (by decide) rfl gw_171 dX6_setShots_49)) (
  tab_cons (eS (st_get h (ci := 4) (k := 1) rfl giX4 (by decide) rfl gw_201 dX6_setShots_52)) (
  tab_cons (eS (st_get h (ci := 2) (k := 4) rfl giX2 (by decide) rfl gw_207 dX6_setShots_55)) (
  tab_cons (eS (st_iloadn h rfl dX6_setShots_58)) (
  tab_cons (eS (st_iloadn h rfl dX6_setShots_59)) (
  tab_cons (eO (so_iastore h dX6_setShots_60)) (
  tab_cons (eS (st_iloadn h rfl dX6_setShots_61)) (
  tab_cons (eO (so_ireturn h dX6_setShots_62)) (
  tab_nil))))))))))))))))))))))))))))))
def tX6_setShots : Tb := tX6_setShots_0
theorem kX6_setShots {X : Ctx} (h : sCx X mX6_setShots) : tab X mX6_setShots tX6_setShots := kX6_setShots_0 h
theorem dX6_setStuck_0 : decode cX6_setStuck 0 = .ok (.aload_n 0, 1) := by decide +kernel
theorem dX6_setStuck_1 : decode cX6_setStuck 1 = .ok (.iload_n 1, 1) := by decide +kernel
theorem dX6_setStuck_2 : decode cX6_setStuck 2 = .ok (.invokevirtual 92, 3) := by decide +kernel
theorem dX6_setStuck_5 : decode cX6_setStuck 5 = .ok (.aload_n 0, 1) := by decide +kernel
theorem dX6_setStuck_6 : decode cX6_setStuck 6 = .ok (.getfield 19, 3) := by decide +kernel
theorem dX6_setStuck_9 : decode cX6_setStuck 9 = .ok (.aload_n 0, 1) := by decide +kernel
theorem dX6_setStuck_10 : decode cX6_setStuck 10 = .ok (.getfield 12, 3) := by decide +kernel
theorem dX6_setStuck_13 : decode cX6_setStuck 13 = .ok (.invokevirtual 49, 3) := by decide +kernel
theorem dX6_setStuck_16 : decode cX6_setStuck 16 = .ok (.aload_n 0, 1) := by decide +kernel
theorem dX6_setStuck_17 : decode cX6_setStuck 17 = .ok (.getfield 12, 3) := by decide +kernel
theorem dX6_setStuck_20 : decode cX6_setStuck 20 = .ok (.getfield 113, 3) := by decide +kernel
theorem dX6_setStuck_23 : decode cX6_setStuck 23 = .ok (.iload_n 1, 1) := by decide +kernel
theorem dX6_setStuck_24 : decode cX6_setStuck 24 = .ok (.invokevirtual 139, 3) := by decide +kernel
theorem dX6_setStuck_27 : decode cX6_setStuck 27 = .ok (.istore_n 3, 1) := by decide +kernel
theorem dX6_setStuck_28 : decode cX6_setStuck 28 = .ok (.aload_n 0, 1) := by decide +kernel
theorem dX6_setStuck_29 : decode cX6_setStuck 29 = .ok (.getfield 12, 3) := by decide +kernel
theorem dX6_setStuck_32 : decode cX6_setStuck 32 = .ok (.getfield 113, 3) := by decide +kernel
theorem dX6_setStuck_35 : decode cX6_setStuck 35 = .ok (.iload_n 1, 1) := by decide +kernel
theorem dX6_setStuck_36 : decode cX6_setStuck 36 = .ok (.iload_n 2, 1) := by decide +kernel
theorem dX6_setStuck_37 : decode cX6_setStuck 37 = .ok (.invokevirtual 143, 3) := by decide +kernel
theorem dX6_setStuck_40 : decode cX6_setStuck 40 = .ok (.iload_n 3, 1) := by decide +kernel
theorem dX6_setStuck_41 : decode cX6_setStuck 41 = .ok (.ireturn, 1) := by decide +kernel
def tX6_setStuck_0 : Tb := [(0, .inl (f_aload 0, 1)), (1, .inl (f_iload 1, 2)), (2, .inr (.inr (.inl (13, 5, 2, mX6_requireLine)))), (5, .inl (f_aload 0, 6)), (6, .inl (f_get 6 1, 9)), (9, .inl (f_aload 0, 10)), (10, .inl (f_get 6 0, 13)), (13, .inr (.inr (.inl (13, 16, 2, mX5_push)))), (16, .inl (f_aload 0, 17)), (17, .inl (f_get 6 0, 20)), (20, .inl (f_get 4 1, 23)), (23, .inl (f_iload 1, 24)), (24, .inr (.inr (.inl (13, 27, 2, mX2_isStuck)))), (27, .inl (f_istore 4 3, 28)), (28, .inl (f_aload 0, 29)), (29, .inl (f_get 6 0, 32)), (32, .inl (f_get 4 1, 35)), (35, .inl (f_iload 1, 36)), (36, .inl (f_iload 2, 37)), (37, .inr (.inr (.inl (13, 40, 3, mX2_makeStuck)))), (40, .inl (f_iload 3, 41)), (41, .inr (.inr (.inl (15, 42, 0, m0))))]
set_option maxRecDepth 10000 in
theorem kX6_setStuck_0 {X : Ctx} (h : sCx X mX6_setStuck) : tab X mX6_setStuck tX6_setStuck_0 :=
  tab_cons (eS (st_aloadn h rfl dX6_setStuck_0)) (
  tab_cons (eS (st_iloadn h rfl dX6_setStuck_1)) (
  tab_cons (eO (so_callV h gw_189 gw_190 gw_191 gw_27 gw_192 ⟨by decide +kernel, by decide +kernel, by decide +kernel, by decide +kernel⟩ ⟨by decide +kernel, by decide +kernel⟩ dX6_setStuck_2)) (
  tab_cons (eS (st_aloadn h rfl dX6_setStuck_5)) (
  tab_cons (eS (st_get h (ci := 6) (k := 1) rfl giX6 (by decide) rfl gw_170 dX6_setStuck_6)) (
  tab_cons (eS (st_aloadn h rfl dX6_setStuck_9)) (
  tab_cons (eS (st_get h (ci := 6) (k := 0) rfl giX6 (by decide) rfl gw_171 dX6_setStuck_10)) (
  tab_cons (eO (so_callV h gw_172 gw_173 gw_174 gw_175 gw_176 ⟨by decide +kernel, by decide +kernel, by decide +kernel, by decide +kernel⟩ ⟨by decide +kernel, by decide +kernel⟩ dX6_setStuck_13)) (
  tab_cons (eS (st_aloadn h rfl dX6_setStuck_16)) (
  tab_cons (eS (st_get h (ci := 6) (k := 0) rfl giX6 (by decide) rfl gw_171 dX6_setStuck_17)) (
  tab_cons (eS (st_get h (ci := 4) (k := 1) rfl giX4 (by decide) rfl gw_201 dX6_setStuck_20)) (
  tab_cons (eS (st_iloadn h rfl dX6_setStuck_23)) (
  tab_cons (eO (so_callV h gw_208 gw_101 gw_102 gw_32 gw_103 ⟨by decide +kernel, by decide +kernel, by decide +kernel, by decide +kernel⟩ ⟨by decide +kernel, by decide +kernel⟩ dX6_setStuck_24)) (
  tab_cons (eS (st_istoren h rfl dX6_setStuck_27)) (
  tab_cons (eS (st_aloadn h rfl dX6_setStuck_28)) (
  tab_cons (eS (st_get h (ci := 6) (k := 0) rfl giX6 (by decide) rfl gw_171 dX6_setStuck_29)) (
  tab_cons (eS (st_get h (ci := 4) (k := 1) rfl giX4 (by decide) rfl gw_201 dX6_setStuck_32)) (
  tab_cons (eS (st_iloadn h rfl dX6_setStuck_35)) (
  tab_cons (eS (st_iloadn h rfl dX6_setStuck_36)) (
  tab_cons (eO (so_callV h gw_209 gw_210 gw_211 gw_32 gw_212 ⟨by decide +kernel, by decide +kernel, by decide +kernel, by decide +kernel⟩ ⟨by decide +kernel, by decide +kernel⟩ dX6_setStuck_37)) (
  tab_cons (eS (st_iloadn h rfl dX6_setStuck_40)) (
  tab_cons (eO (so_ireturn h dX6_setStuck_41)) (
  tab_nil))))))))))))))))))))))
def tX6_setStuck : Tb := tX6_setStuck_0
theorem kX6_setStuck {X : Ctx} (h : sCx X mX6_setStuck) : tab X mX6_setStuck tX6_setStuck := kX6_setStuck_0 h
theorem dX6_pickup_0 : decode cX6_pickup 0 = .ok (.aload_n 0, 1) := by decide +kernel
theorem dX6_pickup_1 : decode cX6_pickup 1 = .ok (.iload_n 1, 1) := by decide +kernel
theorem dX6_pickup_2 : decode cX6_pickup 2 = .ok (.invokevirtual 92, 3) := by decide +kernel
theorem dX6_pickup_5 : decode cX6_pickup 5 = .ok (.aload_n 0, 1) := by decide +kernel
theorem dX6_pickup_6 : decode cX6_pickup 6 = .ok (.getfield 12, 3) := by decide +kernel
theorem dX6_pickup_9 : decode cX6_pickup 9 = .ok (.getfield 113, 3) := by decide +kernel
theorem dX6_pickup_12 : decode cX6_pickup 12 = .ok (.getfield 117, 3) := by decide +kernel
theorem dX6_pickup_15 : decode cX6_pickup 15 = .ok (.iload_n 1, 1) := by decide +kernel
theorem dX6_pickup_16 : decode cX6_pickup 16 = .ok (.iaload, 1) := by decide +kernel
theorem dX6_pickup_17 : decode cX6_pickup 17 = .ok (.ireturn, 1) := by decide +kernel
def tX6_pickup_0 : Tb := [(0, .inl (f_aload 0, 1)), (1, .inl (f_iload 1, 2)), (2, .inr (.inr (.inl (13, 5, 2, mX6_requireLine)))), (5, .inl (f_aload 0, 6)), (6, .inl (f_get 6 0, 9)), (9, .inl (f_get 4 1, 12)), (12, .inl (f_get 2 0, 15)), (15, .inl (f_iload 1, 16)), (16, .inr (.inr (.inl (0, 17, 0, m0)))), (17, .inr (.inr (.inl (15, 18, 0, m0))))]
set_option maxRecDepth 10000 in
theorem kX6_pickup_0 {X : Ctx} (h : sCx X mX6_pickup) : tab X mX6_pickup tX6_pickup_0 :=
  tab_cons (eS (st_aloadn h rfl dX6_pickup_0)) (
  tab_cons (eS (st_iloadn h rfl dX6_pickup_1)) (
  tab_cons (eO (so_callV h gw_189 gw_190 gw_191 gw_27 gw_192 ⟨by decide +kernel, by decide +kernel, by decide +kernel, by decide +kernel⟩ ⟨by decide +kernel, by decide +kernel⟩ dX6_pickup_2)) (
  tab_cons (eS (st_aloadn h rfl dX6_pickup_5)) (
  tab_cons (eS (st_get h (ci := 6) (k := 0) rfl giX6 (by decide) rfl gw_171 dX6_pickup_6)) (
  tab_cons (eS (st_get h (ci := 4) (k := 1) rfl giX4 (by decide) rfl gw_201 dX6_pickup_9)) (
  tab_cons (eS (st_get h (ci := 2) (k := 0) rfl giX2 (by decide) rfl gw_202 dX6_pickup_12)) (
  tab_cons (eS (st_iloadn h rfl dX6_pickup_15)) (
  tab_cons (eO (so_iaload h dX6_pickup_16)) (
  tab_cons (eO (so_ireturn h dX6_pickup_17)) (
  tab_nil))))))))))
def tX6_pickup : Tb := tX6_pickup_0
theorem kX6_pickup {X : Ctx} (h : sCx X mX6_pickup) : tab X mX6_pickup tX6_pickup := kX6_pickup_0 h
theorem dX6_steps_0 : decode cX6_steps 0 = .ok (.aload_n 0, 1) := by decide +kernel
theorem dX6_steps_1 : decode cX6_steps 1 = .ok (.iload_n 1, 1) := by decide +kernel
theorem dX6_steps_2 : decode cX6_steps 2 = .ok (.invokevirtual 92, 3) := by decide +kernel
theorem dX6_steps_5 : decode cX6_steps 5 = .ok (.aload_n 0, 1) := by decide +kernel
theorem dX6_steps_6 : decode cX6_steps 6 = .ok (.getfield 12, 3) := by decide +kernel
theorem dX6_steps_9 : decode cX6_steps 9 = .ok (.getfield 113, 3) := by decide +kernel
theorem dX6_steps_12 : decode cX6_steps 12 = .ok (.getfield 125, 3) := by decide +kernel
theorem dX6_steps_15 : decode cX6_steps 15 = .ok (.iload_n 1, 1) := by decide +kernel
theorem dX6_steps_16 : decode cX6_steps 16 = .ok (.iaload, 1) := by decide +kernel
theorem dX6_steps_17 : decode cX6_steps 17 = .ok (.ireturn, 1) := by decide +kernel
def tX6_steps_0 : Tb := [(0, .inl (f_aload 0, 1)), (1, .inl (f_iload 1, 2)), (2, .inr (.inr (.inl (13, 5, 2, mX6_requireLine)))), (5, .inl (f_aload 0, 6)), (6, .inl (f_get 6 0, 9)), (9, .inl (f_get 4 1, 12)), (12, .inl (f_get 2 2, 15)), (15, .inl (f_iload 1, 16)), (16, .inr (.inr (.inl (0, 17, 0, m0)))), (17, .inr (.inr (.inl (15, 18, 0, m0))))]
set_option maxRecDepth 10000 in
theorem kX6_steps_0 {X : Ctx} (h : sCx X mX6_steps) : tab X mX6_steps tX6_steps_0 :=
  tab_cons (eS (st_aloadn h rfl dX6_steps_0)) (
  tab_cons (eS (st_iloadn h rfl dX6_steps_1)) (
  tab_cons (eO (so_callV h gw_189 gw_190 gw_191 gw_27 gw_192 ⟨by decide +kernel, by decide +kernel, by decide +kernel, by decide +kernel⟩ ⟨by decide +kernel, by decide +kernel⟩ dX6_steps_2)) (
  tab_cons (eS (st_aloadn h rfl dX6_steps_5)) (
  tab_cons (eS (st_get h (ci := 6) (k := 0) rfl giX6 (by decide) rfl gw_171 dX6_steps_6)) (
  tab_cons (eS (st_get h (ci := 4) (k := 1) rfl giX4 (by decide) rfl gw_201 dX6_steps_9)) (
  tab_cons (eS (st_get h (ci := 2) (k := 2) rfl giX2 (by decide) rfl gw_204 dX6_steps_12)) (
  tab_cons (eS (st_iloadn h rfl dX6_steps_15)) (
  tab_cons (eO (so_iaload h dX6_steps_16)) (
  tab_cons (eO (so_ireturn h dX6_steps_17)) (
  tab_nil))))))))))
def tX6_steps : Tb := tX6_steps_0
theorem kX6_steps {X : Ctx} (h : sCx X mX6_steps) : tab X mX6_steps tX6_steps := kX6_steps_0 h
theorem dX6_upstream_0 : decode cX6_upstream 0 = .ok (.aload_n 0, 1) := by decide +kernel
theorem dX6_upstream_1 : decode cX6_upstream 1 = .ok (.iload_n 1, 1) := by decide +kernel
theorem dX6_upstream_2 : decode cX6_upstream 2 = .ok (.invokevirtual 92, 3) := by decide +kernel
theorem dX6_upstream_5 : decode cX6_upstream 5 = .ok (.aload_n 0, 1) := by decide +kernel
theorem dX6_upstream_6 : decode cX6_upstream 6 = .ok (.getfield 12, 3) := by decide +kernel
theorem dX6_upstream_9 : decode cX6_upstream 9 = .ok (.getfield 53, 3) := by decide +kernel
theorem dX6_upstream_12 : decode cX6_upstream 12 = .ok (.iload_n 1, 1) := by decide +kernel
theorem dX6_upstream_13 : decode cX6_upstream 13 = .ok (.invokevirtual 147, 3) := by decide +kernel
theorem dX6_upstream_16 : decode cX6_upstream 16 = .ok (.ireturn, 1) := by decide +kernel
def tX6_upstream_0 : Tb := [(0, .inl (f_aload 0, 1)), (1, .inl (f_iload 1, 2)), (2, .inr (.inr (.inl (13, 5, 2, mX6_requireLine)))), (5, .inl (f_aload 0, 6)), (6, .inl (f_get 6 0, 9)), (9, .inl (f_get 4 0, 12)), (12, .inl (f_iload 1, 13)), (13, .inr (.inr (.inl (13, 16, 2, mX1_lineBefore)))), (16, .inr (.inr (.inl (15, 17, 0, m0))))]
set_option maxRecDepth 10000 in
theorem kX6_upstream_0 {X : Ctx} (h : sCx X mX6_upstream) : tab X mX6_upstream tX6_upstream_0 :=
  tab_cons (eS (st_aloadn h rfl dX6_upstream_0)) (
  tab_cons (eS (st_iloadn h rfl dX6_upstream_1)) (
  tab_cons (eO (so_callV h gw_189 gw_190 gw_191 gw_27 gw_192 ⟨by decide +kernel, by decide +kernel, by decide +kernel, by decide +kernel⟩ ⟨by decide +kernel, by decide +kernel⟩ dX6_upstream_2)) (
  tab_cons (eS (st_aloadn h rfl dX6_upstream_5)) (
  tab_cons (eS (st_get h (ci := 6) (k := 0) rfl giX6 (by decide) rfl gw_171 dX6_upstream_6)) (
  tab_cons (eS (st_get h (ci := 4) (k := 0) rfl giX4 (by decide) rfl gw_177 dX6_upstream_9)) (
  tab_cons (eS (st_iloadn h rfl dX6_upstream_12)) (
  tab_cons (eO (so_callV h gw_213 gw_129 gw_130 gw_53 gw_131 ⟨by decide +kernel, by decide +kernel, by decide +kernel, by decide +kernel⟩ ⟨by decide +kernel, by decide +kernel⟩ dX6_upstream_13)) (
  tab_cons (eO (so_ireturn h dX6_upstream_16)) (
  tab_nil)))))))))
def tX6_upstream : Tb := tX6_upstream_0
theorem kX6_upstream {X : Ctx} (h : sCx X mX6_upstream) : tab X mX6_upstream tX6_upstream := kX6_upstream_0 h
theorem dX6_operatingTime_0 : decode cX6_operatingTime 0 = .ok (.aload_n 0, 1) := by decide +kernel
theorem dX6_operatingTime_1 : decode cX6_operatingTime 1 = .ok (.iload_n 1, 1) := by decide +kernel
theorem dX6_operatingTime_2 : decode cX6_operatingTime 2 = .ok (.invokevirtual 92, 3) := by decide +kernel
theorem dX6_operatingTime_5 : decode cX6_operatingTime 5 = .ok (.dload_n 2, 1) := by decide +kernel
theorem dX6_operatingTime_6 : decode cX6_operatingTime 6 = .ok (.dconst 0, 1) := by decide +kernel
theorem dX6_operatingTime_7 : decode cX6_operatingTime 7 = .ok (.ldc2_w 150, 3) := by decide +kernel
theorem dX6_operatingTime_10 : decode cX6_operatingTime 10 = .ok (.invokestatic 34, 3) := by decide +kernel
theorem dX6_operatingTime_13 : decode cX6_operatingTime 13 = .ok (.ifCond .ne 13, 3) := by decide +kernel
theorem dX6_operatingTime_16 : decode cX6_operatingTime 16 = .ok (.new 38, 3) := by decide +kernel
theorem dX6_operatingTime_19 : decode cX6_operatingTime 19 = .ok (.dup, 1) := by decide +kernel
theorem dX6_operatingTime_20 : decode cX6_operatingTime 20 = .ok (.ldc 152, 2) := by decide +kernel
theorem dX6_operatingTime_22 : decode cX6_operatingTime 22 = .ok (.invokespecial 42, 3) := by decide +kernel
theorem dX6_operatingTime_25 : decode cX6_operatingTime 25 = .ok (.athrow, 1) := by decide +kernel
theorem dX6_operatingTime_26 : decode cX6_operatingTime 26 = .ok (.aload_n 0, 1) := by decide +kernel
theorem dX6_operatingTime_27 : decode cX6_operatingTime 27 = .ok (.getfield 12, 3) := by decide +kernel
theorem dX6_operatingTime_30 : decode cX6_operatingTime 30 = .ok (.getfield 113, 3) := by decide +kernel
theorem dX6_operatingTime_33 : decode cX6_operatingTime 33 = .ok (.iload_n 1, 1) := by decide +kernel
theorem dX6_operatingTime_34 : decode cX6_operatingTime 34 = .ok (.dload_n 2, 1) := by decide +kernel
theorem dX6_operatingTime_35 : decode cX6_operatingTime 35 = .ok (.invokevirtual 154, 3) := by decide +kernel
theorem dX6_operatingTime_38 : decode cX6_operatingTime 38 = .ok (.dreturn, 1) := by decide +kernel
def tX6_operatingTime_0 : Tb := [(0, .inl (f_aload 0, 1)), (1, .inl (f_iload 1, 2)), (2, .inr (.inr (.inl (13, 5, 2, mX6_requireLine)))), (5, .inl (f_dload 2, 6)), (6, .inl (f_cd 0, 7)), (7, .inl (f_cd 4741671816366391296, 10)), (10, .inr (.inr (.inl (14, 13, 3, mX6_within_)))), (13, .inr (.inl (b_if_eq, 16, 26))), (19, .inl (f_dup, 20)), (26, .inl (f_aload 0, 27)), (27, .inl (f_get 6 0, 30)), (30, .inl (f_get 4 1, 33)), (33, .inl (f_iload 1, 34)), (34, .inl (f_dload 2, 35)), (35, .inr (.inr (.inl (13, 38, 3, mX2_timeFor)))), (38, .inr (.inr (.inl (16, 39, 0, m0))))]
set_option maxRecDepth 10000 in
theorem kX6_operatingTime_0 {X : Ctx} (h : sCx X mX6_operatingTime) : tab X mX6_operatingTime tX6_operatingTime_0 :=
  tab_cons (eS (st_aloadn h rfl dX6_operatingTime_0)) (
  tab_cons (eS (st_iloadn h rfl dX6_operatingTime_1)) (
  tab_cons (eO (so_callV h gw_189 gw_190 gw_191 gw_27 gw_192 ⟨by decide +kernel, by decide +kernel, by decide +kernel, by decide +kernel⟩ ⟨by decide +kernel, by decide +kernel⟩ dX6_operatingTime_2)) (
  tab_cons (eS (st_dloadn h rfl dX6_operatingTime_5)) (
  tab_cons (eS (st_dconst0 h rfl dX6_operatingTime_6)) (
  tab_cons (eS (st_ldc2d h gw_214 dX6_operatingTime_7)) (
  tab_cons (eO (so_callS h gw_164 gw_165 gw_27 gw_166 ⟨by decide +kernel, by decide +kernel, by decide +kernel⟩ ⟨by decide +kernel, by decide +kernel⟩ dX6_operatingTime_10)) (
  tab_cons (eB (sb_if_ne h dX6_operatingTime_13 (by decide))) (
  tab_cons (eS (st_dup h dX6_operatingTime_19)) (
  tab_cons (eS (st_aloadn h rfl dX6_operatingTime_26)) (
  tab_cons (eS (st_get h (ci := 6) (k := 0) rfl giX6 (by decide) rfl gw_171 dX6_operatingTime_27)) (
  tab_cons (eS (st_get h (ci := 4) (k := 1) rfl giX4 (by decide) rfl gw_201 dX6_operatingTime_30)) (
  tab_cons (eS (st_iloadn h rfl dX6_operatingTime_33)) (
  tab_cons (eS (st_dloadn h rfl dX6_operatingTime_34)) (
  tab_cons (eO (so_callV h gw_215 gw_87 gw_88 gw_32 gw_89 ⟨by decide +kernel, by decide +kernel, by decide +kernel, by decide +kernel⟩ ⟨by decide +kernel, by decide +kernel⟩ dX6_operatingTime_35)) (
  tab_cons (eO (so_dreturn h dX6_operatingTime_38)) (
  tab_nil))))))))))))))))
def tX6_operatingTime : Tb := tX6_operatingTime_0
theorem kX6_operatingTime {X : Ctx} (h : sCx X mX6_operatingTime) : tab X mX6_operatingTime tX6_operatingTime := kX6_operatingTime_0 h
theorem dX6_sensitivity_0 : decode cX6_sensitivity 0 = .ok (.aload_n 0, 1) := by decide +kernel
theorem dX6_sensitivity_1 : decode cX6_sensitivity 1 = .ok (.iload_n 1, 1) := by decide +kernel
theorem dX6_sensitivity_2 : decode cX6_sensitivity 2 = .ok (.invokevirtual 92, 3) := by decide +kernel
theorem dX6_sensitivity_5 : decode cX6_sensitivity 5 = .ok (.aload_n 0, 1) := by decide +kernel
theorem dX6_sensitivity_6 : decode cX6_sensitivity 6 = .ok (.getfield 12, 3) := by decide +kernel
theorem dX6_sensitivity_9 : decode cX6_sensitivity 9 = .ok (.getfield 53, 3) := by decide +kernel
theorem dX6_sensitivity_12 : decode cX6_sensitivity 12 = .ok (.iload_n 1, 1) := by decide +kernel
theorem dX6_sensitivity_13 : decode cX6_sensitivity 13 = .ok (.bipush 100, 2) := by decide +kernel
theorem dX6_sensitivity_15 : decode cX6_sensitivity 15 = .ok (.invokevirtual 103, 3) := by decide +kernel
theorem dX6_sensitivity_18 : decode cX6_sensitivity 18 = .ok (.ldc2_w 158, 3) := by decide +kernel
theorem dX6_sensitivity_21 : decode cX6_sensitivity 21 = .ok (.dmul, 1) := by decide +kernel
theorem dX6_sensitivity_22 : decode cX6_sensitivity 22 = .ok (.aload_n 0, 1) := by decide +kernel
theorem dX6_sensitivity_23 : decode cX6_sensitivity 23 = .ok (.getfield 12, 3) := by decide +kernel
theorem dX6_sensitivity_26 : decode cX6_sensitivity 26 = .ok (.getfield 113, 3) := by decide +kernel
theorem dX6_sensitivity_29 : decode cX6_sensitivity 29 = .ok (.getfield 117, 3) := by decide +kernel
theorem dX6_sensitivity_32 : decode cX6_sensitivity 32 = .ok (.iload_n 1, 1) := by decide +kernel
theorem dX6_sensitivity_33 : decode cX6_sensitivity 33 = .ok (.iaload, 1) := by decide +kernel
theorem dX6_sensitivity_34 : decode cX6_sensitivity 34 = .ok (.i2d, 1) := by decide +kernel
theorem dX6_sensitivity_35 : decode cX6_sensitivity 35 = .ok (.ddiv, 1) := by decide +kernel
theorem dX6_sensitivity_36 : decode cX6_sensitivity 36 = .ok (.dreturn, 1) := by decide +kernel
def tX6_sensitivity_0 : Tb := [(0, .inl (f_aload 0, 1)), (1, .inl (f_iload 1, 2)), (2, .inr (.inr (.inl (13, 5, 2, mX6_requireLine)))), (5, .inl (f_aload 0, 6)), (6, .inl (f_get 6 0, 9)), (9, .inl (f_get 4 0, 12)), (12, .inl (f_iload 1, 13)), (13, .inl (f_ci (100), 15)), (15, .inr (.inr (.inl (13, 18, 3, mX1_currentAt)))), (18, .inl (f_cd 4605975454099882115, 21)), (21, .inr (.inr (.inl (9, 22, 0, m0)))), (22, .inl (f_aload 0, 23)), (23, .inl (f_get 6 0, 26)), (26, .inl (f_get 4 1, 29)), (29, .inl (f_get 2 0, 32)), (32, .inl (f_iload 1, 33)), (33, .inr (.inr (.inl (0, 34, 0, m0)))), (34, .inl (f_i2d, 35)), (35, .inr (.inr (.inl (10, 36, 0, m0)))), (36, .inr (.inr (.inl (16, 37, 0, m0))))]
set_option maxRecDepth 10000 in
theorem kX6_sensitivity_0 {X : Ctx} (h : sCx X mX6_sensitivity) : tab X mX6_sensitivity tX6_sensitivity_0 :=
  tab_cons (eS (st_aloadn h rfl dX6_sensitivity_0)) (
  tab_cons (eS (st_iloadn h rfl dX6_sensitivity_1)) (
  tab_cons (eO (so_callV h gw_189 gw_190 gw_191 gw_27 gw_192 ⟨by decide +kernel, by decide +kernel, by decide +kernel, by decide +kernel⟩ ⟨by decide +kernel, by decide +kernel⟩ dX6_sensitivity_2)) (
  tab_cons (eS (st_aloadn h rfl dX6_sensitivity_5)) (
  tab_cons (eS (st_get h (ci := 6) (k := 0) rfl giX6 (by decide) rfl gw_171 dX6_sensitivity_6)) (
  tab_cons (eS (st_get h (ci := 4) (k := 0) rfl giX4 (by decide) rfl gw_177 dX6_sensitivity_9)) (
  tab_cons (eS (st_iloadn h rfl dX6_sensitivity_12)) (
  tab_cons (eS (st_bipush h (by decide +kernel) dX6_sensitivity_13)) (
  tab_cons (eO (so_callV h gw_200 gw_51 gw_52 gw_53 gw_54 ⟨by decide +kernel, by decide +kernel, by decide +kernel, by decide +kernel⟩ ⟨by decide +kernel, by decide +kernel⟩ dX6_sensitivity_15)) (
  tab_cons (eS (st_ldc2d h gw_216 dX6_sensitivity_18)) (
  tab_cons (eO (so_dmul h dX6_sensitivity_21)) (
  tab_cons (eS (st_aloadn h rfl dX6_sensitivity_22)) (
  tab_cons (eS (st_get h (ci := 6) (k := 0) rfl giX6 (by decide) rfl gw_171 dX6_sensitivity_23)) (
  tab_cons (eS (st_get h (ci := 4) (k := 1) rfl giX4 (by decide) rfl gw_201 dX6_sensitivity_26)) (
  tab_cons (eS (st_get h (ci := 2) (k := 0) rfl giX2 (by decide) rfl gw_202 dX6_sensitivity_29)) (
  tab_cons (eS (st_iloadn h rfl dX6_sensitivity_32)) (
  tab_cons (eO (so_iaload h dX6_sensitivity_33)) (
  tab_cons (eS (st_i2d h dX6_sensitivity_34)) (
  tab_cons (eO (so_ddiv h dX6_sensitivity_35)) (
  tab_cons (eO (so_dreturn h dX6_sensitivity_36)) (
  tab_nil))))))))))))))))))))
def tX6_sensitivity : Tb := tX6_sensitivity_0
theorem kX6_sensitivity {X : Ctx} (h : sCx X mX6_sensitivity) : tab X mX6_sensitivity tX6_sensitivity := kX6_sensitivity_0 h
theorem dX6_setMargin_0 : decode cX6_setMargin 0 = .ok (.dload_n 1, 1) := by decide +kernel
theorem dX6_setMargin_1 : decode cX6_setMargin 1 = .ok (.ldc2_w 160, 3) := by decide +kernel
theorem dX6_setMargin_4 : decode cX6_setMargin 4 = .ok (.ldc2_w 162, 3) := by decide +kernel
theorem dX6_setMargin_7 : decode cX6_setMargin 7 = .ok (.invokestatic 34, 3) := by decide +kernel
theorem dX6_setMargin_10 : decode cX6_setMargin 10 = .ok (.ifCond .ne 13, 3) := by decide +kernel
theorem dX6_setMargin_13 : decode cX6_setMargin 13 = .ok (.new 38, 3) := by decide +kernel
theorem dX6_setMargin_16 : decode cX6_setMargin 16 = .ok (.dup, 1) := by decide +kernel
theorem dX6_setMargin_17 : decode cX6_setMargin 17 = .ok (.ldc 164, 2) := by decide +kernel
theorem dX6_setMargin_19 : decode cX6_setMargin 19 = .ok (.invokespecial 42, 3) := by decide +kernel
theorem dX6_setMargin_22 : decode cX6_setMargin 22 = .ok (.athrow, 1) := by decide +kernel
theorem dX6_setMargin_23 : decode cX6_setMargin 23 = .ok (.aload_n 0, 1) := by decide +kernel
theorem dX6_setMargin_24 : decode cX6_setMargin 24 = .ok (.getfield 19, 3) := by decide +kernel
theorem dX6_setMargin_27 : decode cX6_setMargin 27 = .ok (.aload_n 0, 1) := by decide +kernel
theorem dX6_setMargin_28 : decode cX6_setMargin 28 = .ok (.getfield 12, 3) := by decide +kernel
theorem dX6_setMargin_31 : decode cX6_setMargin 31 = .ok (.invokevirtual 49, 3) := by decide +kernel
theorem dX6_setMargin_34 : decode cX6_setMargin 34 = .ok (.aload_n 0, 1) := by decide +kernel
theorem dX6_setMargin_35 : decode cX6_setMargin 35 = .ok (.getfield 12, 3) := by decide +kernel
theorem dX6_setMargin_38 : decode cX6_setMargin 38 = .ok (.getfield 166, 3) := by decide +kernel
theorem dX6_setMargin_41 : decode cX6_setMargin 41 = .ok (.dstore_n 3, 1) := by decide +kernel
theorem dX6_setMargin_42 : decode cX6_setMargin 42 = .ok (.aload_n 0, 1) := by decide +kernel
theorem dX6_setMargin_43 : decode cX6_setMargin 43 = .ok (.getfield 12, 3) := by decide +kernel
theorem dX6_setMargin_46 : decode cX6_setMargin 46 = .ok (.dload_n 1, 1) := by decide +kernel
theorem dX6_setMargin_47 : decode cX6_setMargin 47 = .ok (.putfield 166, 3) := by decide +kernel
theorem dX6_setMargin_50 : decode cX6_setMargin 50 = .ok (.dload_n 3, 1) := by decide +kernel
theorem dX6_setMargin_51 : decode cX6_setMargin 51 = .ok (.dreturn, 1) := by decide +kernel
def tX6_setMargin_0 : Tb := [(0, .inl (f_dload 1, 1)), (1, .inl (f_cd 4587366580439587226, 4)), (4, .inl (f_cd 4617315517961601024, 7)), (7, .inr (.inr (.inl (14, 10, 3, mX6_within_)))), (10, .inr (.inl (b_if_eq, 13, 23))), (16, .inl (f_dup, 17)), (23, .inl (f_aload 0, 24)), (24, .inl (f_get 6 1, 27)), (27, .inl (f_aload 0, 28)), (28, .inl (f_get 6 0, 31)), (31, .inr (.inr (.inl (13, 34, 2, mX5_push)))), (34, .inl (f_aload 0, 35)), (35, .inl (f_get 6 0, 38)), (38, .inl (f_get 4 3, 41)), (41, .inl (f_dstore 5 3, 42)), (42, .inl (f_aload 0, 43)), (43, .inl (f_get 6 0, 46)), (46, .inl (f_dload 1, 47)), (47, .inl (f_putD 4 3, 50)), (50, .inl (f_dload 3, 51)), (51, .inr (.inr (.inl (16, 52, 0, m0))))]
set_option maxRecDepth 10000 in
theorem kX6_setMargin_0 {X : Ctx} (h : sCx X mX6_setMargin) : tab X mX6_setMargin tX6_setMargin_0 :=
  tab_cons (eS (st_dloadn h rfl dX6_setMargin_0)) (
  tab_cons (eS (st_ldc2d h gw_217 dX6_setMargin_1)) (
  tab_cons (eS (st_ldc2d h gw_218 dX6_setMargin_4)) (
  tab_cons (eO (so_callS h gw_164 gw_165 gw_27 gw_166 ⟨by decide +kernel, by decide +kernel, by decide +kernel⟩ ⟨by decide +kernel, by decide +kernel⟩ dX6_setMargin_7)) (
  tab_cons (eB (sb_if_ne h dX6_setMargin_10 (by decide))) (
  tab_cons (eS (st_dup h dX6_setMargin_16)) (
  tab_cons (eS (st_aloadn h rfl dX6_setMargin_23)) (
  tab_cons (eS (st_get h (ci := 6) (k := 1) rfl giX6 (by decide) rfl gw_170 dX6_setMargin_24)) (
  tab_cons (eS (st_aloadn h rfl dX6_setMargin_27)) (
  tab_cons (eS (st_get h (ci := 6) (k := 0) rfl giX6 (by decide) rfl gw_171 dX6_setMargin_28)) (
  tab_cons (eO (so_callV h gw_172 gw_173 gw_174 gw_175 gw_176 ⟨by decide +kernel, by decide +kernel, by decide +kernel, by decide +kernel⟩ ⟨by decide +kernel, by decide +kernel⟩ dX6_setMargin_31)) (
  tab_cons (eS (st_aloadn h rfl dX6_setMargin_34)) (
  tab_cons (eS (st_get h (ci := 6) (k := 0) rfl giX6 (by decide) rfl gw_171 dX6_setMargin_35)) (
  tab_cons (eS (st_get h (ci := 4) (k := 3) rfl giX4 (by decide) rfl gw_219 dX6_setMargin_38)) (
  tab_cons (eS (st_dstoren h rfl dX6_setMargin_41)) (
  tab_cons (eS (st_aloadn h rfl dX6_setMargin_42)) (
  tab_cons (eS (st_get h (ci := 6) (k := 0) rfl giX6 (by decide) rfl gw_171 dX6_setMargin_43)) (
  tab_cons (eS (st_dloadn h rfl dX6_setMargin_46)) (
  tab_cons (eS (st_putD h (ci := 4) (k := 3) tyX4 tyX4_ok nmX4 rfl giX4 (by decide) rfl rfl (by decide +kernel) gw_219 dX6_setMargin_47)) (
  tab_cons (eS (st_dloadn h rfl dX6_setMargin_50)) (
  tab_cons (eO (so_dreturn h dX6_setMargin_51)) (
  tab_nil)))))))))))))))))))))
def tX6_setMargin : Tb := tX6_setMargin_0
theorem kX6_setMargin {X : Ctx} (h : sCx X mX6_setMargin) : tab X mX6_setMargin tX6_setMargin := kX6_setMargin_0 h
theorem dX6_margin_0 : decode cX6_margin 0 = .ok (.aload_n 0, 1) := by decide +kernel
theorem dX6_margin_1 : decode cX6_margin 1 = .ok (.iload_n 1, 1) := by decide +kernel
theorem dX6_margin_2 : decode cX6_margin 2 = .ok (.invokevirtual 92, 3) := by decide +kernel
theorem dX6_margin_5 : decode cX6_margin 5 = .ok (.iload_n 2, 1) := by decide +kernel
theorem dX6_margin_6 : decode cX6_margin 6 = .ok (.invokestatic 100, 3) := by decide +kernel
theorem dX6_margin_9 : decode cX6_margin 9 = .ok (.aload_n 0, 1) := by decide +kernel
theorem dX6_margin_10 : decode cX6_margin 10 = .ok (.getfield 12, 3) := by decide +kernel
theorem dX6_margin_13 : decode cX6_margin 13 = .ok (.getfield 53, 3) := by decide +kernel
theorem dX6_margin_16 : decode cX6_margin 16 = .ok (.iload_n 1, 1) := by decide +kernel
theorem dX6_margin_17 : decode cX6_margin 17 = .ok (.invokevirtual 147, 3) := by decide +kernel
theorem dX6_margin_20 : decode cX6_margin 20 = .ok (.iconst (-1), 1) := by decide +kernel
theorem dX6_margin_21 : decode cX6_margin 21 = .ok (.if_icmp .ne 13, 3) := by decide +kernel
theorem dX6_margin_24 : decode cX6_margin 24 = .ok (.new 75, 3) := by decide +kernel
theorem dX6_margin_27 : decode cX6_margin 27 = .ok (.dup, 1) := by decide +kernel
theorem dX6_margin_28 : decode cX6_margin 28 = .ok (.ldc 169, 2) := by decide +kernel
theorem dX6_margin_30 : decode cX6_margin 30 = .ok (.invokespecial 79, 3) := by decide +kernel
theorem dX6_margin_33 : decode cX6_margin 33 = .ok (.athrow, 1) := by decide +kernel
theorem dX6_margin_34 : decode cX6_margin 34 = .ok (.aload_n 0, 1) := by decide +kernel
theorem dX6_margin_35 : decode cX6_margin 35 = .ok (.getfield 12, 3) := by decide +kernel
theorem dX6_margin_38 : decode cX6_margin 38 = .ok (.iload_n 1, 1) := by decide +kernel
theorem dX6_margin_39 : decode cX6_margin 39 = .ok (.iload_n 2, 1) := by decide +kernel
theorem dX6_margin_40 : decode cX6_margin 40 = .ok (.invokevirtual 171, 3) := by decide +kernel
theorem dX6_margin_43 : decode cX6_margin 43 = .ok (.dreturn, 1) := by decide +kernel
def tX6_margin_0 : Tb := [(0, .inl (f_aload 0, 1)), (1, .inl (f_iload 1, 2)), (2, .inr (.inr (.inl (13, 5, 2, mX6_requireLine)))), (5, .inl (f_iload 2, 6)), (6, .inr (.inr (.inl (14, 9, 1, mX6_requirePlace)))), (9, .inl (f_aload 0, 10)), (10, .inl (f_get 6 0, 13)), (13, .inl (f_get 4 0, 16)), (16, .inl (f_iload 1, 17)), (17, .inr (.inr (.inl (13, 20, 2, mX1_lineBefore)))), (20, .inl (f_ci (-1), 21)), (21, .inr (.inl (b_icmp_eq, 24, 34))), (27, .inl (f_dup, 28)), (34, .inl (f_aload 0, 35)), (35, .inl (f_get 6 0, 38)), (38, .inl (f_iload 1, 39)), (39, .inl (f_iload 2, 40)), (40, .inr (.inr (.inl (13, 43, 3, mX4_marginAt)))), (43, .inr (.inr (.inl (16, 44, 0, m0))))]
set_option maxRecDepth 10000 in
theorem kX6_margin_0 {X : Ctx} (h : sCx X mX6_margin) : tab X mX6_margin tX6_margin_0 :=
  tab_cons (eS (st_aloadn h rfl dX6_margin_0)) (
  tab_cons (eS (st_iloadn h rfl dX6_margin_1)) (
  tab_cons (eO (so_callV h gw_189 gw_190 gw_191 gw_27 gw_192 ⟨by decide +kernel, by decide +kernel, by decide +kernel, by decide +kernel⟩ ⟨by decide +kernel, by decide +kernel⟩ dX6_margin_2)) (
  tab_cons (eS (st_iloadn h rfl dX6_margin_5)) (
  tab_cons (eO (so_callS h gw_197 gw_198 gw_27 gw_199 ⟨by decide +kernel, by decide +kernel, by decide +kernel⟩ ⟨by decide +kernel, by decide +kernel⟩ dX6_margin_6)) (
  tab_cons (eS (st_aloadn h rfl dX6_margin_9)) (
  tab_cons (eS (st_get h (ci := 6) (k := 0) rfl giX6 (by decide) rfl gw_171 dX6_margin_10)) (
  tab_cons (eS (st_get h (ci := 4) (k := 0) rfl giX4 (by decide) rfl gw_177 dX6_margin_13)) (
  tab_cons (eS (st_iloadn h rfl dX6_margin_16)) (
  tab_cons (eO (so_callV h gw_213 gw_129 gw_130 gw_53 gw_131 ⟨by decide +kernel, by decide +kernel, by decide +kernel, by decide +kernel⟩ ⟨by decide +kernel, by decide +kernel⟩ dX6_margin_17)) (
  tab_cons (eS (st_iconst h (by decide +kernel) dX6_margin_20)) (
  tab_cons (eB (sb_icmp_ne h dX6_margin_21 (by decide))) (
  tab_cons (eS (st_dup h dX6_margin_27)) (
  tab_cons (eS (st_aloadn h rfl dX6_margin_34)) (
  tab_cons (eS (st_get h (ci := 6) (k := 0) rfl giX6 (by decide) rfl gw_171 dX6_margin_35)) (
  tab_cons (eS (st_iloadn h rfl dX6_margin_38)) (
  tab_cons (eS (st_iloadn h rfl dX6_margin_39)) (
  tab_cons (eO (so_callV h gw_220 gw_134 gw_135 gw_136 gw_137 ⟨by decide +kernel, by decide +kernel, by decide +kernel, by decide +kernel⟩ ⟨by decide +kernel, by decide +kernel⟩ dX6_margin_40)) (
  tab_cons (eO (so_dreturn h dX6_margin_43)) (
  tab_nil)))))))))))))))))))
def tX6_margin : Tb := tX6_margin_0
theorem kX6_margin {X : Ctx} (h : sCx X mX6_margin) : tab X mX6_margin tX6_margin := kX6_margin_0 h
theorem dX6_violationCount_0 : decode cX6_violationCount 0 = .ok (.aload_n 0, 1) := by decide +kernel
theorem dX6_violationCount_1 : decode cX6_violationCount 1 = .ok (.getfield 12, 3) := by decide +kernel
theorem dX6_violationCount_4 : decode cX6_violationCount 4 = .ok (.invokevirtual 174, 3) := by decide +kernel
theorem dX6_violationCount_7 : decode cX6_violationCount 7 = .ok (.ireturn, 1) := by decide +kernel
def tX6_violationCount_0 : Tb := [(0, .inl (f_aload 0, 1)), (1, .inl (f_get 6 0, 4)), (4, .inr (.inr (.inl (13, 7, 1, mX4_countViolations)))), (7, .inr (.inr (.inl (15, 8, 0, m0))))]
set_option maxRecDepth 10000 in
theorem kX6_violationCount_0 {X : Ctx} (h : sCx X mX6_violationCount) : tab X mX6_violationCount tX6_violationCount_0 :=
  tab_cons (eS (st_aloadn h rfl dX6_violationCount_0)) (
  tab_cons (eS (st_get h (ci := 6) (k := 0) rfl giX6 (by decide) rfl gw_171 dX6_violationCount_1)) (
  tab_cons (eO (so_callV h gw_221 gw_222 gw_223 gw_136 gw_224 ⟨by decide +kernel, by decide +kernel, by decide +kernel, by decide +kernel⟩ ⟨by decide +kernel, by decide +kernel⟩ dX6_violationCount_4)) (
  tab_cons (eO (so_ireturn h dX6_violationCount_7)) (
  tab_nil))))
def tX6_violationCount : Tb := tX6_violationCount_0
theorem kX6_violationCount {X : Ctx} (h : sCx X mX6_violationCount) : tab X mX6_violationCount tX6_violationCount := kX6_violationCount_0 h
theorem dX6_violation_0 : decode cX6_violation 0 = .ok (.iload_n 1, 1) := by decide +kernel
theorem dX6_violation_1 : decode cX6_violation 1 = .ok (.ifCond .ge 7, 3) := by decide +kernel
theorem dX6_violation_4 : decode cX6_violation 4 = .ok (.iconst (-1), 1) := by decide +kernel
theorem dX6_violation_5 : decode cX6_violation 5 = .ok (.goto 11, 3) := by decide +kernel
theorem dX6_violation_8 : decode cX6_violation 8 = .ok (.aload_n 0, 1) := by decide +kernel
theorem dX6_violation_9 : decode cX6_violation 9 = .ok (.getfield 12, 3) := by decide +kernel
theorem dX6_violation_12 : decode cX6_violation 12 = .ok (.iload_n 1, 1) := by decide +kernel
theorem dX6_violation_13 : decode cX6_violation 13 = .ok (.invokevirtual 178, 3) := by decide +kernel
theorem dX6_violation_16 : decode cX6_violation 16 = .ok (.istore_n 2, 1) := by decide +kernel
theorem dX6_violation_17 : decode cX6_violation 17 = .ok (.iload_n 2, 1) := by decide +kernel
theorem dX6_violation_18 : decode cX6_violation 18 = .ok (.iconst (-1), 1) := by decide +kernel
theorem dX6_violation_19 : decode cX6_violation 19 = .ok (.if_icmp .ne 13, 3) := by decide +kernel
theorem dX6_violation_22 : decode cX6_violation 22 = .ok (.new 181, 3) := by decide +kernel
theorem dX6_violation_25 : decode cX6_violation 25 = .ok (.dup, 1) := by decide +kernel
theorem dX6_violation_26 : decode cX6_violation 26 = .ok (.ldc 183, 2) := by decide +kernel
theorem dX6_violation_28 : decode cX6_violation 28 = .ok (.invokespecial 185, 3) := by decide +kernel
theorem dX6_violation_31 : decode cX6_violation 31 = .ok (.athrow, 1) := by decide +kernel
theorem dX6_violation_32 : decode cX6_violation 32 = .ok (.iload_n 2, 1) := by decide +kernel
theorem dX6_violation_33 : decode cX6_violation 33 = .ok (.ireturn, 1) := by decide +kernel
def tX6_violation_0 : Tb := [(0, .inl (f_iload 1, 1)), (1, .inr (.inl (b_if_ge, 8, 4))), (4, .inl (f_ci (-1), 5)), (5, .inl (f_id, 16)), (8, .inl (f_aload 0, 9)), (9, .inl (f_get 6 0, 12)), (12, .inl (f_iload 1, 13)), (13, .inr (.inr (.inl (13, 16, 2, mX4_violationOfRank)))), (16, .inl (f_istore 3 2, 17)), (17, .inl (f_iload 2, 18)), (18, .inl (f_ci (-1), 19)), (19, .inr (.inl (b_icmp_eq, 22, 32))), (25, .inl (f_dup, 26)), (32, .inl (f_iload 2, 33)), (33, .inr (.inr (.inl (15, 34, 0, m0))))]
set_option maxRecDepth 10000 in
theorem kX6_violation_0 {X : Ctx} (h : sCx X mX6_violation) : tab X mX6_violation tX6_violation_0 :=
  tab_cons (eS (st_iloadn h rfl dX6_violation_0)) (
  tab_cons (eB (sb_if_ge h dX6_violation_1 (by decide))) (
  tab_cons (eS (st_iconst h (by decide +kernel) dX6_violation_4)) (
  tab_cons (eS (st_goto h dX6_violation_5 (by decide))) (
  tab_cons (eS (st_aloadn h rfl dX6_violation_8)) (
  tab_cons (eS (st_get h (ci := 6) (k := 0) rfl giX6 (by decide) rfl gw_171 dX6_violation_9)) (
  tab_cons (eS (st_iloadn h rfl dX6_violation_12)) (
  tab_cons (eO (so_callV h gw_225 gw_226 gw_227 gw_136 gw_228 ⟨by decide +kernel, by decide +kernel, by decide +kernel, by decide +kernel⟩ ⟨by decide +kernel, by decide +kernel⟩ dX6_violation_13)) (
  tab_cons (eS (st_istoren h rfl dX6_violation_16)) (
  tab_cons (eS (st_iloadn h rfl dX6_violation_17)) (
  tab_cons (eS (st_iconst h (by decide +kernel) dX6_violation_18)) (
  tab_cons (eB (sb_icmp_ne h dX6_violation_19 (by decide))) (
  tab_cons (eS (st_dup h dX6_violation_25)) (
  tab_cons (eS (st_iloadn h rfl dX6_violation_32)) (
  tab_cons (eO (so_ireturn h dX6_violation_33)) (
  tab_nil)))))))))))))))
def tX6_violation : Tb := tX6_violation_0
theorem kX6_violation {X : Ctx} (h : sCx X mX6_violation) : tab X mX6_violation tX6_violation := kX6_violation_0 h
theorem dX6_autoPickup_0 : decode cX6_autoPickup 0 = .ok (.iload_n 1, 1) := by decide +kernel
theorem dX6_autoPickup_1 : decode cX6_autoPickup 1 = .ok (.bipush 100, 2) := by decide +kernel
theorem dX6_autoPickup_3 : decode cX6_autoPickup 3 = .ok (.sipush 300, 3) := by decide +kernel
theorem dX6_autoPickup_6 : decode cX6_autoPickup 6 = .ok (.invokestatic 70, 3) := by decide +kernel
theorem dX6_autoPickup_9 : decode cX6_autoPickup 9 = .ok (.ifCond .ne 13, 3) := by decide +kernel
theorem dX6_autoPickup_12 : decode cX6_autoPickup 12 = .ok (.new 38, 3) := by decide +kernel
theorem dX6_autoPickup_15 : decode cX6_autoPickup 15 = .ok (.dup, 1) := by decide +kernel
theorem dX6_autoPickup_16 : decode cX6_autoPickup 16 = .ok (.ldc 186, 2) := by decide +kernel
theorem dX6_autoPickup_18 : decode cX6_autoPickup 18 = .ok (.invokespecial 42, 3) := by decide +kernel
theorem dX6_autoPickup_21 : decode cX6_autoPickup 21 = .ok (.athrow, 1) := by decide +kernel
theorem dX6_autoPickup_22 : decode cX6_autoPickup 22 = .ok (.aload_n 0, 1) := by decide +kernel
theorem dX6_autoPickup_23 : decode cX6_autoPickup 23 = .ok (.getfield 19, 3) := by decide +kernel
theorem dX6_autoPickup_26 : decode cX6_autoPickup 26 = .ok (.aload_n 0, 1) := by decide +kernel
theorem dX6_autoPickup_27 : decode cX6_autoPickup 27 = .ok (.getfield 12, 3) := by decide +kernel
theorem dX6_autoPickup_30 : decode cX6_autoPickup 30 = .ok (.invokevirtual 49, 3) := by decide +kernel
theorem dX6_autoPickup_33 : decode cX6_autoPickup 33 = .ok (.iconst 0, 1) := by decide +kernel
theorem dX6_autoPickup_34 : decode cX6_autoPickup 34 = .ok (.istore_n 2, 1) := by decide +kernel
theorem dX6_autoPickup_35 : decode cX6_autoPickup 35 = .ok (.iconst 0, 1) := by decide +kernel
theorem dX6_autoPickup_36 : decode cX6_autoPickup 36 = .ok (.istore_n 3, 1) := by decide +kernel
theorem dX6_autoPickup_37 : decode cX6_autoPickup 37 = .ok (.iload_n 3, 1) := by decide +kernel
theorem dX6_autoPickup_38 : decode cX6_autoPickup 38 = .ok (.aload_n 0, 1) := by decide +kernel
theorem dX6_autoPickup_39 : decode cX6_autoPickup 39 = .ok (.getfield 12, 3) := by decide +kernel
theorem dX6_autoPickup_42 : decode cX6_autoPickup 42 = .ok (.getfield 53, 3) := by decide +kernel
theorem dX6_autoPickup_45 : decode cX6_autoPickup 45 = .ok (.getfield 66, 3) := by decide +kernel
theorem dX6_autoPickup_48 : decode cX6_autoPickup 48 = .ok (.if_icmp .ge 62, 3) := by decide +kernel
theorem dX6_autoPickup_51 : decode cX6_autoPickup 51 = .ok (.aload_n 0, 1) := by decide +kernel
theorem dX6_autoPickup_52 : decode cX6_autoPickup 52 = .ok (.getfield 12, 3) := by decide +kernel
theorem dX6_autoPickup_55 : decode cX6_autoPickup 55 = .ok (.getfield 53, 3) := by decide +kernel
theorem dX6_autoPickup_58 : decode cX6_autoPickup 58 = .ok (.iconst 1, 1) := by decide +kernel
theorem dX6_autoPickup_59 : decode cX6_autoPickup 59 = .ok (.iload_n 3, 1) := by decide +kernel
theorem dX6_autoPickup_60 : decode cX6_autoPickup 60 = .ok (.ishl, 1) := by decide +kernel
theorem dX6_autoPickup_61 : decode cX6_autoPickup 61 = .ok (.invokevirtual 96, 3) := by decide +kernel
theorem dX6_autoPickup_64 : decode cX6_autoPickup 64 = .ok (.iload_n 1, 1) := by decide +kernel
theorem dX6_autoPickup_65 : decode cX6_autoPickup 65 = .ok (.invokestatic 188, 3) := by decide +kernel
theorem dX6_autoPickup_68 : decode cX6_autoPickup 68 = .ok (.istore 4, 2) := by decide +kernel
theorem dX6_autoPickup_70 : decode cX6_autoPickup 70 = .ok (.iload 4, 2) := by decide +kernel
theorem dX6_autoPickup_72 : decode cX6_autoPickup 72 = .ok (.aload_n 0, 1) := by decide +kernel
theorem dX6_autoPickup_73 : decode cX6_autoPickup 73 = .ok (.getfield 12, 3) := by decide +kernel
theorem dX6_autoPickup_76 : decode cX6_autoPickup 76 = .ok (.getfield 113, 3) := by decide +kernel
theorem dX6_autoPickup_79 : decode cX6_autoPickup 79 = .ok (.getfield 117, 3) := by decide +kernel
theorem dX6_autoPickup_82 : decode cX6_autoPickup 82 = .ok (.iload_n 3, 1) := by decide +kernel
theorem dX6_autoPickup_83 : decode cX6_autoPickup 83 = .ok (.iaload, 1) := by decide +kernel
theorem dX6_autoPickup_84 : decode cX6_autoPickup 84 = .ok (.if_icmp .eq 20, 3) := by decide +kernel
theorem dX6_autoPickup_87 : decode cX6_autoPickup 87 = .ok (.aload_n 0, 1) := by decide +kernel
theorem dX6_autoPickup_88 : decode cX6_autoPickup 88 = .ok (.getfield 12, 3) := by decide +kernel
theorem dX6_autoPickup_91 : decode cX6_autoPickup 91 = .ok (.getfield 113, 3) := by decide +kernel
theorem dX6_autoPickup_94 : decode cX6_autoPickup 94 = .ok (.getfield 117, 3) := by decide +kernel
theorem dX6_autoPickup_97 : decode cX6_autoPickup 97 = .ok (.iload_n 3, 1) := by decide +kernel
theorem dX6_autoPickup_98 : decode cX6_autoPickup 98 = .ok (.iload 4, 2) := by decide +kernel
theorem dX6_autoPickup_100 : decode cX6_autoPickup 100 = .ok (.iastore, 1) := by decide +kernel
theorem dX6_autoPickup_101 : decode cX6_autoPickup 101 = .ok (.iinc 2 1, 3) := by decide +kernel
theorem dX6_autoPickup_104 : decode cX6_autoPickup 104 = .ok (.iinc 3 1, 3) := by decide +kernel
theorem dX6_autoPickup_107 : decode cX6_autoPickup 107 = .ok (.goto (-70), 3) := by decide +kernel
theorem dX6_autoPickup_110 : decode cX6_autoPickup 110 = .ok (.iload_n 2, 1) := by decide +kernel
theorem dX6_autoPickup_111 : decode cX6_autoPickup 111 = .ok (.ireturn, 1) := by decide +kernel
def tX6_autoPickup_0 : Tb := [(0, .inl (f_iload 1, 1)), (1, .inl (f_ci (100), 3)), (3, .inl (f_ci (300), 6)), (6, .inr (.inr (.inl (14, 9, 3, mX6_within)))), (9, .inr (.inl (b_if_eq, 12, 22))), (15, .inl (f_dup, 16)), (22, .inl (f_aload 0, 23)), (23, .inl (f_get 6 1, 26)), (26, .inl (f_aload 0, 27)), (27, .inl (f_get 6 0, 30)), (30, .inr (.inr (.inl (13, 33, 2, mX5_push)))), (33, .inl (f_ci (0), 34)), (34, .inl (f_istore 5 2, 35)), (35, .inl (f_ci (0), 36)), (36, .inl (f_istore 5 3, 37)), (37, .inl (f_iload 3, 38)), (38, .inl (f_aload 0, 39)), (39, .inl (f_get 6 0, 42)), (42, .inl (f_get 4 0, 45)), (45, .inl (f_get 1 2, 48)), (48, .inr (.inl (b_icmp_ge, 110, 51))), (51, .inl (f_aload 0, 52)), (52, .inl (f_get 6 0, 55)), (55, .inl (f_get 4 0, 58)), (58, .inl (f_ci (1), 59)), (59, .inl (f_iload 3, 60)), (60, .inl (f_ishl, 61)), (61, .inr (.inr (.inl (13, 64, 2, mX1_loadOver)))), (64, .inl (f_iload 1, 65)), (65, .inr (.inr (.inl (14, 68, 2, mX6_pickupForLoad))))]
set_option maxRecDepth 10000 in
theorem kX6_autoPickup_0 {X : Ctx} (h : sCx X mX6_autoPickup) : tab X mX6_autoPickup tX6_autoPickup_0 :=
  tab_cons (eS (st_iloadn h rfl dX6_autoPickup_0)) (
  tab_cons (eS (st_bipush h (by decide +kernel) dX6_autoPickup_1)) (
  tab_cons (eS (st_sipush h (by decide +kernel) dX6_autoPickup_3)) (
  tab_cons (eO (so_callS h gw_181 gw_182 gw_27 gw_183 ⟨by decide +kernel, by decide +kernel, by decide +kernel⟩ ⟨by decide +kernel, by decide +kernel⟩ dX6_autoPickup_6)) (
  tab_cons (eB (sb_if_ne h dX6_autoPickup_9 (by decide))) (
  tab_cons (eS (st_dup h dX6_autoPickup_15)) (
  tab_cons (eS (st_aloadn h rfl dX6_autoPickup_22)) (
  tab_cons (eS (st_get h (ci := 6) (k := 1) rfl giX6 (by decide) rfl gw_170 dX6_autoPickup_23)) (
  tab_cons (eS (st_aloadn h rfl dX6_autoPickup_26)) (
  tab_cons (eS (st_get h (ci := 6) (k := 0) rfl giX6 (by decide) rfl gw_171 dX6_autoPickup_27)) (
  tab_cons (eO (so_callV h gw_172 gw_173 gw_174 gw_175 gw_176 ⟨by decide +kernel, by decide +kernel, by decide +kernel, by decide +kernel⟩ ⟨by decide +kernel, by decide +kernel⟩ dX6_autoPickup_30)) (
  tab_cons (eS (st_iconst h (by decide +kernel) dX6_autoPickup_33)) (
  tab_cons (eS (st_istoren h rfl dX6_autoPickup_34)) (
  tab_cons (eS (st_iconst h (by decide +kernel) dX6_autoPickup_35)) (
  tab_cons (eS (st_istoren h rfl dX6_autoPickup_36)) (
  tab_cons (eS (st_iloadn h rfl dX6_autoPickup_37)) (
  tab_cons (eS (st_aloadn h rfl dX6_autoPickup_38)) (
  tab_cons (eS (st_get h (ci := 6) (k := 0) rfl giX6 (by decide) rfl gw_171 dX6_autoPickup_39)) (
  tab_cons (eS (st_get h (ci := 4) (k := 0) rfl giX4 (by decide) rfl gw_177 dX6_autoPickup_42)) (
  tab_cons (eS (st_get h (ci := 1) (k := 2) rfl giX1 (by decide) rfl gw_180 dX6_autoPickup_45)) (
  tab_cons (eB (sb_icmp_ge h dX6_autoPickup_48 (by decide))) (
  tab_cons (eS (st_aloadn h rfl dX6_autoPickup_51)) (
  tab_cons (eS (st_get h (ci := 6) (k := 0) rfl giX6 (by decide) rfl gw_171 dX6_autoPickup_52)) (
  tab_cons (eS (st_get h (ci := 4) (k := 0) rfl giX4 (by decide) rfl gw_177 dX6_autoPickup_55)) (
  tab_cons (eS (st_iconst h (by decide +kernel) dX6_autoPickup_58)) (
  tab_cons (eS (st_iloadn h rfl dX6_autoPickup_59)) (
  tab_cons (eS (st_ishl h dX6_autoPickup_60)) (
  tab_cons (eO (so_callV h gw_193 gw_194 gw_195 gw_53 gw_196 ⟨by decide +kernel, by decide +kernel, by decide +kernel, by decide +kernel⟩ ⟨by decide +kernel, by decide +kernel⟩ dX6_autoPickup_61)) (
  tab_cons (eS (st_iloadn h rfl dX6_autoPickup_64)) (
  tab_cons (eO (so_callS h gw_229 gw_230 gw_27 gw_231 ⟨by decide +kernel, by decide +kernel, by decide +kernel⟩ ⟨by decide +kernel, by decide +kernel⟩ dX6_autoPickup_65)) (
  tab_nil))))))))))))))))))))))))))))))
def tX6_autoPickup_1 : Tb := [(68, .inl (f_istore 5 4, 70)), (70, .inl (f_iload 4, 72)), (72, .inl (f_aload 0, 73)), (73, .inl (f_get 6 0, 76)), (76, .inl (f_get 4 1, 79)), (79, .inl (f_get 2 0, 82)), (82, .inl (f_iload 3, 83)), (83, .inr (.inr (.inl (0, 84, 0, m0)))), (84, .inr (.inl (b_icmp_eq, 104, 87))), (87, .inl (f_aload 0, 88)), (88, .inl (f_get 6 0, 91)), (91, .inl (f_get 4 1, 94)), (94, .inl (f_get 2 0, 97)), (97, .inl (f_iload 3, 98)), (98, .inl (f_iload 4, 100)), (100, .inr (.inr (.inl (4, 101, 0, m0)))), (101, .inl (f_iinc 5 2 (1), 104)), (104, .inl (f_iinc 5 3 (1), 107)), (107, .inl (f_id, 37)), (110, .inl (f_iload 2, 111)), (111, .inr (.inr (.inl (15, 112, 0, m0))))]
set_option maxRecDepth 10000 in
theorem kX6_autoPickup_1 {X : Ctx} (h : sCx X mX6_autoPickup) : tab X mX6_autoPickup tX6_autoPickup_1 :=
  tab_cons (eS (st_istore h dX6_autoPickup_68)) (
  tab_cons (eS (st_iload h dX6_autoPickup_70)) (
  tab_cons (eS (st_aloadn h rfl dX6_autoPickup_72)) (
  tab_cons (eS (st_get h (ci := 6) (k := 0) rfl giX6 (by decide) rfl gw_171 dX6_autoPickup_73)) (
  tab_cons (eS (st_get h (ci := 4) (k := 1) rfl giX4 (by decide) rfl gw_201 dX6_autoPickup_76)) (
  tab_cons (eS (st_get h (ci := 2) (k := 0) rfl giX2 (by decide) rfl gw_202 dX6_autoPickup_79)) (
  tab_cons (eS (st_iloadn h rfl dX6_autoPickup_82)) (
  tab_cons (eO (so_iaload h dX6_autoPickup_83)) (
  tab_cons (eB (sb_icmp_eq h dX6_autoPickup_84 (by decide))) (
  tab_cons (eS (st_aloadn h rfl dX6_autoPickup_87)) (
  tab_cons (eS (st_get h (ci := 6) (k := 0) rfl giX6 (by decide) rfl gw_171 dX6_autoPickup_88)) (
  tab_cons (eS (st_get h (ci := 4) (k := 1) rfl giX4 (by decide) rfl gw_201 dX6_autoPickup_91)) (
  tab_cons (eS (st_get h (ci := 2) (k := 0) rfl giX2 (by decide) rfl gw_202 dX6_autoPickup_94)) (
  tab_cons (eS (st_iloadn h rfl dX6_autoPickup_97)) (
  tab_cons (eS (st_iload h dX6_autoPickup_98)) (
  tab_cons (eO (so_iastore h dX6_autoPickup_100)) (
  tab_cons (eS (st_iinc h (by decide +kernel) dX6_autoPickup_101)) (
  tab_cons (eS (st_iinc h (by decide +kernel) dX6_autoPickup_104)) (
  tab_cons (eS (st_goto h dX6_autoPickup_107 (by decide))) (
  tab_cons (eS (st_iloadn h rfl dX6_autoPickup_110)) (
  tab_cons (eO (so_ireturn h dX6_autoPickup_111)) (
  tab_nil)))))))))))))))))))))
def tX6_autoPickup : Tb := tX6_autoPickup_0 ++ (tX6_autoPickup_1)
theorem kX6_autoPickup {X : Ctx} (h : sCx X mX6_autoPickup) : tab X mX6_autoPickup tX6_autoPickup := tab_app (kX6_autoPickup_0 h) (kX6_autoPickup_1 h)
theorem dX6_autoGrade_0 : decode cX6_autoGrade 0 = .ok (.aload_n 0, 1) := by decide +kernel
theorem dX6_autoGrade_1 : decode cX6_autoGrade 1 = .ok (.getfield 19, 3) := by decide +kernel
theorem dX6_autoGrade_4 : decode cX6_autoGrade 4 = .ok (.aload_n 0, 1) := by decide +kernel
theorem dX6_autoGrade_5 : decode cX6_autoGrade 5 = .ok (.getfield 12, 3) := by decide +kernel
theorem dX6_autoGrade_8 : decode cX6_autoGrade 8 = .ok (.invokevirtual 49, 3) := by decide +kernel
theorem dX6_autoGrade_11 : decode cX6_autoGrade 11 = .ok (.iconst 0, 1) := by decide +kernel
theorem dX6_autoGrade_12 : decode cX6_autoGrade 12 = .ok (.istore_n 1, 1) := by decide +kernel
theorem dX6_autoGrade_13 : decode cX6_autoGrade 13 = .ok (.aload_n 0, 1) := by decide +kernel
theorem dX6_autoGrade_14 : decode cX6_autoGrade 14 = .ok (.getfield 12, 3) := by decide +kernel
theorem dX6_autoGrade_17 : decode cX6_autoGrade 17 = .ok (.getfield 53, 3) := by decide +kernel
theorem dX6_autoGrade_20 : decode cX6_autoGrade 20 = .ok (.getfield 66, 3) := by decide +kernel
theorem dX6_autoGrade_23 : decode cX6_autoGrade 23 = .ok (.iconst 1, 1) := by decide +kernel
theorem dX6_autoGrade_24 : decode cX6_autoGrade 24 = .ok (.isub, 1) := by decide +kernel
theorem dX6_autoGrade_25 : decode cX6_autoGrade 25 = .ok (.istore_n 2, 1) := by decide +kernel
theorem dX6_autoGrade_26 : decode cX6_autoGrade 26 = .ok (.iload_n 2, 1) := by decide +kernel
theorem dX6_autoGrade_27 : decode cX6_autoGrade 27 = .ok (.ifCond .lt 23, 3) := by decide +kernel
theorem dX6_autoGrade_30 : decode cX6_autoGrade 30 = .ok (.aload_n 0, 1) := by decide +kernel
theorem dX6_autoGrade_31 : decode cX6_autoGrade 31 = .ok (.getfield 12, 3) := by decide +kernel
theorem dX6_autoGrade_34 : decode cX6_autoGrade 34 = .ok (.iload_n 2, 1) := by decide +kernel
theorem dX6_autoGrade_35 : decode cX6_autoGrade 35 = .ok (.invokevirtual 192, 3) := by decide +kernel
theorem dX6_autoGrade_38 : decode cX6_autoGrade 38 = .ok (.ifCond .ne 6, 3) := by decide +kernel
theorem dX6_autoGrade_41 : decode cX6_autoGrade 41 = .ok (.iinc 1 1, 3) := by decide +kernel
theorem dX6_autoGrade_44 : decode cX6_autoGrade 44 = .ok (.iinc 2 (-1), 3) := by decide +kernel
theorem dX6_autoGrade_47 : decode cX6_autoGrade 47 = .ok (.goto (-21), 3) := by decide +kernel
theorem dX6_autoGrade_50 : decode cX6_autoGrade 50 = .ok (.iload_n 1, 1) := by decide +kernel
theorem dX6_autoGrade_51 : decode cX6_autoGrade 51 = .ok (.ireturn, 1) := by decide +kernel
def tX6_autoGrade_0 : Tb := [(0, .inl (f_aload 0, 1)), (1, .inl (f_get 6 1, 4)), (4, .inl (f_aload 0, 5)), (5, .inl (f_get 6 0, 8)), (8, .inr (.inr (.inl (13, 11, 2, mX5_push)))), (11, .inl (f_ci (0), 12)), (12, .inl (f_istore 3 1, 13)), (13, .inl (f_aload 0, 14)), (14, .inl (f_get 6 0, 17)), (17, .inl (f_get 4 0, 20)), (20, .inl (f_get 1 2, 23)), (23, .inl (f_ci (1), 24)), (24, .inl (f_isub, 25)), (25, .inl (f_istore 3 2, 26)), (26, .inl (f_iload 2, 27)), (27, .inr (.inl (b_if_lt, 50, 30))), (30, .inl (f_aload 0, 31)), (31, .inl (f_get 6 0, 34)), (34, .inl (f_iload 2, 35)), (35, .inr (.inr (.inl (13, 38, 2, mX4_gradeSteps)))), (38, .inr (.inl (b_if_eq, 41, 44))), (41, .inl (f_iinc 3 1 (1), 44)), (44, .inl (f_iinc 3 2 (-1), 47)), (47, .inl (f_id, 26)), (50, .inl (f_iload 1, 51)), (51, .inr (.inr (.inl (15, 52, 0, m0))))]
set_option maxRecDepth 10000 in
theorem kX6_autoGrade_0 {X : Ctx} (h : sCx X mX6_autoGrade) : tab X mX6_autoGrade tX6_autoGrade_0 :=
  tab_cons (eS (st_aloadn h rfl dX6_autoGrade_0)) (
  tab_cons (eS (st_get h (ci := 6) (k := 1) rfl giX6 (by decide) rfl gw_170 dX6_autoGrade_1)) (
  tab_cons (eS (st_aloadn h rfl dX6_autoGrade_4)) (
  tab_cons (eS (st_get h (ci := 6) (k := 0) rfl giX6 (by decide) rfl gw_171 dX6_autoGrade_5)) (
  tab_cons (eO (so_callV h gw_172 gw_173 gw_174 gw_175 gw_176 ⟨by decide +kernel, by decide +kernel, by decide +kernel, by decide +kernel⟩ ⟨by decide +kernel, by decide +kernel⟩ dX6_autoGrade_8)) (
  tab_cons (eS (st_iconst h (by decide +kernel) dX6_autoGrade_11)) (
  tab_cons (eS (st_istoren h rfl dX6_autoGrade_12)) (
  tab_cons (eS (st_aloadn h rfl dX6_autoGrade_13)) (
  tab_cons (eS (st_get h (ci := 6) (k := 0) rfl giX6 (by decide) rfl gw_171 dX6_autoGrade_14)) (
  tab_cons (eS (st_get h (ci := 4) (k := 0) rfl giX4 (by decide) rfl gw_177 dX6_autoGrade_17)) (
  tab_cons (eS (st_get h (ci := 1) (k := 2) rfl giX1 (by decide) rfl gw_180 dX6_autoGrade_20)) (
  tab_cons (eS (st_iconst h (by decide +kernel) dX6_autoGrade_23)) (
  tab_cons (eS (st_isub h dX6_autoGrade_24)) (
  tab_cons (eS (st_istoren h rfl dX6_autoGrade_25)) (
  tab_cons (eS (st_iloadn h rfl dX6_autoGrade_26)) (
  tab_cons (eB (sb_if_lt h dX6_autoGrade_27 (by decide))) (
  tab_cons (eS (st_aloadn h rfl dX6_autoGrade_30)) (
  tab_cons (eS (st_get h (ci := 6) (k := 0) rfl giX6 (by decide) rfl gw_171 dX6_autoGrade_31)) (
  tab_cons (eS (st_iloadn h rfl dX6_autoGrade_34)) (
  tab_cons (eO (so_callV h gw_232 gw_233 gw_234 gw_136 gw_235 ⟨by decide +kernel, by decide +kernel, by decide +kernel, by decide +kernel⟩ ⟨by decide +kernel, by decide +kernel⟩ dX6_autoGrade_35)) (
  tab_cons (eB (sb_if_ne h dX6_autoGrade_38 (by decide))) (
  tab_cons (eS (st_iinc h (by decide +kernel) dX6_autoGrade_41)) (
  tab_cons (eS (st_iinc h (by decide +kernel) dX6_autoGrade_44)) (
  tab_cons (eS (st_goto h dX6_autoGrade_47 (by decide))) (
  tab_cons (eS (st_iloadn h rfl dX6_autoGrade_50)) (
  tab_cons (eO (so_ireturn h dX6_autoGrade_51)) (
  tab_nil))))))))))))))))))))))))))
def tX6_autoGrade : Tb := tX6_autoGrade_0
theorem kX6_autoGrade {X : Ctx} (h : sCx X mX6_autoGrade) : tab X mX6_autoGrade tX6_autoGrade := kX6_autoGrade_0 h
theorem dX6_simulate_0 : decode cX6_simulate 0 = .ok (.aload_n 0, 1) := by decide +kernel
theorem dX6_simulate_1 : decode cX6_simulate 1 = .ok (.iload_n 1, 1) := by decide +kernel
theorem dX6_simulate_2 : decode cX6_simulate 2 = .ok (.invokevirtual 92, 3) := by decide +kernel
theorem dX6_simulate_5 : decode cX6_simulate 5 = .ok (.iload_n 2, 1) := by decide +kernel
theorem dX6_simulate_6 : decode cX6_simulate 6 = .ok (.invokestatic 100, 3) := by decide +kernel
theorem dX6_simulate_9 : decode cX6_simulate 9 = .ok (.dload_n 3, 1) := by decide +kernel
theorem dX6_simulate_10 : decode cX6_simulate 10 = .ok (.ldc2_w 195, 3) := by decide +kernel
theorem dX6_simulate_13 : decode cX6_simulate 13 = .ok (.ldc2_w 32, 3) := by decide +kernel
theorem dX6_simulate_16 : decode cX6_simulate 16 = .ok (.invokestatic 34, 3) := by decide +kernel
theorem dX6_simulate_19 : decode cX6_simulate 19 = .ok (.ifCond .ne 13, 3) := by decide +kernel
theorem dX6_simulate_22 : decode cX6_simulate 22 = .ok (.new 38, 3) := by decide +kernel
theorem dX6_simulate_25 : decode cX6_simulate 25 = .ok (.dup, 1) := by decide +kernel
theorem dX6_simulate_26 : decode cX6_simulate 26 = .ok (.ldc 197, 2) := by decide +kernel
theorem dX6_simulate_28 : decode cX6_simulate 28 = .ok (.invokespecial 42, 3) := by decide +kernel
theorem dX6_simulate_31 : decode cX6_simulate 31 = .ok (.athrow, 1) := by decide +kernel
theorem dX6_simulate_32 : decode cX6_simulate 32 = .ok (.aload_n 0, 1) := by decide +kernel
theorem dX6_simulate_33 : decode cX6_simulate 33 = .ok (.getfield 19, 3) := by decide +kernel
theorem dX6_simulate_36 : decode cX6_simulate 36 = .ok (.aload_n 0, 1) := by decide +kernel
theorem dX6_simulate_37 : decode cX6_simulate 37 = .ok (.getfield 12, 3) := by decide +kernel
theorem dX6_simulate_40 : decode cX6_simulate 40 = .ok (.invokevirtual 49, 3) := by decide +kernel
theorem dX6_simulate_43 : decode cX6_simulate 43 = .ok (.aload_n 0, 1) := by decide +kernel
theorem dX6_simulate_44 : decode cX6_simulate 44 = .ok (.getfield 26, 3) := by decide +kernel
theorem dX6_simulate_47 : decode cX6_simulate 47 = .ok (.aload_n 0, 1) := by decide +kernel
theorem dX6_simulate_48 : decode cX6_simulate 48 = .ok (.getfield 12, 3) := by decide +kernel
theorem dX6_simulate_51 : decode cX6_simulate 51 = .ok (.iload_n 1, 1) := by decide +kernel
theorem dX6_simulate_52 : decode cX6_simulate 52 = .ok (.iload_n 2, 1) := by decide +kernel
theorem dX6_simulate_53 : decode cX6_simulate 53 = .ok (.dload_n 3, 1) := by decide +kernel
theorem dX6_simulate_54 : decode cX6_simulate 54 = .ok (.invokevirtual 199, 3) := by decide +kernel
theorem dX6_simulate_57 : decode cX6_simulate 57 = .ok (.aload_n 0, 1) := by decide +kernel
theorem dX6_simulate_58 : decode cX6_simulate 58 = .ok (.getfield 12, 3) := by decide +kernel
theorem dX6_simulate_61 : decode cX6_simulate 61 = .ok (.getfield 203, 3) := by decide +kernel
theorem dX6_simulate_64 : decode cX6_simulate 64 = .ok (.getfield 207, 3) := by decide +kernel
theorem dX6_simulate_67 : decode cX6_simulate 67 = .ok (.ireturn, 1) := by decide +kernel
def tX6_simulate_0 : Tb := [(0, .inl (f_aload 0, 1)), (1, .inl (f_iload 1, 2)), (2, .inr (.inr (.inl (13, 5, 2, mX6_requireLine)))), (5, .inl (f_iload 2, 6)), (6, .inr (.inr (.inl (14, 9, 1, mX6_requirePlace)))), (9, .inl (f_dload 3, 10)), (10, .inl (f_cd 4562254508917369340, 13)), (13, .inl (f_cd 4696837146684686336, 16)), (16, .inr (.inr (.inl (14, 19, 3, mX6_within_)))), (19, .inr (.inl (b_if_eq, 22, 32))), (25, .inl (f_dup, 26)), (32, .inl (f_aload 0, 33)), (33, .inl (f_get 6 1, 36)), (36, .inl (f_aload 0, 37)), (37, .inl (f_get 6 0, 40)), (40, .inr (.inr (.inl (13, 43, 2, mX5_push)))), (43, .inl (f_aload 0, 44)), (44, .inl (f_get 6 2, 47)), (47, .inl (f_aload 0, 48)), (48, .inl (f_get 6 0, 51)), (51, .inl (f_iload 1, 52)), (52, .inl (f_iload 2, 53)), (53, .inl (f_dload 3, 54)), (54, .inr (.inr (.inl (13, 57, 5, mX3_run)))), (57, .inl (f_aload 0, 58)), (58, .inl (f_get 6 0, 61)), (61, .inl (f_get 4 2, 64)), (64, .inl (f_get 0 0, 67)), (67, .inr (.inr (.inl (15, 68, 0, m0))))]
set_option maxRecDepth 10000 in
theorem kX6_simulate_0 {X : Ctx} (h : sCx X mX6_simulate) : tab X mX6_simulate tX6_simulate_0 :=
  tab_cons (eS (st_aloadn h rfl dX6_simulate_0)) (
  tab_cons (eS (st_iloadn h rfl dX6_simulate_1)) (
  tab_cons (eO (so_callV h gw_189 gw_190 gw_191 gw_27 gw_192 ⟨by decide +kernel, by decide +kernel, by decide +kernel, by decide +kernel⟩ ⟨by decide +kernel, by decide +kernel⟩ dX6_simulate_2)) (
  tab_cons (eS (st_iloadn h rfl dX6_simulate_5)) (
  tab_cons (eO (so_callS h gw_197 gw_198 gw_27 gw_199 ⟨by decide +kernel, by decide +kernel, by decide +kernel⟩ ⟨by decide +kernel, by decide +kernel⟩ dX6_simulate_6)) (
  tab_cons (eS (st_dloadn h rfl dX6_simulate_9)) (
  tab_cons (eS (st_ldc2d h gw_236 dX6_simulate_10)) (
  tab_cons (eS (st_ldc2d h gw_163 dX6_simulate_13)) (
  tab_cons (eO (so_callS h gw_164 gw_165 gw_27 gw_166 ⟨by decide +kernel, by decide +kernel, by decide +kernel⟩ ⟨by decide +kernel, by decide +kernel⟩ dX6_simulate_16)) (
  tab_cons (eB (sb_if_ne h dX6_simulate_19 (by decide))) (
  tab_cons (eS (st_dup h dX6_simulate_25)) (
  tab_cons (eS (st_aloadn h rfl dX6_simulate_32)) (
  tab_cons (eS (st_get h (ci := 6) (k := 1) rfl giX6 (by decide) rfl gw_170 dX6_simulate_33)) (
  tab_cons (eS (st_aloadn h rfl dX6_simulate_36)) (
  tab_cons (eS (st_get h (ci := 6) (k := 0) rfl giX6 (by decide) rfl gw_171 dX6_simulate_37)) (
  tab_cons (eO (so_callV h gw_172 gw_173 gw_174 gw_175 gw_176 ⟨by decide +kernel, by decide +kernel, by decide +kernel, by decide +kernel⟩ ⟨by decide +kernel, by decide +kernel⟩ dX6_simulate_40)) (
  tab_cons (eS (st_aloadn h rfl dX6_simulate_43)) (
  tab_cons (eS (st_get h (ci := 6) (k := 2) rfl giX6 (by decide) rfl gw_237 dX6_simulate_44)) (
  tab_cons (eS (st_aloadn h rfl dX6_simulate_47)) (
  tab_cons (eS (st_get h (ci := 6) (k := 0) rfl giX6 (by decide) rfl gw_171 dX6_simulate_48)) (
  tab_cons (eS (st_iloadn h rfl dX6_simulate_51)) (
  tab_cons (eS (st_iloadn h rfl dX6_simulate_52)) (
  tab_cons (eS (st_dloadn h rfl dX6_simulate_53)) (
  tab_cons (eO (so_callV h gw_238 gw_239 gw_240 gw_60 gw_241 ⟨by decide +kernel, by decide +kernel, by decide +kernel, by decide +kernel⟩ ⟨by decide +kernel, by decide +kernel⟩ dX6_simulate_54)) (
  tab_cons (eS (st_aloadn h rfl dX6_simulate_57)) (
  tab_cons (eS (st_get h (ci := 6) (k := 0) rfl giX6 (by decide) rfl gw_171 dX6_simulate_58)) (
  tab_cons (eS (st_get h (ci := 4) (k := 2) rfl giX4 (by decide) rfl gw_242 dX6_simulate_61)) (
  tab_cons (eS (st_get h (ci := 0) (k := 0) rfl giX0 (by decide) rfl gw_243 dX6_simulate_64)) (
  tab_cons (eO (so_ireturn h dX6_simulate_67)) (
  tab_nil)))))))))))))))))))))))))))))
def tX6_simulate : Tb := tX6_simulate_0
theorem kX6_simulate {X : Ctx} (h : sCx X mX6_simulate) : tab X mX6_simulate tX6_simulate := kX6_simulate_0 h
theorem dX6_eventCount_0 : decode cX6_eventCount 0 = .ok (.aload_n 0, 1) := by decide +kernel
theorem dX6_eventCount_1 : decode cX6_eventCount 1 = .ok (.getfield 12, 3) := by decide +kernel
theorem dX6_eventCount_4 : decode cX6_eventCount 4 = .ok (.getfield 203, 3) := by decide +kernel
theorem dX6_eventCount_7 : decode cX6_eventCount 7 = .ok (.getfield 207, 3) := by decide +kernel
theorem dX6_eventCount_10 : decode cX6_eventCount 10 = .ok (.ireturn, 1) := by decide +kernel
def tX6_eventCount_0 : Tb := [(0, .inl (f_aload 0, 1)), (1, .inl (f_get 6 0, 4)), (4, .inl (f_get 4 2, 7)), (7, .inl (f_get 0 0, 10)), (10, .inr (.inr (.inl (15, 11, 0, m0))))]
set_option maxRecDepth 10000 in
theorem kX6_eventCount_0 {X : Ctx} (h : sCx X mX6_eventCount) : tab X mX6_eventCount tX6_eventCount_0 :=
  tab_cons (eS (st_aloadn h rfl dX6_eventCount_0)) (
  tab_cons (eS (st_get h (ci := 6) (k := 0) rfl giX6 (by decide) rfl gw_171 dX6_eventCount_1)) (
  tab_cons (eS (st_get h (ci := 4) (k := 2) rfl giX4 (by decide) rfl gw_242 dX6_eventCount_4)) (
  tab_cons (eS (st_get h (ci := 0) (k := 0) rfl giX0 (by decide) rfl gw_243 dX6_eventCount_7)) (
  tab_cons (eO (so_ireturn h dX6_eventCount_10)) (
  tab_nil)))))
def tX6_eventCount : Tb := tX6_eventCount_0
theorem kX6_eventCount {X : Ctx} (h : sCx X mX6_eventCount) : tab X mX6_eventCount tX6_eventCount := kX6_eventCount_0 h
theorem dX6_event_0 : decode cX6_event 0 = .ok (.aload_n 0, 1) := by decide +kernel
theorem dX6_event_1 : decode cX6_event 1 = .ok (.iload_n 1, 1) := by decide +kernel
theorem dX6_event_2 : decode cX6_event 2 = .ok (.invokevirtual 212, 3) := by decide +kernel
theorem dX6_event_5 : decode cX6_event 5 = .ok (.aload_n 0, 1) := by decide +kernel
theorem dX6_event_6 : decode cX6_event 6 = .ok (.getfield 12, 3) := by decide +kernel
theorem dX6_event_9 : decode cX6_event 9 = .ok (.getfield 203, 3) := by decide +kernel
theorem dX6_event_12 : decode cX6_event 12 = .ok (.getfield 215, 3) := by decide +kernel
theorem dX6_event_15 : decode cX6_event 15 = .ok (.iload_n 1, 1) := by decide +kernel
theorem dX6_event_16 : decode cX6_event 16 = .ok (.iaload, 1) := by decide +kernel
theorem dX6_event_17 : decode cX6_event 17 = .ok (.ireturn, 1) := by decide +kernel
def tX6_event_0 : Tb := [(0, .inl (f_aload 0, 1)), (1, .inl (f_iload 1, 2)), (2, .inr (.inr (.inl (13, 5, 2, mX6_requireEvent)))), (5, .inl (f_aload 0, 6)), (6, .inl (f_get 6 0, 9)), (9, .inl (f_get 4 2, 12)), (12, .inl (f_get 0 1, 15)), (15, .inl (f_iload 1, 16)), (16, .inr (.inr (.inl (0, 17, 0, m0)))), (17, .inr (.inr (.inl (15, 18, 0, m0))))]
set_option maxRecDepth 10000 in
theorem kX6_event_0 {X : Ctx} (h : sCx X mX6_event) : tab X mX6_event tX6_event_0 :=
  tab_cons (eS (st_aloadn h rfl dX6_event_0)) (
  tab_cons (eS (st_iloadn h rfl dX6_event_1)) (
  tab_cons (eO (so_callV h gw_244 gw_245 gw_246 gw_27 gw_247 ⟨by decide +kernel, by decide +kernel, by decide +kernel, by decide +kernel⟩ ⟨by decide +kernel, by decide +kernel⟩ dX6_event_2)) (
  tab_cons (eS (st_aloadn h rfl dX6_event_5)) (
  tab_cons (eS (st_get h (ci := 6) (k := 0) rfl giX6 (by decide) rfl gw_171 dX6_event_6)) (
  tab_cons (eS (st_get h (ci := 4) (k := 2) rfl giX4 (by decide) rfl gw_242 dX6_event_9)) (
  tab_cons (eS (st_get h (ci := 0) (k := 1) rfl giX0 (by decide) rfl gw_248 dX6_event_12)) (
  tab_cons (eS (st_iloadn h rfl dX6_event_15)) (
  tab_cons (eO (so_iaload h dX6_event_16)) (
  tab_cons (eO (so_ireturn h dX6_event_17)) (
  tab_nil))))))))))
def tX6_event : Tb := tX6_event_0
theorem kX6_event {X : Ctx} (h : sCx X mX6_event) : tab X mX6_event tX6_event := kX6_event_0 h
theorem dX6_eventTime_0 : decode cX6_eventTime 0 = .ok (.aload_n 0, 1) := by decide +kernel
theorem dX6_eventTime_1 : decode cX6_eventTime 1 = .ok (.iload_n 1, 1) := by decide +kernel
theorem dX6_eventTime_2 : decode cX6_eventTime 2 = .ok (.invokevirtual 212, 3) := by decide +kernel
theorem dX6_eventTime_5 : decode cX6_eventTime 5 = .ok (.aload_n 0, 1) := by decide +kernel
theorem dX6_eventTime_6 : decode cX6_eventTime 6 = .ok (.getfield 12, 3) := by decide +kernel
theorem dX6_eventTime_9 : decode cX6_eventTime 9 = .ok (.getfield 203, 3) := by decide +kernel
theorem dX6_eventTime_12 : decode cX6_eventTime 12 = .ok (.getfield 218, 3) := by decide +kernel
theorem dX6_eventTime_15 : decode cX6_eventTime 15 = .ok (.iload_n 1, 1) := by decide +kernel
theorem dX6_eventTime_16 : decode cX6_eventTime 16 = .ok (.daload, 1) := by decide +kernel
theorem dX6_eventTime_17 : decode cX6_eventTime 17 = .ok (.dreturn, 1) := by decide +kernel
def tX6_eventTime_0 : Tb := [(0, .inl (f_aload 0, 1)), (1, .inl (f_iload 1, 2)), (2, .inr (.inr (.inl (13, 5, 2, mX6_requireEvent)))), (5, .inl (f_aload 0, 6)), (6, .inl (f_get 6 0, 9)), (9, .inl (f_get 4 2, 12)), (12, .inl (f_get 0 2, 15)), (15, .inl (f_iload 1, 16)), (16, .inr (.inr (.inl (1, 17, 0, m0)))), (17, .inr (.inr (.inl (16, 18, 0, m0))))]
set_option maxRecDepth 10000 in
theorem kX6_eventTime_0 {X : Ctx} (h : sCx X mX6_eventTime) : tab X mX6_eventTime tX6_eventTime_0 :=
  tab_cons (eS (st_aloadn h rfl dX6_eventTime_0)) (
  tab_cons (eS (st_iloadn h rfl dX6_eventTime_1)) (
  tab_cons (eO (so_callV h gw_244 gw_245 gw_246 gw_27 gw_247 ⟨by decide +kernel, by decide +kernel, by decide +kernel, by decide +kernel⟩ ⟨by decide +kernel, by decide +kernel⟩ dX6_eventTime_2)) (
  tab_cons (eS (st_aloadn h rfl dX6_eventTime_5)) (
  tab_cons (eS (st_get h (ci := 6) (k := 0) rfl giX6 (by decide) rfl gw_171 dX6_eventTime_6)) (
  tab_cons (eS (st_get h (ci := 4) (k := 2) rfl giX4 (by decide) rfl gw_242 dX6_eventTime_9)) (
  tab_cons (eS (st_get h (ci := 0) (k := 2) rfl giX0 (by decide) rfl gw_249 dX6_eventTime_12)) (
  tab_cons (eS (st_iloadn h rfl dX6_eventTime_15)) (
  tab_cons (eO (so_daload h dX6_eventTime_16)) (
  tab_cons (eO (so_dreturn h dX6_eventTime_17)) (
  tab_nil))))))))))
def tX6_eventTime : Tb := tX6_eventTime_0
theorem kX6_eventTime {X : Ctx} (h : sCx X mX6_eventTime) : tab X mX6_eventTime tX6_eventTime := kX6_eventTime_0 h
theorem dX6_clearedTime_0 : decode cX6_clearedTime 0 = .ok (.aload_n 0, 1) := by decide +kernel
theorem dX6_clearedTime_1 : decode cX6_clearedTime 1 = .ok (.getfield 12, 3) := by decide +kernel
theorem dX6_clearedTime_4 : decode cX6_clearedTime 4 = .ok (.getfield 203, 3) := by decide +kernel
theorem dX6_clearedTime_7 : decode cX6_clearedTime 7 = .ok (.getfield 222, 3) := by decide +kernel
theorem dX6_clearedTime_10 : decode cX6_clearedTime 10 = .ok (.dreturn, 1) := by decide +kernel
def tX6_clearedTime_0 : Tb := [(0, .inl (f_aload 0, 1)), (1, .inl (f_get 6 0, 4)), (4, .inl (f_get 4 2, 7)), (7, .inl (f_get 0 3, 10)), (10, .inr (.inr (.inl (16, 11, 0, m0))))]
set_option maxRecDepth 10000 in
theorem kX6_clearedTime_0 {X : Ctx} (h : sCx X mX6_clearedTime) : tab X mX6_clearedTime tX6_clearedTime_0 :=
  tab_cons (eS (st_aloadn h rfl dX6_clearedTime_0)) (
  tab_cons (eS (st_get h (ci := 6) (k := 0) rfl giX6 (by decide) rfl gw_171 dX6_clearedTime_1)) (
  tab_cons (eS (st_get h (ci := 4) (k := 2) rfl giX4 (by decide) rfl gw_242 dX6_clearedTime_4)) (
  tab_cons (eS (st_get h (ci := 0) (k := 3) rfl giX0 (by decide) rfl gw_250 dX6_clearedTime_7)) (
  tab_cons (eO (so_dreturn h dX6_clearedTime_10)) (
  tab_nil)))))
def tX6_clearedTime : Tb := tX6_clearedTime_0
theorem kX6_clearedTime {X : Ctx} (h : sCx X mX6_clearedTime) : tab X mX6_clearedTime tX6_clearedTime := kX6_clearedTime_0 h
theorem dX6_openBreakers_0 : decode cX6_openBreakers 0 = .ok (.aload_n 0, 1) := by decide +kernel
theorem dX6_openBreakers_1 : decode cX6_openBreakers 1 = .ok (.getfield 12, 3) := by decide +kernel
theorem dX6_openBreakers_4 : decode cX6_openBreakers 4 = .ok (.getfield 113, 3) := by decide +kernel
theorem dX6_openBreakers_7 : decode cX6_openBreakers 7 = .ok (.getfield 225, 3) := by decide +kernel
theorem dX6_openBreakers_10 : decode cX6_openBreakers 10 = .ok (.ireturn, 1) := by decide +kernel
def tX6_openBreakers_0 : Tb := [(0, .inl (f_aload 0, 1)), (1, .inl (f_get 6 0, 4)), (4, .inl (f_get 4 1, 7)), (7, .inl (f_get 2 6, 10)), (10, .inr (.inr (.inl (15, 11, 0, m0))))]
set_option maxRecDepth 10000 in
theorem kX6_openBreakers_0 {X : Ctx} (h : sCx X mX6_openBreakers) : tab X mX6_openBreakers tX6_openBreakers_0 :=
  tab_cons (eS (st_aloadn h rfl dX6_openBreakers_0)) (
  tab_cons (eS (st_get h (ci := 6) (k := 0) rfl giX6 (by decide) rfl gw_171 dX6_openBreakers_1)) (
  tab_cons (eS (st_get h (ci := 4) (k := 1) rfl giX4 (by decide) rfl gw_201 dX6_openBreakers_4)) (
  tab_cons (eS (st_get h (ci := 2) (k := 6) rfl giX2 (by decide) rfl gw_251 dX6_openBreakers_7)) (
  tab_cons (eO (so_ireturn h dX6_openBreakers_10)) (
  tab_nil)))))
def tX6_openBreakers : Tb := tX6_openBreakers_0
theorem kX6_openBreakers {X : Ctx} (h : sCx X mX6_openBreakers) : tab X mX6_openBreakers tX6_openBreakers := kX6_openBreakers_0 h
theorem dX6_lostLoad_0 : decode cX6_lostLoad 0 = .ok (.aload_n 0, 1) := by decide +kernel
theorem dX6_lostLoad_1 : decode cX6_lostLoad 1 = .ok (.getfield 12, 3) := by decide +kernel
theorem dX6_lostLoad_4 : decode cX6_lostLoad 4 = .ok (.getfield 53, 3) := by decide +kernel
theorem dX6_lostLoad_7 : decode cX6_lostLoad 7 = .ok (.aload_n 0, 1) := by decide +kernel
theorem dX6_lostLoad_8 : decode cX6_lostLoad 8 = .ok (.getfield 12, 3) := by decide +kernel
theorem dX6_lostLoad_11 : decode cX6_lostLoad 11 = .ok (.getfield 113, 3) := by decide +kernel
theorem dX6_lostLoad_14 : decode cX6_lostLoad 14 = .ok (.getfield 225, 3) := by decide +kernel
theorem dX6_lostLoad_17 : decode cX6_lostLoad 17 = .ok (.invokevirtual 96, 3) := by decide +kernel
theorem dX6_lostLoad_20 : decode cX6_lostLoad 20 = .ok (.ireturn, 1) := by decide +kernel
def tX6_lostLoad_0 : Tb := [(0, .inl (f_aload 0, 1)), (1, .inl (f_get 6 0, 4)), (4, .inl (f_get 4 0, 7)), (7, .inl (f_aload 0, 8)), (8, .inl (f_get 6 0, 11)), (11, .inl (f_get 4 1, 14)), (14, .inl (f_get 2 6, 17)), (17, .inr (.inr (.inl (13, 20, 2, mX1_loadOver)))), (20, .inr (.inr (.inl (15, 21, 0, m0))))]
set_option maxRecDepth 10000 in
theorem kX6_lostLoad_0 {X : Ctx} (h : sCx X mX6_lostLoad) : tab X mX6_lostLoad tX6_lostLoad_0 :=
  tab_cons (eS (st_aloadn h rfl dX6_lostLoad_0)) (
  tab_cons (eS (st_get h (ci := 6) (k := 0) rfl giX6 (by decide) rfl gw_171 dX6_lostLoad_1)) (
  tab_cons (eS (st_get h (ci := 4) (k := 0) rfl giX4 (by decide) rfl gw_177 dX6_lostLoad_4)) (
  tab_cons (eS (st_aloadn h rfl dX6_lostLoad_7)) (
  tab_cons (eS (st_get h (ci := 6) (k := 0) rfl giX6 (by decide) rfl gw_171 dX6_lostLoad_8)) (
  tab_cons (eS (st_get h (ci := 4) (k := 1) rfl giX4 (by decide) rfl gw_201 dX6_lostLoad_11)) (
  tab_cons (eS (st_get h (ci := 2) (k := 6) rfl giX2 (by decide) rfl gw_251 dX6_lostLoad_14)) (
  tab_cons (eO (so_callV h gw_193 gw_194 gw_195 gw_53 gw_196 ⟨by decide +kernel, by decide +kernel, by decide +kernel, by decide +kernel⟩ ⟨by decide +kernel, by decide +kernel⟩ dX6_lostLoad_17)) (
  tab_cons (eO (so_ireturn h dX6_lostLoad_20)) (
  tab_nil)))))))))
def tX6_lostLoad : Tb := tX6_lostLoad_0
theorem kX6_lostLoad {X : Ctx} (h : sCx X mX6_lostLoad) : tab X mX6_lostLoad tX6_lostLoad := kX6_lostLoad_0 h
theorem dX6_closeAll_0 : decode cX6_closeAll 0 = .ok (.aload_n 0, 1) := by decide +kernel
theorem dX6_closeAll_1 : decode cX6_closeAll 1 = .ok (.getfield 19, 3) := by decide +kernel
theorem dX6_closeAll_4 : decode cX6_closeAll 4 = .ok (.aload_n 0, 1) := by decide +kernel
theorem dX6_closeAll_5 : decode cX6_closeAll 5 = .ok (.getfield 12, 3) := by decide +kernel
theorem dX6_closeAll_8 : decode cX6_closeAll 8 = .ok (.invokevirtual 49, 3) := by decide +kernel
theorem dX6_closeAll_11 : decode cX6_closeAll 11 = .ok (.aload_n 0, 1) := by decide +kernel
theorem dX6_closeAll_12 : decode cX6_closeAll 12 = .ok (.getfield 12, 3) := by decide +kernel
theorem dX6_closeAll_15 : decode cX6_closeAll 15 = .ok (.getfield 113, 3) := by decide +kernel
theorem dX6_closeAll_18 : decode cX6_closeAll 18 = .ok (.getfield 225, 3) := by decide +kernel
theorem dX6_closeAll_21 : decode cX6_closeAll 21 = .ok (.invokestatic 228, 3) := by decide +kernel
theorem dX6_closeAll_24 : decode cX6_closeAll 24 = .ok (.istore_n 1, 1) := by decide +kernel
theorem dX6_closeAll_25 : decode cX6_closeAll 25 = .ok (.aload_n 0, 1) := by decide +kernel
theorem dX6_closeAll_26 : decode cX6_closeAll 26 = .ok (.getfield 12, 3) := by decide +kernel
theorem dX6_closeAll_29 : decode cX6_closeAll 29 = .ok (.getfield 113, 3) := by decide +kernel
theorem dX6_closeAll_32 : decode cX6_closeAll 32 = .ok (.iconst 0, 1) := by decide +kernel
theorem dX6_closeAll_33 : decode cX6_closeAll 33 = .ok (.putfield 225, 3) := by decide +kernel
theorem dX6_closeAll_36 : decode cX6_closeAll 36 = .ok (.iload_n 1, 1) := by decide +kernel
theorem dX6_closeAll_37 : decode cX6_closeAll 37 = .ok (.ireturn, 1) := by decide +kernel
def tX6_closeAll_0 : Tb := [(0, .inl (f_aload 0, 1)), (1, .inl (f_get 6 1, 4)), (4, .inl (f_aload 0, 5)), (5, .inl (f_get 6 0, 8)), (8, .inr (.inr (.inl (13, 11, 2, mX5_push)))), (11, .inl (f_aload 0, 12)), (12, .inl (f_get 6 0, 15)), (15, .inl (f_get 4 1, 18)), (18, .inl (f_get 2 6, 21)), (21, .inr (.inr (.inl (14, 24, 1, mJ6_bitCount_0f7a4)))), (24, .inl (f_istore 2 1, 25)), (25, .inl (f_aload 0, 26)), (26, .inl (f_get 6 0, 29)), (29, .inl (f_get 4 1, 32)), (32, .inl (f_ci (0), 33)), (33, .inl (f_putI 2 6, 36)), (36, .inl (f_iload 1, 37)), (37, .inr (.inr (.inl (15, 38, 0, m0))))]
set_option maxRecDepth 10000 in
theorem kX6_closeAll_0 {X : Ctx} (h : sCx X mX6_closeAll) : tab X mX6_closeAll tX6_closeAll_0 :=
  tab_cons (eS (st_aloadn h rfl dX6_closeAll_0)) (
  tab_cons (eS (st_get h (ci := 6) (k := 1) rfl giX6 (by decide) rfl gw_170 dX6_closeAll_1)) (
  tab_cons (eS (st_aloadn h rfl dX6_closeAll_4)) (
  tab_cons (eS (st_get h (ci := 6) (k := 0) rfl giX6 (by decide) rfl gw_171 dX6_closeAll_5)) (
  tab_cons (eO (so_callV h gw_172 gw_173 gw_174 gw_175 gw_176 ⟨by decide +kernel, by decide +kernel, by decide +kernel, by decide +kernel⟩ ⟨by decide +kernel, by decide +kernel⟩ dX6_closeAll_8)) (
  tab_cons (eS (st_aloadn h rfl dX6_closeAll_11)) (
  tab_cons (eS (st_get h (ci := 6) (k := 0) rfl giX6 (by decide) rfl gw_171 dX6_closeAll_12)) (
  tab_cons (eS (st_get h (ci := 4) (k := 1) rfl giX4 (by decide) rfl gw_201 dX6_closeAll_15)) (
  tab_cons (eS (st_get h (ci := 2) (k := 6) rfl giX2 (by decide) rfl gw_251 dX6_closeAll_18)) (
  tab_cons (eO (so_callS h gw_252 gw_253 gw_254 gw_255 ⟨by decide +kernel, by decide +kernel, by decide +kernel⟩ ⟨by decide +kernel, by decide +kernel⟩ dX6_closeAll_21)) (
  tab_cons (eS (st_istoren h rfl dX6_closeAll_24)) (
  tab_cons (eS (st_aloadn h rfl dX6_closeAll_25)) (
  tab_cons (eS (st_get h (ci := 6) (k := 0) rfl giX6 (by decide) rfl gw_171 dX6_closeAll_26)) (
  tab_cons (eS (st_get h (ci := 4) (k := 1) rfl giX4 (by decide) rfl gw_201 dX6_closeAll_29)) (
  tab_cons (eS (st_iconst h (by decide +kernel) dX6_closeAll_32)) (
  tab_cons (eS (st_putI h (ci := 2) (k := 6) tyX2 tyX2_ok nmX2 rfl giX2 (by decide) rfl rfl (by decide +kernel) gw_251 dX6_closeAll_33)) (
  tab_cons (eS (st_iloadn h rfl dX6_closeAll_36)) (
  tab_cons (eO (so_ireturn h dX6_closeAll_37)) (
  tab_nil))))))))))))))))))
def tX6_closeAll : Tb := tX6_closeAll_0
theorem kX6_closeAll {X : Ctx} (h : sCx X mX6_closeAll) : tab X mX6_closeAll tX6_closeAll := kX6_closeAll_0 h
theorem dX6_undo_0 : decode cX6_undo 0 = .ok (.aload_n 0, 1) := by decide +kernel
theorem dX6_undo_1 : decode cX6_undo 1 = .ok (.getfield 19, 3) := by decide +kernel
theorem dX6_undo_4 : decode cX6_undo 4 = .ok (.getfield 233, 3) := by decide +kernel
theorem dX6_undo_7 : decode cX6_undo 7 = .ok (.ifCond .ne 13, 3) := by decide +kernel
theorem dX6_undo_10 : decode cX6_undo 10 = .ok (.new 75, 3) := by decide +kernel
theorem dX6_undo_13 : decode cX6_undo 13 = .ok (.dup, 1) := by decide +kernel
theorem dX6_undo_14 : decode cX6_undo 14 = .ok (.ldc 234, 2) := by decide +kernel
theorem dX6_undo_16 : decode cX6_undo 16 = .ok (.invokespecial 79, 3) := by decide +kernel
theorem dX6_undo_19 : decode cX6_undo 19 = .ok (.athrow, 1) := by decide +kernel
theorem dX6_undo_20 : decode cX6_undo 20 = .ok (.aload_n 0, 1) := by decide +kernel
theorem dX6_undo_21 : decode cX6_undo 21 = .ok (.getfield 19, 3) := by decide +kernel
theorem dX6_undo_24 : decode cX6_undo 24 = .ok (.aload_n 0, 1) := by decide +kernel
theorem dX6_undo_25 : decode cX6_undo 25 = .ok (.getfield 12, 3) := by decide +kernel
theorem dX6_undo_28 : decode cX6_undo 28 = .ok (.invokevirtual 236, 3) := by decide +kernel
theorem dX6_undo_31 : decode cX6_undo 31 = .ok (.aload_n 0, 1) := by decide +kernel
theorem dX6_undo_32 : decode cX6_undo 32 = .ok (.getfield 19, 3) := by decide +kernel
theorem dX6_undo_35 : decode cX6_undo 35 = .ok (.getfield 233, 3) := by decide +kernel
theorem dX6_undo_38 : decode cX6_undo 38 = .ok (.ireturn, 1) := by decide +kernel
def tX6_undo_0 : Tb := [(0, .inl (f_aload 0, 1)), (1, .inl (f_get 6 1, 4)), (4, .inl (f_get 5 0, 7)), (7, .inr (.inl (b_if_eq, 10, 20))), (13, .inl (f_dup, 14)), (20, .inl (f_aload 0, 21)), (21, .inl (f_get 6 1, 24)), (24, .inl (f_aload 0, 25)), (25, .inl (f_get 6 0, 28)), (28, .inr (.inr (.inl (13, 31, 2, mX5_popInto)))), (31, .inl (f_aload 0, 32)), (32, .inl (f_get 6 1, 35)), (35, .inl (f_get 5 0, 38)), (38, .inr (.inr (.inl (15, 39, 0, m0))))]
set_option maxRecDepth 10000 in
theorem kX6_undo_0 {X : Ctx} (h : sCx X mX6_undo) : tab X mX6_undo tX6_undo_0 :=
  tab_cons (eS (st_aloadn h rfl dX6_undo_0)) (
  tab_cons (eS (st_get h (ci := 6) (k := 1) rfl giX6 (by decide) rfl gw_170 dX6_undo_1)) (
  tab_cons (eS (st_get h (ci := 5) (k := 0) rfl giX5 (by decide) rfl gw_256 dX6_undo_4)) (
  tab_cons (eB (sb_if_ne h dX6_undo_7 (by decide))) (
  tab_cons (eS (st_dup h dX6_undo_13)) (
  tab_cons (eS (st_aloadn h rfl dX6_undo_20)) (
  tab_cons (eS (st_get h (ci := 6) (k := 1) rfl giX6 (by decide) rfl gw_170 dX6_undo_21)) (
  tab_cons (eS (st_aloadn h rfl dX6_undo_24)) (
  tab_cons (eS (st_get h (ci := 6) (k := 0) rfl giX6 (by decide) rfl gw_171 dX6_undo_25)) (
  tab_cons (eO (so_callV h gw_257 gw_258 gw_259 gw_175 gw_260 ⟨by decide +kernel, by decide +kernel, by decide +kernel, by decide +kernel⟩ ⟨by decide +kernel, by decide +kernel⟩ dX6_undo_28)) (
  tab_cons (eS (st_aloadn h rfl dX6_undo_31)) (
  tab_cons (eS (st_get h (ci := 6) (k := 1) rfl giX6 (by decide) rfl gw_170 dX6_undo_32)) (
  tab_cons (eS (st_get h (ci := 5) (k := 0) rfl giX5 (by decide) rfl gw_256 dX6_undo_35)) (
  tab_cons (eO (so_ireturn h dX6_undo_38)) (
  tab_nil))))))))))))))
def tX6_undo : Tb := tX6_undo_0
theorem kX6_undo {X : Ctx} (h : sCx X mX6_undo) : tab X mX6_undo tX6_undo := kX6_undo_0 h
theorem dX6_digest_0 : decode cX6_digest 0 = .ok (.ldc2_w 239, 3) := by decide +kernel
theorem dX6_digest_3 : decode cX6_digest 3 = .ok (.aload_n 0, 1) := by decide +kernel
theorem dX6_digest_4 : decode cX6_digest 4 = .ok (.getfield 19, 3) := by decide +kernel
theorem dX6_digest_7 : decode cX6_digest 7 = .ok (.getfield 233, 3) := by decide +kernel
theorem dX6_digest_10 : decode cX6_digest 10 = .ok (.i2l, 1) := by decide +kernel
theorem dX6_digest_11 : decode cX6_digest 11 = .ok (.invokestatic 241, 3) := by decide +kernel
theorem dX6_digest_14 : decode cX6_digest 14 = .ok (.lstore_n 1, 1) := by decide +kernel
theorem dX6_digest_15 : decode cX6_digest 15 = .ok (.lload_n 1, 1) := by decide +kernel
theorem dX6_digest_16 : decode cX6_digest 16 = .ok (.aload_n 0, 1) := by decide +kernel
theorem dX6_digest_17 : decode cX6_digest 17 = .ok (.getfield 12, 3) := by decide +kernel
theorem dX6_digest_20 : decode cX6_digest 20 = .ok (.getfield 53, 3) := by decide +kernel
theorem dX6_digest_23 : decode cX6_digest 23 = .ok (.getfield 63, 3) := by decide +kernel
theorem dX6_digest_26 : decode cX6_digest 26 = .ok (.invokestatic 245, 3) := by decide +kernel
theorem dX6_digest_29 : decode cX6_digest 29 = .ok (.invokestatic 241, 3) := by decide +kernel
theorem dX6_digest_32 : decode cX6_digest 32 = .ok (.lstore_n 1, 1) := by decide +kernel
theorem dX6_digest_33 : decode cX6_digest 33 = .ok (.lload_n 1, 1) := by decide +kernel
theorem dX6_digest_34 : decode cX6_digest 34 = .ok (.aload_n 0, 1) := by decide +kernel
theorem dX6_digest_35 : decode cX6_digest 35 = .ok (.getfield 12, 3) := by decide +kernel
theorem dX6_digest_38 : decode cX6_digest 38 = .ok (.getfield 53, 3) := by decide +kernel
theorem dX6_digest_41 : decode cX6_digest 41 = .ok (.getfield 57, 3) := by decide +kernel
theorem dX6_digest_44 : decode cX6_digest 44 = .ok (.invokestatic 245, 3) := by decide +kernel
theorem dX6_digest_47 : decode cX6_digest 47 = .ok (.invokestatic 241, 3) := by decide +kernel
theorem dX6_digest_50 : decode cX6_digest 50 = .ok (.lstore_n 1, 1) := by decide +kernel
theorem dX6_digest_51 : decode cX6_digest 51 = .ok (.lload_n 1, 1) := by decide +kernel
theorem dX6_digest_52 : decode cX6_digest 52 = .ok (.aload_n 0, 1) := by decide +kernel
theorem dX6_digest_53 : decode cX6_digest 53 = .ok (.getfield 12, 3) := by decide +kernel
theorem dX6_digest_56 : decode cX6_digest 56 = .ok (.getfield 166, 3) := by decide +kernel
theorem dX6_digest_59 : decode cX6_digest 59 = .ok (.invokestatic 245, 3) := by decide +kernel
theorem dX6_digest_62 : decode cX6_digest 62 = .ok (.invokestatic 241, 3) := by decide +kernel
theorem dX6_digest_65 : decode cX6_digest 65 = .ok (.lstore_n 1, 1) := by decide +kernel
theorem dX6_digest_66 : decode cX6_digest 66 = .ok (.lload_n 1, 1) := by decide +kernel
theorem dX6_digest_67 : decode cX6_digest 67 = .ok (.aload_n 0, 1) := by decide +kernel
theorem dX6_digest_68 : decode cX6_digest 68 = .ok (.getfield 12, 3) := by decide +kernel
theorem dX6_digest_71 : decode cX6_digest 71 = .ok (.getfield 53, 3) := by decide +kernel
theorem dX6_digest_74 : decode cX6_digest 74 = .ok (.getfield 66, 3) := by decide +kernel
theorem dX6_digest_77 : decode cX6_digest 77 = .ok (.i2l, 1) := by decide +kernel
theorem dX6_digest_78 : decode cX6_digest 78 = .ok (.invokestatic 241, 3) := by decide +kernel
theorem dX6_digest_81 : decode cX6_digest 81 = .ok (.lstore_n 1, 1) := by decide +kernel
theorem dX6_digest_82 : decode cX6_digest 82 = .ok (.iconst 0, 1) := by decide +kernel
theorem dX6_digest_83 : decode cX6_digest 83 = .ok (.istore_n 3, 1) := by decide +kernel
theorem dX6_digest_84 : decode cX6_digest 84 = .ok (.iload_n 3, 1) := by decide +kernel
theorem dX6_digest_85 : decode cX6_digest 85 = .ok (.aload_n 0, 1) := by decide +kernel
theorem dX6_digest_86 : decode cX6_digest 86 = .ok (.getfield 12, 3) := by decide +kernel
theorem dX6_digest_89 : decode cX6_digest 89 = .ok (.getfield 53, 3) := by decide +kernel
theorem dX6_digest_92 : decode cX6_digest 92 = .ok (.getfield 66, 3) := by decide +kernel
theorem dX6_digest_95 : decode cX6_digest 95 = .ok (.if_icmp .ge 16, 3) := by decide +kernel
theorem dX6_digest_98 : decode cX6_digest 98 = .ok (.aload_n 0, 1) := by decide +kernel
theorem dX6_digest_99 : decode cX6_digest 99 = .ok (.lload_n 1, 1) := by decide +kernel
theorem dX6_digest_100 : decode cX6_digest 100 = .ok (.iload_n 3, 1) := by decide +kernel
theorem dX6_digest_101 : decode cX6_digest 101 = .ok (.invokevirtual 249, 3) := by decide +kernel
theorem dX6_digest_104 : decode cX6_digest 104 = .ok (.lstore_n 1, 1) := by decide +kernel
theorem dX6_digest_105 : decode cX6_digest 105 = .ok (.iinc 3 1, 3) := by decide +kernel
theorem dX6_digest_108 : decode cX6_digest 108 = .ok (.goto (-24), 3) := by decide +kernel
theorem dX6_digest_111 : decode cX6_digest 111 = .ok (.lload_n 1, 1) := by decide +kernel
theorem dX6_digest_112 : decode cX6_digest 112 = .ok (.aload_n 0, 1) := by decide +kernel
theorem dX6_digest_113 : decode cX6_digest 113 = .ok (.getfield 12, 3) := by decide +kernel
theorem dX6_digest_116 : decode cX6_digest 116 = .ok (.getfield 113, 3) := by decide +kernel
theorem dX6_digest_119 : decode cX6_digest 119 = .ok (.getfield 225, 3) := by decide +kernel
theorem dX6_digest_122 : decode cX6_digest 122 = .ok (.i2l, 1) := by decide +kernel
theorem dX6_digest_123 : decode cX6_digest 123 = .ok (.invokestatic 241, 3) := by decide +kernel
theorem dX6_digest_126 : decode cX6_digest 126 = .ok (.lstore_n 1, 1) := by decide +kernel
theorem dX6_digest_127 : decode cX6_digest 127 = .ok (.lload_n 1, 1) := by decide +kernel
theorem dX6_digest_128 : decode cX6_digest 128 = .ok (.aload_n 0, 1) := by decide +kernel
theorem dX6_digest_129 : decode cX6_digest 129 = .ok (.getfield 12, 3) := by decide +kernel
theorem dX6_digest_132 : decode cX6_digest 132 = .ok (.invokevirtual 174, 3) := by decide +kernel
theorem dX6_digest_135 : decode cX6_digest 135 = .ok (.i2l, 1) := by decide +kernel
theorem dX6_digest_136 : decode cX6_digest 136 = .ok (.invokestatic 241, 3) := by decide +kernel
theorem dX6_digest_139 : decode cX6_digest 139 = .ok (.lstore_n 1, 1) := by decide +kernel
theorem dX6_digest_140 : decode cX6_digest 140 = .ok (.aload_n 0, 1) := by decide +kernel
theorem dX6_digest_141 : decode cX6_digest 141 = .ok (.lload_n 1, 1) := by decide +kernel
theorem dX6_digest_142 : decode cX6_digest 142 = .ok (.invokevirtual 253, 3) := by decide +kernel
theorem dX6_digest_145 : decode cX6_digest 145 = .ok (.lreturn, 1) := by decide +kernel
def tX6_digest_0 : Tb := [(0, .inl (f_cl (11901), 3)), (3, .inl (f_aload 0, 4)), (4, .inl (f_get 6 1, 7)), (7, .inl (f_get 5 0, 10)), (10, .inl (f_i2l, 11)), (11, .inr (.inr (.inl (14, 14, 2, mX6_mixed)))), (14, .inl (f_lstore 4 1, 15)), (15, .inl (f_lload 1, 16)), (16, .inl (f_aload 0, 17)), (17, .inl (f_get 6 0, 20)), (20, .inl (f_get 4 0, 23)), (23, .inl (f_get 1 0, 26)), (26, .inr (.inr (.inl (14, 29, 1, mX6_bitsOf)))), (29, .inr (.inr (.inl (14, 32, 2, mX6_mixed)))), (32, .inl (f_lstore 4 1, 33)), (33, .inl (f_lload 1, 34)), (34, .inl (f_aload 0, 35)), (35, .inl (f_get 6 0, 38)), (38, .inl (f_get 4 0, 41)), (41, .inl (f_get 1 1, 44)), (44, .inr (.inr (.inl (14, 47, 1, mX6_bitsOf)))), (47, .inr (.inr (.inl (14, 50, 2, mX6_mixed)))), (50, .inl (f_lstore 4 1, 51)), (51, .inl (f_lload 1, 52)), (52, .inl (f_aload 0, 53)), (53, .inl (f_get 6 0, 56)), (56, .inl (f_get 4 3, 59)), (59, .inr (.inr (.inl (14, 62, 1, mX6_bitsOf)))), (62, .inr (.inr (.inl (14, 65, 2, mX6_mixed)))), (65, .inl (f_lstore 4 1, 66))]
set_option maxRecDepth 10000 in
theorem kX6_digest_0 {X : Ctx} (h : sCx X mX6_digest) : tab X mX6_digest tX6_digest_0 :=
  tab_cons (eS (st_ldc2l h gw_261 dX6_digest_0)) (
  tab_cons (eS (st_aloadn h rfl dX6_digest_3)) (
  tab_cons (eS (st_get h (ci := 6) (k := 1) rfl giX6 (by decide) rfl gw_170 dX6_digest_4)) (
  tab_cons (eS (st_get h (ci := 5) (k := 0) rfl giX5 (by decide) rfl gw_256 dX6_digest_7)) (
  tab_cons (eS (st_i2l h dX6_digest_10)) (
  tab_cons (eO (so_callS h gw_262 gw_263 gw_27 gw_264 ⟨by decide +kernel, by decide +kernel, by decide +kernel⟩ ⟨by decide +kernel, by decide +kernel⟩ dX6_digest_11)) (
  tab_cons (eS (st_lstoren h rfl dX6_digest_14)) (
  tab_cons (eS (st_lloadn h rfl dX6_digest_15)) (
  tab_cons (eS (st_aloadn h rfl dX6_digest_16)) (
  tab_cons (eS (st_get h (ci := 6) (k := 0) rfl giX6 (by decide) rfl gw_171 dX6_digest_17)) (
  tab_cons (eS (st_get h (ci := 4) (k := 0) rfl giX4 (by decide) rfl gw_177 dX6_digest_20)) (
  tab_cons (eS (st_get h (ci := 1) (k := 0) rfl giX1 (by decide) rfl gw_179 dX6_digest_23)) (
  tab_cons (eO (so_callS h gw_265 gw_266 gw_27 gw_267 ⟨by decide +kernel, by decide +kernel, by decide +kernel⟩ ⟨by decide +kernel, by decide +kernel⟩ dX6_digest_26)) (
  tab_cons (eO (so_callS h gw_262 gw_263 gw_27 gw_264 ⟨by decide +kernel, by decide +kernel, by decide +kernel⟩ ⟨by decide +kernel, by decide +kernel⟩ dX6_digest_29)) (
  tab_cons (eS (st_lstoren h rfl dX6_digest_32)) (
  tab_cons (eS (st_lloadn h rfl dX6_digest_33)) (
  tab_cons (eS (st_aloadn h rfl dX6_digest_34)) (
  tab_cons (eS (st_get h (ci := 6) (k := 0) rfl giX6 (by decide) rfl gw_171 dX6_digest_35)) (
  tab_cons (eS (st_get h (ci := 4) (k := 0) rfl giX4 (by decide) rfl gw_177 dX6_digest_38)) (
  tab_cons (eS (st_get h (ci := 1) (k := 1) rfl giX1 (by decide) rfl gw_178 dX6_digest_41)) (
  tab_cons (eO (so_callS h gw_265 gw_266 gw_27 gw_267 ⟨by decide +kernel, by decide +kernel, by decide +kernel⟩ ⟨by decide +kernel, by decide +kernel⟩ dX6_digest_44)) (
  tab_cons (eO (so_callS h gw_262 gw_263 gw_27 gw_264 ⟨by decide +kernel, by decide +kernel, by decide +kernel⟩ ⟨by decide +kernel, by decide +kernel⟩ dX6_digest_47)) (
  tab_cons (eS (st_lstoren h rfl dX6_digest_50)) (
  tab_cons (eS (st_lloadn h rfl dX6_digest_51)) (
  tab_cons (eS (st_aloadn h rfl dX6_digest_52)) (
  tab_cons (eS (st_get h (ci := 6) (k := 0) rfl giX6 (by decide) rfl gw_171 dX6_digest_53)) (
  tab_cons (eS (st_get h (ci := 4) (k := 3) rfl giX4 (by decide) rfl gw_219 dX6_digest_56)) (
  tab_cons (eO (so_callS h gw_265 gw_266 gw_27 gw_267 ⟨by decide +kernel, by decide +kernel, by decide +kernel⟩ ⟨by decide +kernel, by decide +kernel⟩ dX6_digest_59)) (
  tab_cons (eO (so_callS h gw_262 gw_263 gw_27 gw_264 ⟨by decide +kernel, by decide +kernel, by decide +kernel⟩ ⟨by decide +kernel, by decide +kernel⟩ dX6_digest_62)) (
  tab_cons (eS (st_lstoren h rfl dX6_digest_65)) (
  tab_nil))))))))))))))))))))))))))))))
def tX6_digest_1 : Tb := [(66, .inl (f_lload 1, 67)), (67, .inl (f_aload 0, 68)), (68, .inl (f_get 6 0, 71)), (71, .inl (f_get 4 0, 74)), (74, .inl (f_get 1 2, 77)), (77, .inl (f_i2l, 78)), (78, .inr (.inr (.inl (14, 81, 2, mX6_mixed)))), (81, .inl (f_lstore 4 1, 82)), (82, .inl (f_ci (0), 83)), (83, .inl (f_istore 4 3, 84)), (84, .inl (f_iload 3, 85)), (85, .inl (f_aload 0, 86)), (86, .inl (f_get 6 0, 89)), (89, .inl (f_get 4 0, 92)), (92, .inl (f_get 1 2, 95)), (95, .inr (.inl (b_icmp_ge, 111, 98))), (98, .inl (f_aload 0, 99)), (99, .inl (f_lload 1, 100)), (100, .inl (f_iload 3, 101)), (101, .inr (.inr (.inl (13, 104, 3, mX6_mixedLine)))), (104, .inl (f_lstore 4 1, 105)), (105, .inl (f_iinc 4 3 (1), 108)), (108, .inl (f_id, 84)), (111, .inl (f_lload 1, 112)), (112, .inl (f_aload 0, 113)), (113, .inl (f_get 6 0, 116)), (116, .inl (f_get 4 1, 119)), (119, .inl (f_get 2 6, 122)), (122, .inl (f_i2l, 123)), (123, .inr (.inr (.inl (14, 126, 2, mX6_mixed))))]
set_option maxRecDepth 10000 in
theorem kX6_digest_1 {X : Ctx} (h : sCx X mX6_digest) : tab X mX6_digest tX6_digest_1 :=
  tab_cons (eS (st_lloadn h rfl dX6_digest_66)) (
  tab_cons (eS (st_aloadn h rfl dX6_digest_67)) (
  tab_cons (eS (st_get h (ci := 6) (k := 0) rfl giX6 (by decide) rfl gw_171 dX6_digest_68)) (
  tab_cons (eS (st_get h (ci := 4) (k := 0) rfl giX4 (by decide) rfl gw_177 dX6_digest_71)) (
  tab_cons (eS (st_get h (ci := 1) (k := 2) rfl giX1 (by decide) rfl gw_180 dX6_digest_74)) (
  tab_cons (eS (st_i2l h dX6_digest_77)) (
  tab_cons (eO (so_callS h gw_262 gw_263 gw_27 gw_264 ⟨by decide +kernel, by decide +kernel, by decide +kernel⟩ ⟨by decide +kernel, by decide +kernel⟩ dX6_digest_78)) (
  tab_cons (eS (st_lstoren h rfl dX6_digest_81)) (
  tab_cons (eS (st_iconst h (by decide +kernel) dX6_digest_82)) (
  tab_cons (eS (st_istoren h rfl dX6_digest_83)) (
  tab_cons (eS (st_iloadn h rfl dX6_digest_84)) (
  tab_cons (eS (st_aloadn h rfl dX6_digest_85)) (
  tab_cons (eS (st_get h (ci := 6) (k := 0) rfl giX6 (by decide) rfl gw_171 dX6_digest_86)) (
  tab_cons (eS (st_get h (ci := 4) (k := 0) rfl giX4 (by decide) rfl gw_177 dX6_digest_89)) (
  tab_cons (eS (st_get h (ci := 1) (k := 2) rfl giX1 (by decide) rfl gw_180 dX6_digest_92)) (
  tab_cons (eB (sb_icmp_ge h dX6_digest_95 (by decide))) (
  tab_cons (eS (st_aloadn h rfl dX6_digest_98)) (
  tab_cons (eS (st_lloadn h rfl dX6_digest_99)) (
  tab_cons (eS (st_iloadn h rfl dX6_digest_100)) (
  tab_cons (eO (so_callV h gw_268 gw_269 gw_270 gw_27 gw_271 ⟨by decide +kernel, by decide +kernel, by decide +kernel, by decide +kernel⟩ ⟨by decide +kernel, by decide +kernel⟩ dX6_digest_101)) (
  tab_cons (eS (st_lstoren h rfl dX6_digest_104)) (
  tab_cons (eS (st_iinc h (by decide +kernel) dX6_digest_105)) (
  tab_cons (eS (st_goto h dX6_digest_108 (by decide))) (
  tab_cons (eS (st_lloadn h rfl dX6_digest_111)) (
  tab_cons (eS (st_aloadn h rfl dX6_digest_112)) (
  tab_cons (eS (st_get h (ci := 6) (k := 0) rfl giX6 (by decide) rfl gw_171 dX6_digest_113)) (
  tab_cons (eS (st_get h (ci := 4) (k := 1) rfl giX4 (by decide) rfl gw_201 dX6_digest_116)) (
  tab_cons (eS (st_get h (ci := 2) (k := 6) rfl giX2 (by decide) rfl gw_251 dX6_digest_119)) (
  tab_cons (eS (st_i2l h dX6_digest_122)) (
  tab_cons (eO (so_callS h gw_262 gw_263 gw_27 gw_264 ⟨by decide +kernel, by decide +kernel, by decide +kernel⟩ ⟨by decide +kernel, by decide +kernel⟩ dX6_digest_123)) (
  tab_nil))))))))))))))))))))))))))))))
def tX6_digest_2 : Tb := [(126, .inl (f_lstore 4 1, 127)), (127, .inl (f_lload 1, 128)), (128, .inl (f_aload 0, 129)), (129, .inl (f_get 6 0, 132)), (132, .inr (.inr (.inl (13, 135, 1, mX4_countViolations)))), (135, .inl (f_i2l, 136)), (136, .inr (.inr (.inl (14, 139, 2, mX6_mixed)))), (139, .inl (f_lstore 4 1, 140)), (140, .inl (f_aload 0, 141)), (141, .inl (f_lload 1, 142)), (142, .inr (.inr (.inl (13, 145, 2, mX6_mixedEvents)))), (145, .inr (.inr (.inl (17, 146, 0, m0))))]
set_option maxRecDepth 10000 in
theorem kX6_digest_2 {X : Ctx} (h : sCx X mX6_digest) : tab X mX6_digest tX6_digest_2 :=
  tab_cons (eS (st_lstoren h rfl dX6_digest_126)) (
  tab_cons (eS (st_lloadn h rfl dX6_digest_127)) (
  tab_cons (eS (st_aloadn h rfl dX6_digest_128)) (
  tab_cons (eS (st_get h (ci := 6) (k := 0) rfl giX6 (by decide) rfl gw_171 dX6_digest_129)) (
  tab_cons (eO (so_callV h gw_221 gw_222 gw_223 gw_136 gw_224 ⟨by decide +kernel, by decide +kernel, by decide +kernel, by decide +kernel⟩ ⟨by decide +kernel, by decide +kernel⟩ dX6_digest_132)) (
  tab_cons (eS (st_i2l h dX6_digest_135)) (
  tab_cons (eO (so_callS h gw_262 gw_263 gw_27 gw_264 ⟨by decide +kernel, by decide +kernel, by decide +kernel⟩ ⟨by decide +kernel, by decide +kernel⟩ dX6_digest_136)) (
  tab_cons (eS (st_lstoren h rfl dX6_digest_139)) (
  tab_cons (eS (st_aloadn h rfl dX6_digest_140)) (
  tab_cons (eS (st_lloadn h rfl dX6_digest_141)) (
  tab_cons (eO (so_callV h gw_272 gw_273 gw_274 gw_27 gw_275 ⟨by decide +kernel, by decide +kernel, by decide +kernel, by decide +kernel⟩ ⟨by decide +kernel, by decide +kernel⟩ dX6_digest_142)) (
  tab_cons (eO (so_lreturn h dX6_digest_145)) (
  tab_nil))))))))))))
def tX6_digest : Tb := tX6_digest_0 ++ (tX6_digest_1 ++ (tX6_digest_2))
theorem kX6_digest {X : Ctx} (h : sCx X mX6_digest) : tab X mX6_digest tX6_digest := tab_app (kX6_digest_0 h) (tab_app (kX6_digest_1 h) (kX6_digest_2 h))
theorem dX6_mixedLine_0 : decode cX6_mixedLine 0 = .ok (.aload_n 0, 1) := by decide +kernel
theorem dX6_mixedLine_1 : decode cX6_mixedLine 1 = .ok (.getfield 12, 3) := by decide +kernel
theorem dX6_mixedLine_4 : decode cX6_mixedLine 4 = .ok (.getfield 53, 3) := by decide +kernel
theorem dX6_mixedLine_7 : decode cX6_mixedLine 7 = .ok (.astore 4, 2) := by decide +kernel
theorem dX6_mixedLine_9 : decode cX6_mixedLine 9 = .ok (.aload_n 0, 1) := by decide +kernel
theorem dX6_mixedLine_10 : decode cX6_mixedLine 10 = .ok (.getfield 12, 3) := by decide +kernel
theorem dX6_mixedLine_13 : decode cX6_mixedLine 13 = .ok (.getfield 113, 3) := by decide +kernel
theorem dX6_mixedLine_16 : decode cX6_mixedLine 16 = .ok (.astore 5, 2) := by decide +kernel
theorem dX6_mixedLine_18 : decode cX6_mixedLine 18 = .ok (.lload_n 1, 1) := by decide +kernel
theorem dX6_mixedLine_19 : decode cX6_mixedLine 19 = .ok (.aload 4, 2) := by decide +kernel
theorem dX6_mixedLine_21 : decode cX6_mixedLine 21 = .ok (.getfield 257, 3) := by decide +kernel
theorem dX6_mixedLine_24 : decode cX6_mixedLine 24 = .ok (.iload_n 3, 1) := by decide +kernel
theorem dX6_mixedLine_25 : decode cX6_mixedLine 25 = .ok (.iaload, 1) := by decide +kernel
theorem dX6_mixedLine_26 : decode cX6_mixedLine 26 = .ok (.i2l, 1) := by decide +kernel
theorem dX6_mixedLine_27 : decode cX6_mixedLine 27 = .ok (.invokestatic 241, 3) := by decide +kernel
theorem dX6_mixedLine_30 : decode cX6_mixedLine 30 = .ok (.lstore 6, 2) := by decide +kernel
theorem dX6_mixedLine_32 : decode cX6_mixedLine 32 = .ok (.lload 6, 2) := by decide +kernel
theorem dX6_mixedLine_34 : decode cX6_mixedLine 34 = .ok (.aload 4, 2) := by decide +kernel
theorem dX6_mixedLine_36 : decode cX6_mixedLine 36 = .ok (.getfield 260, 3) := by decide +kernel
theorem dX6_mixedLine_39 : decode cX6_mixedLine 39 = .ok (.iload_n 3, 1) := by decide +kernel
theorem dX6_mixedLine_40 : decode cX6_mixedLine 40 = .ok (.daload, 1) := by decide +kernel
theorem dX6_mixedLine_41 : decode cX6_mixedLine 41 = .ok (.invokestatic 245, 3) := by decide +kernel
theorem dX6_mixedLine_44 : decode cX6_mixedLine 44 = .ok (.invokestatic 241, 3) := by decide +kernel
theorem dX6_mixedLine_47 : decode cX6_mixedLine 47 = .ok (.lstore 6, 2) := by decide +kernel
theorem dX6_mixedLine_49 : decode cX6_mixedLine 49 = .ok (.lload 6, 2) := by decide +kernel
theorem dX6_mixedLine_51 : decode cX6_mixedLine 51 = .ok (.aload 4, 2) := by decide +kernel
theorem dX6_mixedLine_53 : decode cX6_mixedLine 53 = .ok (.getfield 88, 3) := by decide +kernel
theorem dX6_mixedLine_56 : decode cX6_mixedLine 56 = .ok (.iload_n 3, 1) := by decide +kernel
theorem dX6_mixedLine_57 : decode cX6_mixedLine 57 = .ok (.iaload, 1) := by decide +kernel
theorem dX6_mixedLine_58 : decode cX6_mixedLine 58 = .ok (.i2l, 1) := by decide +kernel
theorem dX6_mixedLine_59 : decode cX6_mixedLine 59 = .ok (.invokestatic 241, 3) := by decide +kernel
theorem dX6_mixedLine_62 : decode cX6_mixedLine 62 = .ok (.lstore 6, 2) := by decide +kernel
theorem dX6_mixedLine_64 : decode cX6_mixedLine 64 = .ok (.lload 6, 2) := by decide +kernel
theorem dX6_mixedLine_66 : decode cX6_mixedLine 66 = .ok (.aload 5, 2) := by decide +kernel
theorem dX6_mixedLine_68 : decode cX6_mixedLine 68 = .ok (.getfield 117, 3) := by decide +kernel
theorem dX6_mixedLine_71 : decode cX6_mixedLine 71 = .ok (.iload_n 3, 1) := by decide +kernel
theorem dX6_mixedLine_72 : decode cX6_mixedLine 72 = .ok (.iaload, 1) := by decide +kernel
theorem dX6_mixedLine_73 : decode cX6_mixedLine 73 = .ok (.i2l, 1) := by decide +kernel
theorem dX6_mixedLine_74 : decode cX6_mixedLine 74 = .ok (.invokestatic 241, 3) := by decide +kernel
theorem dX6_mixedLine_77 : decode cX6_mixedLine 77 = .ok (.lstore 6, 2) := by decide +kernel
theorem dX6_mixedLine_79 : decode cX6_mixedLine 79 = .ok (.lload 6, 2) := by decide +kernel
theorem dX6_mixedLine_81 : decode cX6_mixedLine 81 = .ok (.aload 5, 2) := by decide +kernel
theorem dX6_mixedLine_83 : decode cX6_mixedLine 83 = .ok (.getfield 122, 3) := by decide +kernel
theorem dX6_mixedLine_86 : decode cX6_mixedLine 86 = .ok (.iload_n 3, 1) := by decide +kernel
theorem dX6_mixedLine_87 : decode cX6_mixedLine 87 = .ok (.iaload, 1) := by decide +kernel
theorem dX6_mixedLine_88 : decode cX6_mixedLine 88 = .ok (.i2l, 1) := by decide +kernel
theorem dX6_mixedLine_89 : decode cX6_mixedLine 89 = .ok (.invokestatic 241, 3) := by decide +kernel
theorem dX6_mixedLine_92 : decode cX6_mixedLine 92 = .ok (.lstore 6, 2) := by decide +kernel
theorem dX6_mixedLine_94 : decode cX6_mixedLine 94 = .ok (.lload 6, 2) := by decide +kernel
theorem dX6_mixedLine_96 : decode cX6_mixedLine 96 = .ok (.aload 5, 2) := by decide +kernel
theorem dX6_mixedLine_98 : decode cX6_mixedLine 98 = .ok (.getfield 125, 3) := by decide +kernel
theorem dX6_mixedLine_101 : decode cX6_mixedLine 101 = .ok (.iload_n 3, 1) := by decide +kernel
theorem dX6_mixedLine_102 : decode cX6_mixedLine 102 = .ok (.iaload, 1) := by decide +kernel
theorem dX6_mixedLine_103 : decode cX6_mixedLine 103 = .ok (.i2l, 1) := by decide +kernel
theorem dX6_mixedLine_104 : decode cX6_mixedLine 104 = .ok (.invokestatic 241, 3) := by decide +kernel
theorem dX6_mixedLine_107 : decode cX6_mixedLine 107 = .ok (.lstore 6, 2) := by decide +kernel
theorem dX6_mixedLine_109 : decode cX6_mixedLine 109 = .ok (.lload 6, 2) := by decide +kernel
theorem dX6_mixedLine_111 : decode cX6_mixedLine 111 = .ok (.aload 5, 2) := by decide +kernel
theorem dX6_mixedLine_113 : decode cX6_mixedLine 113 = .ok (.getfield 131, 3) := by decide +kernel
theorem dX6_mixedLine_116 : decode cX6_mixedLine 116 = .ok (.iload_n 3, 1) := by decide +kernel
theorem dX6_mixedLine_117 : decode cX6_mixedLine 117 = .ok (.iaload, 1) := by decide +kernel
theorem dX6_mixedLine_118 : decode cX6_mixedLine 118 = .ok (.i2l, 1) := by decide +kernel
theorem dX6_mixedLine_119 : decode cX6_mixedLine 119 = .ok (.invokestatic 241, 3) := by decide +kernel
theorem dX6_mixedLine_122 : decode cX6_mixedLine 122 = .ok (.lstore 6, 2) := by decide +kernel
theorem dX6_mixedLine_124 : decode cX6_mixedLine 124 = .ok (.lload 6, 2) := by decide +kernel
theorem dX6_mixedLine_126 : decode cX6_mixedLine 126 = .ok (.aload 5, 2) := by decide +kernel
theorem dX6_mixedLine_128 : decode cX6_mixedLine 128 = .ok (.getfield 136, 3) := by decide +kernel
theorem dX6_mixedLine_131 : decode cX6_mixedLine 131 = .ok (.iload_n 3, 1) := by decide +kernel
theorem dX6_mixedLine_132 : decode cX6_mixedLine 132 = .ok (.iaload, 1) := by decide +kernel
theorem dX6_mixedLine_133 : decode cX6_mixedLine 133 = .ok (.i2l, 1) := by decide +kernel
theorem dX6_mixedLine_134 : decode cX6_mixedLine 134 = .ok (.invokestatic 241, 3) := by decide +kernel
theorem dX6_mixedLine_137 : decode cX6_mixedLine 137 = .ok (.lstore 6, 2) := by decide +kernel
theorem dX6_mixedLine_139 : decode cX6_mixedLine 139 = .ok (.lload 6, 2) := by decide +kernel
theorem dX6_mixedLine_141 : decode cX6_mixedLine 141 = .ok (.aload 5, 2) := by decide +kernel
theorem dX6_mixedLine_143 : decode cX6_mixedLine 143 = .ok (.iload_n 3, 1) := by decide +kernel
theorem dX6_mixedLine_144 : decode cX6_mixedLine 144 = .ok (.invokevirtual 139, 3) := by decide +kernel
theorem dX6_mixedLine_147 : decode cX6_mixedLine 147 = .ok (.ifCond .eq 7, 3) := by decide +kernel
theorem dX6_mixedLine_150 : decode cX6_mixedLine 150 = .ok (.lconst 1, 1) := by decide +kernel
theorem dX6_mixedLine_151 : decode cX6_mixedLine 151 = .ok (.goto 4, 3) := by decide +kernel
theorem dX6_mixedLine_154 : decode cX6_mixedLine 154 = .ok (.lconst 0, 1) := by decide +kernel
theorem dX6_mixedLine_155 : decode cX6_mixedLine 155 = .ok (.invokestatic 241, 3) := by decide +kernel
theorem dX6_mixedLine_158 : decode cX6_mixedLine 158 = .ok (.lstore 6, 2) := by decide +kernel
theorem dX6_mixedLine_160 : decode cX6_mixedLine 160 = .ok (.lload 6, 2) := by decide +kernel
theorem dX6_mixedLine_162 : decode cX6_mixedLine 162 = .ok (.aload 4, 2) := by decide +kernel
theorem dX6_mixedLine_164 : decode cX6_mixedLine 164 = .ok (.iload_n 3, 1) := by decide +kernel
theorem dX6_mixedLine_165 : decode cX6_mixedLine 165 = .ok (.bipush 100, 2) := by decide +kernel
theorem dX6_mixedLine_167 : decode cX6_mixedLine 167 = .ok (.invokevirtual 103, 3) := by decide +kernel
theorem dX6_mixedLine_170 : decode cX6_mixedLine 170 = .ok (.invokestatic 245, 3) := by decide +kernel
theorem dX6_mixedLine_173 : decode cX6_mixedLine 173 = .ok (.invokestatic 241, 3) := by decide +kernel
theorem dX6_mixedLine_176 : decode cX6_mixedLine 176 = .ok (.lreturn, 1) := by decide +kernel
def tX6_mixedLine_0 : Tb := [(0, .inl (f_aload 0, 1)), (1, .inl (f_get 6 0, 4)), (4, .inl (f_get 4 0, 7)), (7, .inl (f_astore 8 4, 9)), (9, .inl (f_aload 0, 10)), (10, .inl (f_get 6 0, 13)), (13, .inl (f_get 4 1, 16)), (16, .inl (f_astore 8 5, 18)), (18, .inl (f_lload 1, 19)), (19, .inl (f_aload 4, 21)), (21, .inl (f_get 1 3, 24)), (24, .inl (f_iload 3, 25)), (25, .inr (.inr (.inl (0, 26, 0, m0)))), (26, .inl (f_i2l, 27)), (27, .inr (.inr (.inl (14, 30, 2, mX6_mixed)))), (30, .inl (f_lstore 8 6, 32)), (32, .inl (f_lload 6, 34)), (34, .inl (f_aload 4, 36)), (36, .inl (f_get 1 5, 39)), (39, .inl (f_iload 3, 40)), (40, .inr (.inr (.inl (1, 41, 0, m0)))), (41, .inr (.inr (.inl (14, 44, 1, mX6_bitsOf)))), (44, .inr (.inr (.inl (14, 47, 2, mX6_mixed)))), (47, .inl (f_lstore 8 6, 49)), (49, .inl (f_lload 6, 51)), (51, .inl (f_aload 4, 53)), (53, .inl (f_get 1 6, 56)), (56, .inl (f_iload 3, 57)), (57, .inr (.inr (.inl (0, 58, 0, m0)))), (58, .inl (f_i2l, 59))]
set_option maxRecDepth 10000 in
theorem kX6_mixedLine_0 {X : Ctx} (h : sCx X mX6_mixedLine) : tab X mX6_mixedLine tX6_mixedLine_0 :=
  tab_cons (eS (st_aloadn h rfl dX6_mixedLine_0)) (
  tab_cons (eS (st_get h (ci := 6) (k := 0) rfl giX6 (by decide) rfl gw_171 dX6_mixedLine_1)) (
  tab_cons (eS (st_get h (ci := 4) (k := 0) rfl giX4 (by decide) rfl gw_177 dX6_mixedLine_4)) (
  tab_cons (eS (st_astore h dX6_mixedLine_7)) (
  tab_cons (eS (st_aloadn h rfl dX6_mixedLine_9)) (
  tab_cons (eS (st_get h (ci := 6) (k := 0) rfl giX6 (by decide) rfl gw_171 dX6_mixedLine_10)) (
  tab_cons (eS (st_get h (ci := 4) (k := 1) rfl giX4 (by decide) rfl gw_201 dX6_mixedLine_13)) (
  tab_cons (eS (st_astore h dX6_mixedLine_16)) (
  tab_cons (eS (st_lloadn h rfl dX6_mixedLine_18)) (
  tab_cons (eS (st_aload h dX6_mixedLine_19)) (
  tab_cons (eS (st_get h (ci := 1) (k := 3) rfl giX1 (by decide) rfl gw_276 dX6_mixedLine_21)) (
  tab_cons (eS (st_iloadn h rfl dX6_mixedLine_24)) (
  tab_cons (eO (so_iaload h dX6_mixedLine_25)) (
  tab_cons (eS (st_i2l h dX6_mixedLine_26)) (
  tab_cons (eO (so_callS h gw_262 gw_263 gw_27 gw_264 ⟨by decide +kernel, by decide +kernel, by decide +kernel⟩ ⟨by decide +kernel, by decide +kernel⟩ dX6_mixedLine_27)) (
  tab_cons (eS (st_lstore h dX6_mixedLine_30)) (
  tab_cons (eS (st_lload h dX6_mixedLine_32)) (
  tab_cons (eS (st_aload h dX6_mixedLine_34)) (
  tab_cons (eS (st_get h (ci := 1) (k := 5) rfl giX1 (by decide) rfl gw_277 dX6_mixedLine_36)) (
  tab_cons (eS (st_iloadn h rfl dX6_mixedLine_39)) (
  tab_cons (eO (so_daload h dX6_mixedLine_40)) (
  tab_cons (eO (so_callS h gw_265 gw_266 gw_27 gw_267 ⟨by decide +kernel, by decide +kernel, by decide +kernel⟩ ⟨by decide +kernel, by decide +kernel⟩ dX6_mixedLine_41)) (
  tab_cons (eO (so_callS h gw_262 gw_263 gw_27 gw_264 ⟨by decide +kernel, by decide +kernel, by decide +kernel⟩ ⟨by decide +kernel, by decide +kernel⟩ dX6_mixedLine_44)) (
  tab_cons (eS (st_lstore h dX6_mixedLine_47)) (
  tab_cons (eS (st_lload h dX6_mixedLine_49)) (
  tab_cons (eS (st_aload h dX6_mixedLine_51)) (
  tab_cons (eS (st_get h (ci := 1) (k := 6) rfl giX1 (by decide) rfl gw_188 dX6_mixedLine_53)) (
  tab_cons (eS (st_iloadn h rfl dX6_mixedLine_56)) (
  tab_cons (eO (so_iaload h dX6_mixedLine_57)) (
  tab_cons (eS (st_i2l h dX6_mixedLine_58)) (
  tab_nil))))))))))))))))))))))))))))))
def tX6_mixedLine_1 : Tb := [(59, .inr (.inr (.inl (14, 62, 2, mX6_mixed)))), (62, .inl (f_lstore 8 6, 64)), (64, .inl (f_lload 6, 66)), (66, .inl (f_aload 5, 68)), (68, .inl (f_get 2 0, 71)), (71, .inl (f_iload 3, 72)), (72, .inr (.inr (.inl (0, 73, 0, m0)))), (73, .inl (f_i2l, 74)), (74, .inr (.inr (.inl (14, 77, 2, mX6_mixed)))), (77, .inl (f_lstore 8 6, 79)), (79, .inl (f_lload 6, 81)), (81, .inl (f_aload 5, 83)), (83, .inl (f_get 2 1, 86)), (86, .inl (f_iload 3, 87)), (87, .inr (.inr (.inl (0, 88, 0, m0)))), (88, .inl (f_i2l, 89)), (89, .inr (.inr (.inl (14, 92, 2, mX6_mixed)))), (92, .inl (f_lstore 8 6, 94)), (94, .inl (f_lload 6, 96)), (96, .inl (f_aload 5, 98)), (98, .inl (f_get 2 2, 101)), (101, .inl (f_iload 3, 102)), (102, .inr (.inr (.inl (0, 103, 0, m0)))), (103, .inl (f_i2l, 104)), (104, .inr (.inr (.inl (14, 107, 2, mX6_mixed)))), (107, .inl (f_lstore 8 6, 109)), (109, .inl (f_lload 6, 111)), (111, .inl (f_aload 5, 113)), (113, .inl (f_get 2 3, 116)), (116, .inl (f_iload 3, 117))]
set_option maxRecDepth 10000 in
theorem kX6_mixedLine_1 {X : Ctx} (h : sCx X mX6_mixedLine) : tab X mX6_mixedLine tX6_mixedLine_1 :=
  tab_cons (eO (so_callS h gw_262 gw_263 gw_27 gw_264 ⟨by decide +kernel, by decide +kernel, by decide +kernel⟩ ⟨by decide +kernel, by decide +kernel⟩ dX6_mixedLine_59)) (
  tab_cons (eS (st_lstore h dX6_mixedLine_62)) (
  tab_cons (eS (st_lload h dX6_mixedLine_64)) (
  tab_cons (eS (st_aload h dX6_mixedLine_66)) (
  tab_cons (eS (st_get h (ci := 2) (k := 0) rfl giX2 (by decide) rfl gw_202 dX6_mixedLine_68)) (
  tab_cons (eS (st_iloadn h rfl dX6_mixedLine_71)) (
  tab_cons (eO (so_iaload h dX6_mixedLine_72)) (
  tab_cons (eS (st_i2l h dX6_mixedLine_73)) (
  tab_cons (eO (so_callS h gw_262 gw_263 gw_27 gw_264 ⟨by decide +kernel, by decide +kernel, by decide +kernel⟩ ⟨by decide +kernel, by decide +kernel⟩ dX6_mixedLine_74)) (
  tab_cons (eS (st_lstore h dX6_mixedLine_77)) (
  tab_cons (eS (st_lload h dX6_mixedLine_79)) (
  tab_cons (eS (st_aload h dX6_mixedLine_81)) (
  tab_cons (eS (st_get h (ci := 2) (k := 1) rfl giX2 (by decide) rfl gw_203 dX6_mixedLine_83)) (
  tab_cons (eS (st_iloadn h rfl dX6_mixedLine_86)) (
  tab_cons (eO (so_iaload h dX6_mixedLine_87)) (
  tab_cons (eS (st_i2l h dX6_mixedLine_88)) (
  tab_cons (eO (so_callS h gw_262 gw_263 gw_27 gw_264 ⟨by decide +kernel, by decide +kernel, by decide +kernel⟩ ⟨by decide +kernel, by decide +kernel⟩ dX6_mixedLine_89)) (
  tab_cons (eS (st_lstore h dX6_mixedLine_92)) (
  tab_cons (eS (st_lload h dX6_mixedLine_94)) (
  tab_cons (eS (st_aload h dX6_mixedLine_96)) (
  tab_cons (eS (st_get h (ci := 2) (k := 2) rfl giX2 (by decide) rfl gw_204 dX6_mixedLine_98)) (
  tab_cons (eS (st_iloadn h rfl dX6_mixedLine_101)) (
  tab_cons (eO (so_iaload h dX6_mixedLine_102)) (
  tab_cons (eS (st_i2l h dX6_mixedLine_103)) (
  tab_cons (eO (so_callS h gw_262 gw_263 gw_27 gw_264 ⟨by decide +kernel, by decide +kernel, by decide +kernel⟩ ⟨by decide +kernel, by decide +kernel⟩ dX6_mixedLine_104)) (
  tab_cons (eS (st_lstore h dX6_mixedLine_107)) (
  tab_cons (eS (st_lload h dX6_mixedLine_109)) (
  tab_cons (eS (st_aload h dX6_mixedLine_111)) (
  tab_cons (eS (st_get h (ci := 2) (k := 3) rfl giX2 (by decide) rfl gw_206 dX6_mixedLine_113)) (
  tab_cons (eS (st_iloadn h rfl dX6_mixedLine_116)) (
  tab_nil))))))))))))))))))))))))))))))
def tX6_mixedLine_2 : Tb := [(117, .inr (.inr (.inl (0, 118, 0, m0)))), (118, .inl (f_i2l, 119)), (119, .inr (.inr (.inl (14, 122, 2, mX6_mixed)))), (122, .inl (f_lstore 8 6, 124)), (124, .inl (f_lload 6, 126)), (126, .inl (f_aload 5, 128)), (128, .inl (f_get 2 4, 131)), (131, .inl (f_iload 3, 132)), (132, .inr (.inr (.inl (0, 133, 0, m0)))), (133, .inl (f_i2l, 134)), (134, .inr (.inr (.inl (14, 137, 2, mX6_mixed)))), (137, .inl (f_lstore 8 6, 139)), (139, .inl (f_lload 6, 141)), (141, .inl (f_aload 5, 143)), (143, .inl (f_iload 3, 144)), (144, .inr (.inr (.inl (13, 147, 2, mX2_isStuck)))), (147, .inr (.inl (b_if_eq, 154, 150))), (150, .inl (f_cl 1, 151)), (151, .inl (f_id, 155)), (154, .inl (f_cl 0, 155)), (155, .inr (.inr (.inl (14, 158, 2, mX6_mixed)))), (158, .inl (f_lstore 8 6, 160)), (160, .inl (f_lload 6, 162)), (162, .inl (f_aload 4, 164)), (164, .inl (f_iload 3, 165)), (165, .inl (f_ci (100), 167)), (167, .inr (.inr (.inl (13, 170, 3, mX1_currentAt)))), (170, .inr (.inr (.inl (14, 173, 1, mX6_bitsOf)))), (173, .inr (.inr (.inl (14, 176, 2, mX6_mixed)))), (176, .inr (.inr (.inl (17, 177, 0, m0))))]
set_option maxRecDepth 10000 in
theorem kX6_mixedLine_2 {X : Ctx} (h : sCx X mX6_mixedLine) : tab X mX6_mixedLine tX6_mixedLine_2 :=
  tab_cons (eO (so_iaload h dX6_mixedLine_117)) (
  tab_cons (eS (st_i2l h dX6_mixedLine_118)) (
  tab_cons (eO (so_callS h gw_262 gw_263 gw_27 gw_264 ⟨by decide +kernel, by decide +kernel, by decide +kernel⟩ ⟨by decide +kernel, by decide +kernel⟩ dX6_mixedLine_119)) (
  tab_cons (eS (st_lstore h dX6_mixedLine_122)) (
  tab_cons (eS (st_lload h dX6_mixedLine_124)) (
  tab_cons (eS (st_aload h dX6_mixedLine_126)) (
  tab_cons (eS (st_get h (ci := 2) (k := 4) rfl giX2 (by decide) rfl gw_207 dX6_mixedLine_128)) (
  tab_cons (eS (st_iloadn h rfl dX6_mixedLine_131)) (
  tab_cons (eO (so_iaload h dX6_mixedLine_132)) (
  tab_cons (eS (st_i2l h dX6_mixedLine_133)) (
  tab_cons (eO (so_callS h gw_262 gw_263 gw_27 gw_264 ⟨by decide +kernel, by decide +kernel, by decide +kernel⟩ ⟨by decide +kernel, by decide +kernel⟩ dX6_mixedLine_134)) (
  tab_cons (eS (st_lstore h dX6_mixedLine_137)) (
  tab_cons (eS (st_lload h dX6_mixedLine_139)) (
  tab_cons (eS (st_aload h dX6_mixedLine_141)) (
  tab_cons (eS (st_iloadn h rfl dX6_mixedLine_143)) (
  tab_cons (eO (so_callV h gw_208 gw_101 gw_102 gw_32 gw_103 ⟨by decide +kernel, by decide +kernel, by decide +kernel, by decide +kernel⟩ ⟨by decide +kernel, by decide +kernel⟩ dX6_mixedLine_144)) (
  tab_cons (eB (sb_if_eq h dX6_mixedLine_147 (by decide))) (
  tab_cons (eS (st_lconst h (by decide +kernel) dX6_mixedLine_150)) (
  tab_cons (eS (st_goto h dX6_mixedLine_151 (by decide))) (
  tab_cons (eS (st_lconst h (by decide +kernel) dX6_mixedLine_154)) (
  tab_cons (eO (so_callS h gw_262 gw_263 gw_27 gw_264 ⟨by decide +kernel, by decide +kernel, by decide +kernel⟩ ⟨by decide +kernel, by decide +kernel⟩ dX6_mixedLine_155)) (
  tab_cons (eS (st_lstore h dX6_mixedLine_158)) (
  tab_cons (eS (st_lload h dX6_mixedLine_160)) (
  tab_cons (eS (st_aload h dX6_mixedLine_162)) (
  tab_cons (eS (st_iloadn h rfl dX6_mixedLine_164)) (
  tab_cons (eS (st_bipush h (by decide +kernel) dX6_mixedLine_165)) (
  tab_cons (eO (so_callV h gw_200 gw_51 gw_52 gw_53 gw_54 ⟨by decide +kernel, by decide +kernel, by decide +kernel, by decide +kernel⟩ ⟨by decide +kernel, by decide +kernel⟩ dX6_mixedLine_167)) (
  tab_cons (eO (so_callS h gw_265 gw_266 gw_27 gw_267 ⟨by decide +kernel, by decide +kernel, by decide +kernel⟩ ⟨by decide +kernel, by decide +kernel⟩ dX6_mixedLine_170)) (
  tab_cons (eO (so_callS h gw_262 gw_263 gw_27 gw_264 ⟨by decide +kernel, by decide +kernel, by decide +kernel⟩ ⟨by decide +kernel, by decide +kernel⟩ dX6_mixedLine_173)) (
  tab_cons (eO (so_lreturn h dX6_mixedLine_176)) (
  tab_nil))))))))))))))))))))))))))))))
def tX6_mixedLine : Tb := tX6_mixedLine_0 ++ (tX6_mixedLine_1 ++ (tX6_mixedLine_2))
theorem kX6_mixedLine {X : Ctx} (h : sCx X mX6_mixedLine) : tab X mX6_mixedLine tX6_mixedLine := tab_app (kX6_mixedLine_0 h) (tab_app (kX6_mixedLine_1 h) (kX6_mixedLine_2 h))
theorem dX6_mixedEvents_0 : decode cX6_mixedEvents 0 = .ok (.aload_n 0, 1) := by decide +kernel
theorem dX6_mixedEvents_1 : decode cX6_mixedEvents 1 = .ok (.getfield 12, 3) := by decide +kernel
theorem dX6_mixedEvents_4 : decode cX6_mixedEvents 4 = .ok (.getfield 203, 3) := by decide +kernel
theorem dX6_mixedEvents_7 : decode cX6_mixedEvents 7 = .ok (.astore_n 3, 1) := by decide +kernel
theorem dX6_mixedEvents_8 : decode cX6_mixedEvents 8 = .ok (.lload_n 1, 1) := by decide +kernel
theorem dX6_mixedEvents_9 : decode cX6_mixedEvents 9 = .ok (.aload_n 3, 1) := by decide +kernel
theorem dX6_mixedEvents_10 : decode cX6_mixedEvents 10 = .ok (.getfield 207, 3) := by decide +kernel
theorem dX6_mixedEvents_13 : decode cX6_mixedEvents 13 = .ok (.i2l, 1) := by decide +kernel
theorem dX6_mixedEvents_14 : decode cX6_mixedEvents 14 = .ok (.invokestatic 241, 3) := by decide +kernel
theorem dX6_mixedEvents_17 : decode cX6_mixedEvents 17 = .ok (.lstore 4, 2) := by decide +kernel
theorem dX6_mixedEvents_19 : decode cX6_mixedEvents 19 = .ok (.iconst 0, 1) := by decide +kernel
theorem dX6_mixedEvents_20 : decode cX6_mixedEvents 20 = .ok (.istore 6, 2) := by decide +kernel
theorem dX6_mixedEvents_22 : decode cX6_mixedEvents 22 = .ok (.iload 6, 2) := by decide +kernel
theorem dX6_mixedEvents_24 : decode cX6_mixedEvents 24 = .ok (.aload_n 3, 1) := by decide +kernel
theorem dX6_mixedEvents_25 : decode cX6_mixedEvents 25 = .ok (.getfield 207, 3) := by decide +kernel
theorem dX6_mixedEvents_28 : decode cX6_mixedEvents 28 = .ok (.if_icmp .ge 41, 3) := by decide +kernel
theorem dX6_mixedEvents_31 : decode cX6_mixedEvents 31 = .ok (.lload 4, 2) := by decide +kernel
theorem dX6_mixedEvents_33 : decode cX6_mixedEvents 33 = .ok (.aload_n 3, 1) := by decide +kernel
theorem dX6_mixedEvents_34 : decode cX6_mixedEvents 34 = .ok (.getfield 215, 3) := by decide +kernel
theorem dX6_mixedEvents_37 : decode cX6_mixedEvents 37 = .ok (.iload 6, 2) := by decide +kernel
theorem dX6_mixedEvents_39 : decode cX6_mixedEvents 39 = .ok (.iaload, 1) := by decide +kernel
theorem dX6_mixedEvents_40 : decode cX6_mixedEvents 40 = .ok (.i2l, 1) := by decide +kernel
theorem dX6_mixedEvents_41 : decode cX6_mixedEvents 41 = .ok (.invokestatic 241, 3) := by decide +kernel
theorem dX6_mixedEvents_44 : decode cX6_mixedEvents 44 = .ok (.lstore 4, 2) := by decide +kernel
theorem dX6_mixedEvents_46 : decode cX6_mixedEvents 46 = .ok (.lload 4, 2) := by decide +kernel
theorem dX6_mixedEvents_48 : decode cX6_mixedEvents 48 = .ok (.aload_n 3, 1) := by decide +kernel
theorem dX6_mixedEvents_49 : decode cX6_mixedEvents 49 = .ok (.getfield 218, 3) := by decide +kernel
theorem dX6_mixedEvents_52 : decode cX6_mixedEvents 52 = .ok (.iload 6, 2) := by decide +kernel
theorem dX6_mixedEvents_54 : decode cX6_mixedEvents 54 = .ok (.daload, 1) := by decide +kernel
theorem dX6_mixedEvents_55 : decode cX6_mixedEvents 55 = .ok (.invokestatic 245, 3) := by decide +kernel
theorem dX6_mixedEvents_58 : decode cX6_mixedEvents 58 = .ok (.invokestatic 241, 3) := by decide +kernel
theorem dX6_mixedEvents_61 : decode cX6_mixedEvents 61 = .ok (.lstore 4, 2) := by decide +kernel
theorem dX6_mixedEvents_63 : decode cX6_mixedEvents 63 = .ok (.iinc 6 1, 3) := by decide +kernel
theorem dX6_mixedEvents_66 : decode cX6_mixedEvents 66 = .ok (.goto (-44), 3) := by decide +kernel
theorem dX6_mixedEvents_69 : decode cX6_mixedEvents 69 = .ok (.lload 4, 2) := by decide +kernel
theorem dX6_mixedEvents_71 : decode cX6_mixedEvents 71 = .ok (.aload_n 3, 1) := by decide +kernel
theorem dX6_mixedEvents_72 : decode cX6_mixedEvents 72 = .ok (.getfield 222, 3) := by decide +kernel
theorem dX6_mixedEvents_75 : decode cX6_mixedEvents 75 = .ok (.invokestatic 245, 3) := by decide +kernel
theorem dX6_mixedEvents_78 : decode cX6_mixedEvents 78 = .ok (.invokestatic 241, 3) := by decide +kernel
theorem dX6_mixedEvents_81 : decode cX6_mixedEvents 81 = .ok (.lreturn, 1) := by decide +kernel
def tX6_mixedEvents_0 : Tb := [(0, .inl (f_aload 0, 1)), (1, .inl (f_get 6 0, 4)), (4, .inl (f_get 4 2, 7)), (7, .inl (f_astore 7 3, 8)), (8, .inl (f_lload 1, 9)), (9, .inl (f_aload 3, 10)), (10, .inl (f_get 0 0, 13)), (13, .inl (f_i2l, 14)), (14, .inr (.inr (.inl (14, 17, 2, mX6_mixed)))), (17, .inl (f_lstore 7 4, 19)), (19, .inl (f_ci (0), 20)), (20, .inl (f_istore 7 6, 22)), (22, .inl (f_iload 6, 24)), (24, .inl (f_aload 3, 25)), (25, .inl (f_get 0 0, 28)), (28, .inr (.inl (b_icmp_ge, 69, 31))), (31, .inl (f_lload 4, 33)), (33, .inl (f_aload 3, 34)), (34, .inl (f_get 0 1, 37)), (37, .inl (f_iload 6, 39)), (39, .inr (.inr (.inl (0, 40, 0, m0)))), (40, .inl (f_i2l, 41)), (41, .inr (.inr (.inl (14, 44, 2, mX6_mixed)))), (44, .inl (f_lstore 7 4, 46)), (46, .inl (f_lload 4, 48)), (48, .inl (f_aload 3, 49)), (49, .inl (f_get 0 2, 52)), (52, .inl (f_iload 6, 54)), (54, .inr (.inr (.inl (1, 55, 0, m0)))), (55, .inr (.inr (.inl (14, 58, 1, mX6_bitsOf))))]
set_option maxRecDepth 10000 in
theorem kX6_mixedEvents_0 {X : Ctx} (h : sCx X mX6_mixedEvents) : tab X mX6_mixedEvents tX6_mixedEvents_0 :=
  tab_cons (eS (st_aloadn h rfl dX6_mixedEvents_0)) (
  tab_cons (eS (st_get h (ci := 6) (k := 0) rfl giX6 (by decide) rfl gw_171 dX6_mixedEvents_1)) (
  tab_cons (eS (st_get h (ci := 4) (k := 2) rfl giX4 (by decide) rfl gw_242 dX6_mixedEvents_4)) (
  tab_cons (eS (st_astoren h rfl dX6_mixedEvents_7)) (
  tab_cons (eS (st_lloadn h rfl dX6_mixedEvents_8)) (
  tab_cons (eS (st_aloadn h rfl dX6_mixedEvents_9)) (
  tab_cons (eS (st_get h (ci := 0) (k := 0) rfl giX0 (by decide) rfl gw_243 dX6_mixedEvents_10)) (
  tab_cons (eS (st_i2l h dX6_mixedEvents_13)) (
  tab_cons (eO (so_callS h gw_262 gw_263 gw_27 gw_264 ⟨by decide +kernel, by decide +kernel, by decide +kernel⟩ ⟨by decide +kernel, by decide +kernel⟩ dX6_mixedEvents_14)) (
  tab_cons (eS (st_lstore h dX6_mixedEvents_17)) (
  tab_cons (eS (st_iconst h (by decide +kernel) dX6_mixedEvents_19)) (
  tab_cons (eS (st_istore h dX6_mixedEvents_20)) (
  tab_cons (eS (st_iload h dX6_mixedEvents_22)) (
  tab_cons (eS (st_aloadn h rfl dX6_mixedEvents_24)) (
  tab_cons (eS (st_get h (ci := 0) (k := 0) rfl giX0 (by decide) rfl gw_243 dX6_mixedEvents_25)) (
  tab_cons (eB (sb_icmp_ge h dX6_mixedEvents_28 (by decide))) (
  tab_cons (eS (st_lload h dX6_mixedEvents_31)) (
  tab_cons (eS (st_aloadn h rfl dX6_mixedEvents_33)) (
  tab_cons (eS (st_get h (ci := 0) (k := 1) rfl giX0 (by decide) rfl gw_248 dX6_mixedEvents_34)) (
  tab_cons (eS (st_iload h dX6_mixedEvents_37)) (
  tab_cons (eO (so_iaload h dX6_mixedEvents_39)) (
  tab_cons (eS (st_i2l h dX6_mixedEvents_40)) (
  tab_cons (eO (so_callS h gw_262 gw_263 gw_27 gw_264 ⟨by decide +kernel, by decide +kernel, by decide +kernel⟩ ⟨by decide +kernel, by decide +kernel⟩ dX6_mixedEvents_41)) (
  tab_cons (eS (st_lstore h dX6_mixedEvents_44)) (
  tab_cons (eS (st_lload h dX6_mixedEvents_46)) (
  tab_cons (eS (st_aloadn h rfl dX6_mixedEvents_48)) (
  tab_cons (eS (st_get h (ci := 0) (k := 2) rfl giX0 (by decide) rfl gw_249 dX6_mixedEvents_49)) (
  tab_cons (eS (st_iload h dX6_mixedEvents_52)) (
  tab_cons (eO (so_daload h dX6_mixedEvents_54)) (
  tab_cons (eO (so_callS h gw_265 gw_266 gw_27 gw_267 ⟨by decide +kernel, by decide +kernel, by decide +kernel⟩ ⟨by decide +kernel, by decide +kernel⟩ dX6_mixedEvents_55)) (
  tab_nil))))))))))))))))))))))))))))))
def tX6_mixedEvents_1 : Tb := [(58, .inr (.inr (.inl (14, 61, 2, mX6_mixed)))), (61, .inl (f_lstore 7 4, 63)), (63, .inl (f_iinc 7 6 (1), 66)), (66, .inl (f_id, 22)), (69, .inl (f_lload 4, 71)), (71, .inl (f_aload 3, 72)), (72, .inl (f_get 0 3, 75)), (75, .inr (.inr (.inl (14, 78, 1, mX6_bitsOf)))), (78, .inr (.inr (.inl (14, 81, 2, mX6_mixed)))), (81, .inr (.inr (.inl (17, 82, 0, m0))))]
set_option maxRecDepth 10000 in
theorem kX6_mixedEvents_1 {X : Ctx} (h : sCx X mX6_mixedEvents) : tab X mX6_mixedEvents tX6_mixedEvents_1 :=
  tab_cons (eO (so_callS h gw_262 gw_263 gw_27 gw_264 ⟨by decide +kernel, by decide +kernel, by decide +kernel⟩ ⟨by decide +kernel, by decide +kernel⟩ dX6_mixedEvents_58)) (
  tab_cons (eS (st_lstore h dX6_mixedEvents_61)) (
  tab_cons (eS (st_iinc h (by decide +kernel) dX6_mixedEvents_63)) (
  tab_cons (eS (st_goto h dX6_mixedEvents_66 (by decide))) (
  tab_cons (eS (st_lload h dX6_mixedEvents_69)) (
  tab_cons (eS (st_aloadn h rfl dX6_mixedEvents_71)) (
  tab_cons (eS (st_get h (ci := 0) (k := 3) rfl giX0 (by decide) rfl gw_250 dX6_mixedEvents_72)) (
  tab_cons (eO (so_callS h gw_265 gw_266 gw_27 gw_267 ⟨by decide +kernel, by decide +kernel, by decide +kernel⟩ ⟨by decide +kernel, by decide +kernel⟩ dX6_mixedEvents_75)) (
  tab_cons (eO (so_callS h gw_262 gw_263 gw_27 gw_264 ⟨by decide +kernel, by decide +kernel, by decide +kernel⟩ ⟨by decide +kernel, by decide +kernel⟩ dX6_mixedEvents_78)) (
  tab_cons (eO (so_lreturn h dX6_mixedEvents_81)) (
  tab_nil))))))))))
def tX6_mixedEvents : Tb := tX6_mixedEvents_0 ++ (tX6_mixedEvents_1)
theorem kX6_mixedEvents {X : Ctx} (h : sCx X mX6_mixedEvents) : tab X mX6_mixedEvents tX6_mixedEvents := tab_app (kX6_mixedEvents_0 h) (kX6_mixedEvents_1 h)
theorem dX6_mixed_0 : decode cX6_mixed 0 = .ok (.ldc2_w 263, 3) := by decide +kernel
theorem dX6_mixed_3 : decode cX6_mixed 3 = .ok (.lload_n 0, 1) := by decide +kernel
theorem dX6_mixed_4 : decode cX6_mixed 4 = .ok (.lmul, 1) := by decide +kernel
theorem dX6_mixed_5 : decode cX6_mixed 5 = .ok (.lload_n 2, 1) := by decide +kernel
theorem dX6_mixed_6 : decode cX6_mixed 6 = .ok (.ladd, 1) := by decide +kernel
theorem dX6_mixed_7 : decode cX6_mixed 7 = .ok (.lreturn, 1) := by decide +kernel
def tX6_mixed_0 : Tb := [(0, .inl (f_cl (31), 3)), (3, .inl (f_lload 0, 4)), (4, .inl (f_lmul, 5)), (5, .inl (f_lload 2, 6)), (6, .inl (f_ladd, 7)), (7, .inr (.inr (.inl (17, 8, 0, m0))))]
set_option maxRecDepth 10000 in
theorem kX6_mixed_0 {X : Ctx} (h : sCx X mX6_mixed) : tab X mX6_mixed tX6_mixed_0 :=
  tab_cons (eS (st_ldc2l h gw_278 dX6_mixed_0)) (
  tab_cons (eS (st_lloadn h rfl dX6_mixed_3)) (
  tab_cons (eS (st_lmul h dX6_mixed_4)) (
  tab_cons (eS (st_lloadn h rfl dX6_mixed_5)) (
  tab_cons (eS (st_ladd h dX6_mixed_6)) (
  tab_cons (eO (so_lreturn h dX6_mixed_7)) (
  tab_nil))))))
def tX6_mixed : Tb := tX6_mixed_0
theorem kX6_mixed {X : Ctx} (h : sCx X mX6_mixed) : tab X mX6_mixed tX6_mixed := kX6_mixed_0 h
theorem dX6_bitsOf_0 : decode cX6_bitsOf 0 = .ok (.dload_n 0, 1) := by decide +kernel
theorem dX6_bitsOf_1 : decode cX6_bitsOf 1 = .ok (.dconst 0, 1) := by decide +kernel
theorem dX6_bitsOf_2 : decode cX6_bitsOf 2 = .ok (.dcmp .l, 1) := by decide +kernel
theorem dX6_bitsOf_3 : decode cX6_bitsOf 3 = .ok (.ifCond .gt 5, 3) := by decide +kernel
theorem dX6_bitsOf_6 : decode cX6_bitsOf 6 = .ok (.lconst 0, 1) := by decide +kernel
theorem dX6_bitsOf_7 : decode cX6_bitsOf 7 = .ok (.lreturn, 1) := by decide +kernel
theorem dX6_bitsOf_8 : decode cX6_bitsOf 8 = .ok (.dload_n 0, 1) := by decide +kernel
theorem dX6_bitsOf_9 : decode cX6_bitsOf 9 = .ok (.invokestatic 265, 3) := by decide +kernel
theorem dX6_bitsOf_12 : decode cX6_bitsOf 12 = .ok (.dcmp .l, 1) := by decide +kernel
theorem dX6_bitsOf_13 : decode cX6_bitsOf 13 = .ok (.ifCond .lt 7, 3) := by decide +kernel
theorem dX6_bitsOf_16 : decode cX6_bitsOf 16 = .ok (.ldc2_w 269, 3) := by decide +kernel
theorem dX6_bitsOf_19 : decode cX6_bitsOf 19 = .ok (.lreturn, 1) := by decide +kernel
theorem dX6_bitsOf_20 : decode cX6_bitsOf 20 = .ok (.dload_n 0, 1) := by decide +kernel
theorem dX6_bitsOf_21 : decode cX6_bitsOf 21 = .ok (.dstore_n 2, 1) := by decide +kernel
theorem dX6_bitsOf_22 : decode cX6_bitsOf 22 = .ok (.ldc2_w 271, 3) := by decide +kernel
theorem dX6_bitsOf_25 : decode cX6_bitsOf 25 = .ok (.lstore 4, 2) := by decide +kernel
theorem dX6_bitsOf_27 : decode cX6_bitsOf 27 = .ok (.iconst 0, 1) := by decide +kernel
theorem dX6_bitsOf_28 : decode cX6_bitsOf 28 = .ok (.istore 6, 2) := by decide +kernel
theorem dX6_bitsOf_30 : decode cX6_bitsOf 30 = .ok (.iload 6, 2) := by decide +kernel
theorem dX6_bitsOf_32 : decode cX6_bitsOf 32 = .ok (.sipush 1100, 3) := by decide +kernel
theorem dX6_bitsOf_35 : decode cX6_bitsOf 35 = .ok (.if_icmp .ge 29, 3) := by decide +kernel
theorem dX6_bitsOf_38 : decode cX6_bitsOf 38 = .ok (.dload_n 2, 1) := by decide +kernel
theorem dX6_bitsOf_39 : decode cX6_bitsOf 39 = .ok (.ldc2_w 273, 3) := by decide +kernel
theorem dX6_bitsOf_42 : decode cX6_bitsOf 42 = .ok (.dcmp .g, 1) := by decide +kernel
theorem dX6_bitsOf_43 : decode cX6_bitsOf 43 = .ok (.ifCond .ge 21, 3) := by decide +kernel
theorem dX6_bitsOf_46 : decode cX6_bitsOf 46 = .ok (.dload_n 2, 1) := by decide +kernel
theorem dX6_bitsOf_47 : decode cX6_bitsOf 47 = .ok (.ldc2_w 275, 3) := by decide +kernel
theorem dX6_bitsOf_50 : decode cX6_bitsOf 50 = .ok (.dmul, 1) := by decide +kernel
theorem dX6_bitsOf_51 : decode cX6_bitsOf 51 = .ok (.dstore_n 2, 1) := by decide +kernel
theorem dX6_bitsOf_52 : decode cX6_bitsOf 52 = .ok (.lload 4, 2) := by decide +kernel
theorem dX6_bitsOf_54 : decode cX6_bitsOf 54 = .ok (.lconst 1, 1) := by decide +kernel
theorem dX6_bitsOf_55 : decode cX6_bitsOf 55 = .ok (.lsub, 1) := by decide +kernel
theorem dX6_bitsOf_56 : decode cX6_bitsOf 56 = .ok (.lstore 4, 2) := by decide +kernel
theorem dX6_bitsOf_58 : decode cX6_bitsOf 58 = .ok (.iinc 6 1, 3) := by decide +kernel
theorem dX6_bitsOf_61 : decode cX6_bitsOf 61 = .ok (.goto (-31), 3) := by decide +kernel
theorem dX6_bitsOf_64 : decode cX6_bitsOf 64 = .ok (.iconst 0, 1) := by decide +kernel
theorem dX6_bitsOf_65 : decode cX6_bitsOf 65 = .ok (.istore 6, 2) := by decide +kernel
theorem dX6_bitsOf_67 : decode cX6_bitsOf 67 = .ok (.iload 6, 2) := by decide +kernel
theorem dX6_bitsOf_69 : decode cX6_bitsOf 69 = .ok (.sipush 1100, 3) := by decide +kernel
theorem dX6_bitsOf_72 : decode cX6_bitsOf 72 = .ok (.if_icmp .ge 29, 3) := by decide +kernel
theorem dX6_bitsOf_75 : decode cX6_bitsOf 75 = .ok (.dload_n 2, 1) := by decide +kernel
theorem dX6_bitsOf_76 : decode cX6_bitsOf 76 = .ok (.ldc2_w 277, 3) := by decide +kernel
theorem dX6_bitsOf_79 : decode cX6_bitsOf 79 = .ok (.dcmp .l, 1) := by decide +kernel
theorem dX6_bitsOf_80 : decode cX6_bitsOf 80 = .ok (.ifCond .lt 21, 3) := by decide +kernel
theorem dX6_bitsOf_83 : decode cX6_bitsOf 83 = .ok (.dload_n 2, 1) := by decide +kernel
theorem dX6_bitsOf_84 : decode cX6_bitsOf 84 = .ok (.ldc2_w 275, 3) := by decide +kernel
theorem dX6_bitsOf_87 : decode cX6_bitsOf 87 = .ok (.ddiv, 1) := by decide +kernel
theorem dX6_bitsOf_88 : decode cX6_bitsOf 88 = .ok (.dstore_n 2, 1) := by decide +kernel
theorem dX6_bitsOf_89 : decode cX6_bitsOf 89 = .ok (.lload 4, 2) := by decide +kernel
theorem dX6_bitsOf_91 : decode cX6_bitsOf 91 = .ok (.lconst 1, 1) := by decide +kernel
theorem dX6_bitsOf_92 : decode cX6_bitsOf 92 = .ok (.ladd, 1) := by decide +kernel
theorem dX6_bitsOf_93 : decode cX6_bitsOf 93 = .ok (.lstore 4, 2) := by decide +kernel
theorem dX6_bitsOf_95 : decode cX6_bitsOf 95 = .ok (.iinc 6 1, 3) := by decide +kernel
theorem dX6_bitsOf_98 : decode cX6_bitsOf 98 = .ok (.goto (-31), 3) := by decide +kernel
theorem dX6_bitsOf_101 : decode cX6_bitsOf 101 = .ok (.lload 4, 2) := by decide +kernel
theorem dX6_bitsOf_103 : decode cX6_bitsOf 103 = .ok (.bipush 52, 2) := by decide +kernel
theorem dX6_bitsOf_105 : decode cX6_bitsOf 105 = .ok (.lshl, 1) := by decide +kernel
theorem dX6_bitsOf_106 : decode cX6_bitsOf 106 = .ok (.dload_n 2, 1) := by decide +kernel
theorem dX6_bitsOf_107 : decode cX6_bitsOf 107 = .ok (.d2l, 1) := by decide +kernel
theorem dX6_bitsOf_108 : decode cX6_bitsOf 108 = .ok (.ldc2_w 279, 3) := by decide +kernel
theorem dX6_bitsOf_111 : decode cX6_bitsOf 111 = .ok (.lsub, 1) := by decide +kernel
theorem dX6_bitsOf_112 : decode cX6_bitsOf 112 = .ok (.ladd, 1) := by decide +kernel
theorem dX6_bitsOf_113 : decode cX6_bitsOf 113 = .ok (.lreturn, 1) := by decide +kernel
def tX6_bitsOf_0 : Tb := [(0, .inl (f_dload 0, 1)), (1, .inl (f_cd 0, 2)), (2, .inl (f_dcmpl, 3)), (3, .inr (.inl (b_if_gt, 8, 6))), (6, .inl (f_cl 0, 7)), (7, .inr (.inr (.inl (17, 8, 0, m0)))), (8, .inl (f_dload 0, 9)), (9, .inr (.inr (.inl (14, 12, 0, mX6_infinity)))), (12, .inl (f_dcmpl, 13)), (13, .inr (.inl (b_if_lt, 20, 16))), (16, .inl (f_cl (9218868437227405312), 19)), (19, .inr (.inr (.inl (17, 20, 0, m0)))), (20, .inl (f_dload 0, 21)), (21, .inl (f_dstore 7 2, 22)), (22, .inl (f_cl (1075), 25)), (25, .inl (f_lstore 7 4, 27)), (27, .inl (f_ci (0), 28)), (28, .inl (f_istore 7 6, 30)), (30, .inl (f_iload 6, 32)), (32, .inl (f_ci (1100), 35)), (35, .inr (.inl (b_icmp_ge, 64, 38))), (38, .inl (f_dload 2, 39)), (39, .inl (f_cd 4841369599423283200, 42)), (42, .inl (f_dcmpg, 43)), (43, .inr (.inl (b_if_ge, 64, 46))), (46, .inl (f_dload 2, 47)), (47, .inl (f_cd 4611686018427387904, 50)), (50, .inr (.inr (.inl (9, 51, 0, m0)))), (51, .inl (f_dstore 7 2, 52)), (52, .inl (f_lload 4, 54))]
set_option maxRecDepth 10000 in
theorem kX6_bitsOf_0 {X : Ctx} (h : sCx X mX6_bitsOf) : tab X mX6_bitsOf tX6_bitsOf_0 :=
  tab_cons (eS (st_dloadn h rfl dX6_bitsOf_0)) (
  tab_cons (eS (st_dconst0 h rfl dX6_bitsOf_1)) (
  tab_cons (eS (st_dcmpl h dX6_bitsOf_2)) (
  tab_cons (eB (sb_if_gt h dX6_bitsOf_3 (by decide))) (
  tab_cons (eS (st_lconst h (by decide +kernel) dX6_bitsOf_6)) (
  tab_cons (eO (so_lreturn h dX6_bitsOf_7)) (
  tab_cons (eS (st_dloadn h rfl dX6_bitsOf_8)) (
  tab_cons (eO (so_callS h gw_279 gw_26 gw_27 gw_28 ⟨by decide +kernel, by decide +kernel, by decide +kernel⟩ ⟨by decide +kernel, by decide +kernel⟩ dX6_bitsOf_9)) (
  tab_cons (eS (st_dcmpl h dX6_bitsOf_12)) (
  tab_cons (eB (sb_if_lt h dX6_bitsOf_13 (by decide))) (
  tab_cons (eS (st_ldc2l h gw_280 dX6_bitsOf_16)) (
  tab_cons (eO (so_lreturn h dX6_bitsOf_19)) (
  tab_cons (eS (st_dloadn h rfl dX6_bitsOf_20)) (
  tab_cons (eS (st_dstoren h rfl dX6_bitsOf_21)) (
  tab_cons (eS (st_ldc2l h gw_281 dX6_bitsOf_22)) (
  tab_cons (eS (st_lstore h dX6_bitsOf_25)) (
  tab_cons (eS (st_iconst h (by decide +kernel) dX6_bitsOf_27)) (
  tab_cons (eS (st_istore h dX6_bitsOf_28)) (
  tab_cons (eS (st_iload h dX6_bitsOf_30)) (
  tab_cons (eS (st_sipush h (by decide +kernel) dX6_bitsOf_32)) (
  tab_cons (eB (sb_icmp_ge h dX6_bitsOf_35 (by decide))) (
  tab_cons (eS (st_dloadn h rfl dX6_bitsOf_38)) (
  tab_cons (eS (st_ldc2d h gw_282 dX6_bitsOf_39)) (
  tab_cons (eS (st_dcmpg h dX6_bitsOf_42)) (
  tab_cons (eB (sb_if_ge h dX6_bitsOf_43 (by decide))) (
  tab_cons (eS (st_dloadn h rfl dX6_bitsOf_46)) (
  tab_cons (eS (st_ldc2d h gw_283 dX6_bitsOf_47)) (
  tab_cons (eO (so_dmul h dX6_bitsOf_50)) (
  tab_cons (eS (st_dstoren h rfl dX6_bitsOf_51)) (
  tab_cons (eS (st_lload h dX6_bitsOf_52)) (
  tab_nil))))))))))))))))))))))))))))))
def tX6_bitsOf_1 : Tb := [(54, .inl (f_cl 1, 55)), (55, .inl (f_lsub, 56)), (56, .inl (f_lstore 7 4, 58)), (58, .inl (f_iinc 7 6 (1), 61)), (61, .inl (f_id, 30)), (64, .inl (f_ci (0), 65)), (65, .inl (f_istore 7 6, 67)), (67, .inl (f_iload 6, 69)), (69, .inl (f_ci (1100), 72)), (72, .inr (.inl (b_icmp_ge, 101, 75))), (75, .inl (f_dload 2, 76)), (76, .inl (f_cd 4845873199050653696, 79)), (79, .inl (f_dcmpl, 80)), (80, .inr (.inl (b_if_lt, 101, 83))), (83, .inl (f_dload 2, 84)), (84, .inl (f_cd 4611686018427387904, 87)), (87, .inr (.inr (.inl (10, 88, 0, m0)))), (88, .inl (f_dstore 7 2, 89)), (89, .inl (f_lload 4, 91)), (91, .inl (f_cl 1, 92)), (92, .inl (f_ladd, 93)), (93, .inl (f_lstore 7 4, 95)), (95, .inl (f_iinc 7 6 (1), 98)), (98, .inl (f_id, 67)), (101, .inl (f_lload 4, 103)), (103, .inl (f_ci (52), 105)), (105, .inl (f_lshl, 106)), (106, .inl (f_dload 2, 107)), (107, .inl (f_d2l, 108)), (108, .inl (f_cl (4503599627370496), 111))]
set_option maxRecDepth 10000 in
theorem kX6_bitsOf_1 {X : Ctx} (h : sCx X mX6_bitsOf) : tab X mX6_bitsOf tX6_bitsOf_1 :=
  tab_cons (eS (st_lconst h (by decide +kernel) dX6_bitsOf_54)) (
  tab_cons (eS (st_lsub h dX6_bitsOf_55)) (
  tab_cons (eS (st_lstore h dX6_bitsOf_56)) (
  tab_cons (eS (st_iinc h (by decide +kernel) dX6_bitsOf_58)) (
  tab_cons (eS (st_goto h dX6_bitsOf_61 (by decide))) (
  tab_cons (eS (st_iconst h (by decide +kernel) dX6_bitsOf_64)) (
  tab_cons (eS (st_istore h dX6_bitsOf_65)) (
  tab_cons (eS (st_iload h dX6_bitsOf_67)) (
  tab_cons (eS (st_sipush h (by decide +kernel) dX6_bitsOf_69)) (
  tab_cons (eB (sb_icmp_ge h dX6_bitsOf_72 (by decide))) (
  tab_cons (eS (st_dloadn h rfl dX6_bitsOf_75)) (
  tab_cons (eS (st_ldc2d h gw_284 dX6_bitsOf_76)) (
  tab_cons (eS (st_dcmpl h dX6_bitsOf_79)) (
  tab_cons (eB (sb_if_lt h dX6_bitsOf_80 (by decide))) (
  tab_cons (eS (st_dloadn h rfl dX6_bitsOf_83)) (
  tab_cons (eS (st_ldc2d h gw_283 dX6_bitsOf_84)) (
  tab_cons (eO (so_ddiv h dX6_bitsOf_87)) (
  tab_cons (eS (st_dstoren h rfl dX6_bitsOf_88)) (
  tab_cons (eS (st_lload h dX6_bitsOf_89)) (
  tab_cons (eS (st_lconst h (by decide +kernel) dX6_bitsOf_91)) (
  tab_cons (eS (st_ladd h dX6_bitsOf_92)) (
  tab_cons (eS (st_lstore h dX6_bitsOf_93)) (
  tab_cons (eS (st_iinc h (by decide +kernel) dX6_bitsOf_95)) (
  tab_cons (eS (st_goto h dX6_bitsOf_98 (by decide))) (
  tab_cons (eS (st_lload h dX6_bitsOf_101)) (
  tab_cons (eS (st_bipush h (by decide +kernel) dX6_bitsOf_103)) (
  tab_cons (eS (st_lshl h dX6_bitsOf_105)) (
  tab_cons (eS (st_dloadn h rfl dX6_bitsOf_106)) (
  tab_cons (eS (st_d2l h dX6_bitsOf_107)) (
  tab_cons (eS (st_ldc2l h gw_285 dX6_bitsOf_108)) (
  tab_nil))))))))))))))))))))))))))))))
def tX6_bitsOf_2 : Tb := [(111, .inl (f_lsub, 112)), (112, .inl (f_ladd, 113)), (113, .inr (.inr (.inl (17, 114, 0, m0))))]
set_option maxRecDepth 10000 in
theorem kX6_bitsOf_2 {X : Ctx} (h : sCx X mX6_bitsOf) : tab X mX6_bitsOf tX6_bitsOf_2 :=
  tab_cons (eS (st_lsub h dX6_bitsOf_111)) (
  tab_cons (eS (st_ladd h dX6_bitsOf_112)) (
  tab_cons (eO (so_lreturn h dX6_bitsOf_113)) (
  tab_nil)))
def tX6_bitsOf : Tb := tX6_bitsOf_0 ++ (tX6_bitsOf_1 ++ (tX6_bitsOf_2))
theorem kX6_bitsOf {X : Ctx} (h : sCx X mX6_bitsOf) : tab X mX6_bitsOf tX6_bitsOf := tab_app (kX6_bitsOf_0 h) (tab_app (kX6_bitsOf_1 h) (kX6_bitsOf_2 h))
theorem dX6_infinity_0 : decode cX6_infinity 0 = .ok (.ldc2_w 281, 3) := by decide +kernel
theorem dX6_infinity_3 : decode cX6_infinity 3 = .ok (.dreturn, 1) := by decide +kernel
def tX6_infinity_0 : Tb := [(0, .inl (f_cd 9218868437227405312, 3)), (3, .inr (.inr (.inl (16, 4, 0, m0))))]
set_option maxRecDepth 10000 in
theorem kX6_infinity_0 {X : Ctx} (h : sCx X mX6_infinity) : tab X mX6_infinity tX6_infinity_0 :=
  tab_cons (eS (st_ldc2d h gw_286 dX6_infinity_0)) (
  tab_cons (eO (so_dreturn h dX6_infinity_3)) (
  tab_nil))
def tX6_infinity : Tb := tX6_infinity_0
theorem kX6_infinity {X : Ctx} (h : sCx X mX6_infinity) : tab X mX6_infinity tX6_infinity := kX6_infinity_0 h
theorem dX6_pickupForLoad_0 : decode cX6_pickupForLoad 0 = .ok (.iload_n 0, 1) := by decide +kernel
theorem dX6_pickupForLoad_1 : decode cX6_pickupForLoad 1 = .ok (.iload_n 1, 1) := by decide +kernel
theorem dX6_pickupForLoad_2 : decode cX6_pickupForLoad 2 = .ok (.imul, 1) := by decide +kernel
theorem dX6_pickupForLoad_3 : decode cX6_pickupForLoad 3 = .ok (.bipush 99, 2) := by decide +kernel
theorem dX6_pickupForLoad_5 : decode cX6_pickupForLoad 5 = .ok (.iadd, 1) := by decide +kernel
theorem dX6_pickupForLoad_6 : decode cX6_pickupForLoad 6 = .ok (.bipush 100, 2) := by decide +kernel
theorem dX6_pickupForLoad_8 : decode cX6_pickupForLoad 8 = .ok (.idiv, 1) := by decide +kernel
theorem dX6_pickupForLoad_9 : decode cX6_pickupForLoad 9 = .ok (.istore_n 2, 1) := by decide +kernel
theorem dX6_pickupForLoad_10 : decode cX6_pickupForLoad 10 = .ok (.iconst 1, 1) := by decide +kernel
theorem dX6_pickupForLoad_11 : decode cX6_pickupForLoad 11 = .ok (.sipush 20000, 3) := by decide +kernel
theorem dX6_pickupForLoad_14 : decode cX6_pickupForLoad 14 = .ok (.iload_n 2, 1) := by decide +kernel
theorem dX6_pickupForLoad_15 : decode cX6_pickupForLoad 15 = .ok (.invokestatic 283, 3) := by decide +kernel
theorem dX6_pickupForLoad_18 : decode cX6_pickupForLoad 18 = .ok (.invokestatic 288, 3) := by decide +kernel
theorem dX6_pickupForLoad_21 : decode cX6_pickupForLoad 21 = .ok (.ireturn, 1) := by decide +kernel
def tX6_pickupForLoad_0 : Tb := [(0, .inl (f_iload 0, 1)), (1, .inl (f_iload 1, 2)), (2, .inl (f_imul, 3)), (3, .inl (f_ci (99), 5)), (5, .inl (f_iadd, 6)), (6, .inl (f_ci (100), 8)), (8, .inr (.inr (.inl (11, 9, 0, m0)))), (9, .inl (f_istore 3 2, 10)), (10, .inl (f_ci (1), 11)), (11, .inl (f_ci (20000), 14)), (14, .inl (f_iload 2, 15)), (15, .inr (.inr (.inl (21, 18, 0, m0)))), (18, .inr (.inr (.inl (20, 21, 0, m0)))), (21, .inr (.inr (.inl (15, 22, 0, m0))))]
set_option maxRecDepth 10000 in
theorem kX6_pickupForLoad_0 {X : Ctx} (h : sCx X mX6_pickupForLoad) : tab X mX6_pickupForLoad tX6_pickupForLoad_0 :=
  tab_cons (eS (st_iloadn h rfl dX6_pickupForLoad_0)) (
  tab_cons (eS (st_iloadn h rfl dX6_pickupForLoad_1)) (
  tab_cons (eS (st_imul h dX6_pickupForLoad_2)) (
  tab_cons (eS (st_bipush h (by decide +kernel) dX6_pickupForLoad_3)) (
  tab_cons (eS (st_iadd h dX6_pickupForLoad_5)) (
  tab_cons (eS (st_bipush h (by decide +kernel) dX6_pickupForLoad_6)) (
  tab_cons (eO (so_idiv h dX6_pickupForLoad_8)) (
  tab_cons (eS (st_istoren h rfl dX6_pickupForLoad_9)) (
  tab_cons (eS (st_iconst h (by decide +kernel) dX6_pickupForLoad_10)) (
  tab_cons (eS (st_sipush h (by decide +kernel) dX6_pickupForLoad_11)) (
  tab_cons (eS (st_iloadn h rfl dX6_pickupForLoad_14)) (
  tab_cons (eO (so_mmin h gw_287 gw_160 gw_107 gw_161 (by decide +kernel) dX6_pickupForLoad_15)) (
  tab_cons (eO (so_mmax h gw_288 gw_106 gw_107 gw_108 (by decide +kernel) dX6_pickupForLoad_18)) (
  tab_cons (eO (so_ireturn h dX6_pickupForLoad_21)) (
  tab_nil))))))))))))))
def tX6_pickupForLoad : Tb := tX6_pickupForLoad_0
theorem kX6_pickupForLoad {X : Ctx} (h : sCx X mX6_pickupForLoad) : tab X mX6_pickupForLoad tX6_pickupForLoad := kX6_pickupForLoad_0 h
theorem dX6_within_0 : decode cX6_within 0 = .ok (.iload_n 0, 1) := by decide +kernel
theorem dX6_within_1 : decode cX6_within 1 = .ok (.iload_n 1, 1) := by decide +kernel
theorem dX6_within_2 : decode cX6_within 2 = .ok (.if_icmp .lt 12, 3) := by decide +kernel
theorem dX6_within_5 : decode cX6_within 5 = .ok (.iload_n 0, 1) := by decide +kernel
theorem dX6_within_6 : decode cX6_within 6 = .ok (.iload_n 2, 1) := by decide +kernel
theorem dX6_within_7 : decode cX6_within 7 = .ok (.if_icmp .gt 7, 3) := by decide +kernel
theorem dX6_within_10 : decode cX6_within 10 = .ok (.iconst 1, 1) := by decide +kernel
theorem dX6_within_11 : decode cX6_within 11 = .ok (.goto 4, 3) := by decide +kernel
theorem dX6_within_14 : decode cX6_within 14 = .ok (.iconst 0, 1) := by decide +kernel
theorem dX6_within_15 : decode cX6_within 15 = .ok (.ireturn, 1) := by decide +kernel
def tX6_within_0 : Tb := [(0, .inl (f_iload 0, 1)), (1, .inl (f_iload 1, 2)), (2, .inr (.inl (b_icmp_lt, 14, 5))), (5, .inl (f_iload 0, 6)), (6, .inl (f_iload 2, 7)), (7, .inr (.inl (b_icmp_gt, 14, 10))), (10, .inl (f_ci (1), 11)), (11, .inl (f_id, 15)), (14, .inl (f_ci (0), 15)), (15, .inr (.inr (.inl (15, 16, 0, m0))))]
set_option maxRecDepth 10000 in
theorem kX6_within_0 {X : Ctx} (h : sCx X mX6_within) : tab X mX6_within tX6_within_0 :=
  tab_cons (eS (st_iloadn h rfl dX6_within_0)) (
  tab_cons (eS (st_iloadn h rfl dX6_within_1)) (
  tab_cons (eB (sb_icmp_lt h dX6_within_2 (by decide))) (
  tab_cons (eS (st_iloadn h rfl dX6_within_5)) (
  tab_cons (eS (st_iloadn h rfl dX6_within_6)) (
  tab_cons (eB (sb_icmp_gt h dX6_within_7 (by decide))) (
  tab_cons (eS (st_iconst h (by decide +kernel) dX6_within_10)) (
  tab_cons (eS (st_goto h dX6_within_11 (by decide))) (
  tab_cons (eS (st_iconst h (by decide +kernel) dX6_within_14)) (
  tab_cons (eO (so_ireturn h dX6_within_15)) (
  tab_nil))))))))))
def tX6_within : Tb := tX6_within_0
theorem kX6_within {X : Ctx} (h : sCx X mX6_within) : tab X mX6_within tX6_within := kX6_within_0 h
theorem dX6_within__0 : decode cX6_within_ 0 = .ok (.dload_n 0, 1) := by decide +kernel
theorem dX6_within__1 : decode cX6_within_ 1 = .ok (.dload_n 2, 1) := by decide +kernel
theorem dX6_within__2 : decode cX6_within_ 2 = .ok (.dcmp .l, 1) := by decide +kernel
theorem dX6_within__3 : decode cX6_within_ 3 = .ok (.ifCond .lt 14, 3) := by decide +kernel
theorem dX6_within__6 : decode cX6_within_ 6 = .ok (.dload_n 0, 1) := by decide +kernel
theorem dX6_within__7 : decode cX6_within_ 7 = .ok (.dload 4, 2) := by decide +kernel
theorem dX6_within__9 : decode cX6_within_ 9 = .ok (.dcmp .g, 1) := by decide +kernel
theorem dX6_within__10 : decode cX6_within_ 10 = .ok (.ifCond .gt 7, 3) := by decide +kernel
theorem dX6_within__13 : decode cX6_within_ 13 = .ok (.iconst 1, 1) := by decide +kernel
theorem dX6_within__14 : decode cX6_within_ 14 = .ok (.goto 4, 3) := by decide +kernel
theorem dX6_within__17 : decode cX6_within_ 17 = .ok (.iconst 0, 1) := by decide +kernel
theorem dX6_within__18 : decode cX6_within_ 18 = .ok (.ireturn, 1) := by decide +kernel
def tX6_within__0 : Tb := [(0, .inl (f_dload 0, 1)), (1, .inl (f_dload 2, 2)), (2, .inl (f_dcmpl, 3)), (3, .inr (.inl (b_if_lt, 17, 6))), (6, .inl (f_dload 0, 7)), (7, .inl (f_dload 4, 9)), (9, .inl (f_dcmpg, 10)), (10, .inr (.inl (b_if_gt, 17, 13))), (13, .inl (f_ci (1), 14)), (14, .inl (f_id, 18)), (17, .inl (f_ci (0), 18)), (18, .inr (.inr (.inl (15, 19, 0, m0))))]
set_option maxRecDepth 10000 in
theorem kX6_within__0 {X : Ctx} (h : sCx X mX6_within_) : tab X mX6_within_ tX6_within__0 :=
  tab_cons (eS (st_dloadn h rfl dX6_within__0)) (
  tab_cons (eS (st_dloadn h rfl dX6_within__1)) (
  tab_cons (eS (st_dcmpl h dX6_within__2)) (
  tab_cons (eB (sb_if_lt h dX6_within__3 (by decide))) (
  tab_cons (eS (st_dloadn h rfl dX6_within__6)) (
  tab_cons (eS (st_dload h dX6_within__7)) (
  tab_cons (eS (st_dcmpg h dX6_within__9)) (
  tab_cons (eB (sb_if_gt h dX6_within__10 (by decide))) (
  tab_cons (eS (st_iconst h (by decide +kernel) dX6_within__13)) (
  tab_cons (eS (st_goto h dX6_within__14 (by decide))) (
  tab_cons (eS (st_iconst h (by decide +kernel) dX6_within__17)) (
  tab_cons (eO (so_ireturn h dX6_within__18)) (
  tab_nil))))))))))))
def tX6_within_ : Tb := tX6_within__0
theorem kX6_within_ {X : Ctx} (h : sCx X mX6_within_) : tab X mX6_within_ tX6_within_ := kX6_within__0 h
theorem dX6_requireImpedance_0 : decode cX6_requireImpedance 0 = .ok (.dload_n 0, 1) := by decide +kernel
theorem dX6_requireImpedance_1 : decode cX6_requireImpedance 1 = .ok (.ldc2_w 291, 3) := by decide +kernel
theorem dX6_requireImpedance_4 : decode cX6_requireImpedance 4 = .ok (.ldc2_w 293, 3) := by decide +kernel
theorem dX6_requireImpedance_7 : decode cX6_requireImpedance 7 = .ok (.invokestatic 34, 3) := by decide +kernel
theorem dX6_requireImpedance_10 : decode cX6_requireImpedance 10 = .ok (.ifCond .ne 14, 3) := by decide +kernel
theorem dX6_requireImpedance_13 : decode cX6_requireImpedance 13 = .ok (.new 38, 3) := by decide +kernel
theorem dX6_requireImpedance_16 : decode cX6_requireImpedance 16 = .ok (.dup, 1) := by decide +kernel
theorem dX6_requireImpedance_17 : decode cX6_requireImpedance 17 = .ok (.ldc_w 295, 3) := by decide +kernel
theorem dX6_requireImpedance_20 : decode cX6_requireImpedance 20 = .ok (.invokespecial 42, 3) := by decide +kernel
theorem dX6_requireImpedance_23 : decode cX6_requireImpedance 23 = .ok (.athrow, 1) := by decide +kernel
theorem dX6_requireImpedance_24 : decode cX6_requireImpedance 24 = .ok (.return_, 1) := by decide +kernel
def tX6_requireImpedance_0 : Tb := [(0, .inl (f_dload 0, 1)), (1, .inl (f_cd 4576918229304087675, 4)), (4, .inl (f_cd 4652007308841189376, 7)), (7, .inr (.inr (.inl (14, 10, 3, mX6_within_)))), (10, .inr (.inl (b_if_eq, 13, 24))), (16, .inl (f_dup, 17)), (24, .inr (.inr (.inl (18, 25, 0, m0))))]
set_option maxRecDepth 10000 in
theorem kX6_requireImpedance_0 {X : Ctx} (h : sCx X mX6_requireImpedance) : tab X mX6_requireImpedance tX6_requireImpedance_0 :=
  tab_cons (eS (st_dloadn h rfl dX6_requireImpedance_0)) (
  tab_cons (eS (st_ldc2d h gw_289 dX6_requireImpedance_1)) (
  tab_cons (eS (st_ldc2d h gw_290 dX6_requireImpedance_4)) (
  tab_cons (eO (so_callS h gw_164 gw_165 gw_27 gw_166 ⟨by decide +kernel, by decide +kernel, by decide +kernel⟩ ⟨by decide +kernel, by decide +kernel⟩ dX6_requireImpedance_7)) (
  tab_cons (eB (sb_if_ne h dX6_requireImpedance_10 (by decide))) (
  tab_cons (eS (st_dup h dX6_requireImpedance_16)) (
  tab_cons (eO (so_return h dX6_requireImpedance_24)) (
  tab_nil)))))))
def tX6_requireImpedance : Tb := tX6_requireImpedance_0
theorem kX6_requireImpedance {X : Ctx} (h : sCx X mX6_requireImpedance) : tab X mX6_requireImpedance tX6_requireImpedance := kX6_requireImpedance_0 h
theorem dX6_requirePlace_0 : decode cX6_requirePlace 0 = .ok (.iload_n 0, 1) := by decide +kernel
theorem dX6_requirePlace_1 : decode cX6_requirePlace 1 = .ok (.iconst 0, 1) := by decide +kernel
theorem dX6_requirePlace_2 : decode cX6_requirePlace 2 = .ok (.bipush 100, 2) := by decide +kernel
theorem dX6_requirePlace_4 : decode cX6_requirePlace 4 = .ok (.invokestatic 70, 3) := by decide +kernel
theorem dX6_requirePlace_7 : decode cX6_requirePlace 7 = .ok (.ifCond .ne 13, 3) := by decide +kernel
theorem dX6_requirePlace_10 : decode cX6_requirePlace 10 = .ok (.new 38, 3) := by decide +kernel
theorem dX6_requirePlace_13 : decode cX6_requirePlace 13 = .ok (.dup, 1) := by decide +kernel
theorem dX6_requirePlace_14 : decode cX6_requirePlace 14 = .ok (.ldc 186, 2) := by decide +kernel
theorem dX6_requirePlace_16 : decode cX6_requirePlace 16 = .ok (.invokespecial 42, 3) := by decide +kernel
theorem dX6_requirePlace_19 : decode cX6_requirePlace 19 = .ok (.athrow, 1) := by decide +kernel
theorem dX6_requirePlace_20 : decode cX6_requirePlace 20 = .ok (.return_, 1) := by decide +kernel
def tX6_requirePlace_0 : Tb := [(0, .inl (f_iload 0, 1)), (1, .inl (f_ci (0), 2)), (2, .inl (f_ci (100), 4)), (4, .inr (.inr (.inl (14, 7, 3, mX6_within)))), (7, .inr (.inl (b_if_eq, 10, 20))), (13, .inl (f_dup, 14)), (20, .inr (.inr (.inl (18, 21, 0, m0))))]
set_option maxRecDepth 10000 in
theorem kX6_requirePlace_0 {X : Ctx} (h : sCx X mX6_requirePlace) : tab X mX6_requirePlace tX6_requirePlace_0 :=
  tab_cons (eS (st_iloadn h rfl dX6_requirePlace_0)) (
  tab_cons (eS (st_iconst h (by decide +kernel) dX6_requirePlace_1)) (
  tab_cons (eS (st_bipush h (by decide +kernel) dX6_requirePlace_2)) (
  tab_cons (eO (so_callS h gw_181 gw_182 gw_27 gw_183 ⟨by decide +kernel, by decide +kernel, by decide +kernel⟩ ⟨by decide +kernel, by decide +kernel⟩ dX6_requirePlace_4)) (
  tab_cons (eB (sb_if_ne h dX6_requirePlace_7 (by decide))) (
  tab_cons (eS (st_dup h dX6_requirePlace_13)) (
  tab_cons (eO (so_return h dX6_requirePlace_20)) (
  tab_nil)))))))
def tX6_requirePlace : Tb := tX6_requirePlace_0
theorem kX6_requirePlace {X : Ctx} (h : sCx X mX6_requirePlace) : tab X mX6_requirePlace tX6_requirePlace := kX6_requirePlace_0 h
theorem dX6_requireLine_0 : decode cX6_requireLine 0 = .ok (.iload_n 1, 1) := by decide +kernel
theorem dX6_requireLine_1 : decode cX6_requireLine 1 = .ok (.iconst 0, 1) := by decide +kernel
theorem dX6_requireLine_2 : decode cX6_requireLine 2 = .ok (.aload_n 0, 1) := by decide +kernel
theorem dX6_requireLine_3 : decode cX6_requireLine 3 = .ok (.getfield 12, 3) := by decide +kernel
theorem dX6_requireLine_6 : decode cX6_requireLine 6 = .ok (.getfield 53, 3) := by decide +kernel
theorem dX6_requireLine_9 : decode cX6_requireLine 9 = .ok (.getfield 66, 3) := by decide +kernel
theorem dX6_requireLine_12 : decode cX6_requireLine 12 = .ok (.iconst 1, 1) := by decide +kernel
theorem dX6_requireLine_13 : decode cX6_requireLine 13 = .ok (.isub, 1) := by decide +kernel
theorem dX6_requireLine_14 : decode cX6_requireLine 14 = .ok (.invokestatic 70, 3) := by decide +kernel
theorem dX6_requireLine_17 : decode cX6_requireLine 17 = .ok (.ifCond .ne 14, 3) := by decide +kernel
theorem dX6_requireLine_20 : decode cX6_requireLine 20 = .ok (.new 38, 3) := by decide +kernel
theorem dX6_requireLine_23 : decode cX6_requireLine 23 = .ok (.dup, 1) := by decide +kernel
theorem dX6_requireLine_24 : decode cX6_requireLine 24 = .ok (.ldc_w 297, 3) := by decide +kernel
theorem dX6_requireLine_27 : decode cX6_requireLine 27 = .ok (.invokespecial 42, 3) := by decide +kernel
theorem dX6_requireLine_30 : decode cX6_requireLine 30 = .ok (.athrow, 1) := by decide +kernel
theorem dX6_requireLine_31 : decode cX6_requireLine 31 = .ok (.return_, 1) := by decide +kernel
def tX6_requireLine_0 : Tb := [(0, .inl (f_iload 1, 1)), (1, .inl (f_ci (0), 2)), (2, .inl (f_aload 0, 3)), (3, .inl (f_get 6 0, 6)), (6, .inl (f_get 4 0, 9)), (9, .inl (f_get 1 2, 12)), (12, .inl (f_ci (1), 13)), (13, .inl (f_isub, 14)), (14, .inr (.inr (.inl (14, 17, 3, mX6_within)))), (17, .inr (.inl (b_if_eq, 20, 31))), (23, .inl (f_dup, 24)), (31, .inr (.inr (.inl (18, 32, 0, m0))))]
set_option maxRecDepth 10000 in
theorem kX6_requireLine_0 {X : Ctx} (h : sCx X mX6_requireLine) : tab X mX6_requireLine tX6_requireLine_0 :=
  tab_cons (eS (st_iloadn h rfl dX6_requireLine_0)) (
  tab_cons (eS (st_iconst h (by decide +kernel) dX6_requireLine_1)) (
  tab_cons (eS (st_aloadn h rfl dX6_requireLine_2)) (
  tab_cons (eS (st_get h (ci := 6) (k := 0) rfl giX6 (by decide) rfl gw_171 dX6_requireLine_3)) (
  tab_cons (eS (st_get h (ci := 4) (k := 0) rfl giX4 (by decide) rfl gw_177 dX6_requireLine_6)) (
  tab_cons (eS (st_get h (ci := 1) (k := 2) rfl giX1 (by decide) rfl gw_180 dX6_requireLine_9)) (
  tab_cons (eS (st_iconst h (by decide +kernel) dX6_requireLine_12)) (
  tab_cons (eS (st_isub h dX6_requireLine_13)) (
  tab_cons (eO (so_callS h gw_181 gw_182 gw_27 gw_183 ⟨by decide +kernel, by decide +kernel, by decide +kernel⟩ ⟨by decide +kernel, by decide +kernel⟩ dX6_requireLine_14)) (
  tab_cons (eB (sb_if_ne h dX6_requireLine_17 (by decide))) (
  tab_cons (eS (st_dup h dX6_requireLine_23)) (
  tab_cons (eO (so_return h dX6_requireLine_31)) (
  tab_nil))))))))))))
def tX6_requireLine : Tb := tX6_requireLine_0
theorem kX6_requireLine {X : Ctx} (h : sCx X mX6_requireLine) : tab X mX6_requireLine tX6_requireLine := kX6_requireLine_0 h
theorem dX6_requireEvent_0 : decode cX6_requireEvent 0 = .ok (.iload_n 1, 1) := by decide +kernel
theorem dX6_requireEvent_1 : decode cX6_requireEvent 1 = .ok (.iconst 0, 1) := by decide +kernel
theorem dX6_requireEvent_2 : decode cX6_requireEvent 2 = .ok (.aload_n 0, 1) := by decide +kernel
theorem dX6_requireEvent_3 : decode cX6_requireEvent 3 = .ok (.getfield 12, 3) := by decide +kernel
theorem dX6_requireEvent_6 : decode cX6_requireEvent 6 = .ok (.getfield 203, 3) := by decide +kernel
theorem dX6_requireEvent_9 : decode cX6_requireEvent 9 = .ok (.getfield 207, 3) := by decide +kernel
theorem dX6_requireEvent_12 : decode cX6_requireEvent 12 = .ok (.iconst 1, 1) := by decide +kernel
theorem dX6_requireEvent_13 : decode cX6_requireEvent 13 = .ok (.isub, 1) := by decide +kernel
theorem dX6_requireEvent_14 : decode cX6_requireEvent 14 = .ok (.invokestatic 70, 3) := by decide +kernel
theorem dX6_requireEvent_17 : decode cX6_requireEvent 17 = .ok (.ifCond .ne 14, 3) := by decide +kernel
theorem dX6_requireEvent_20 : decode cX6_requireEvent 20 = .ok (.new 181, 3) := by decide +kernel
theorem dX6_requireEvent_23 : decode cX6_requireEvent 23 = .ok (.dup, 1) := by decide +kernel
theorem dX6_requireEvent_24 : decode cX6_requireEvent 24 = .ok (.ldc_w 299, 3) := by decide +kernel
theorem dX6_requireEvent_27 : decode cX6_requireEvent 27 = .ok (.invokespecial 185, 3) := by decide +kernel
theorem dX6_requireEvent_30 : decode cX6_requireEvent 30 = .ok (.athrow, 1) := by decide +kernel
theorem dX6_requireEvent_31 : decode cX6_requireEvent 31 = .ok (.return_, 1) := by decide +kernel
def tX6_requireEvent_0 : Tb := [(0, .inl (f_iload 1, 1)), (1, .inl (f_ci (0), 2)), (2, .inl (f_aload 0, 3)), (3, .inl (f_get 6 0, 6)), (6, .inl (f_get 4 2, 9)), (9, .inl (f_get 0 0, 12)), (12, .inl (f_ci (1), 13)), (13, .inl (f_isub, 14)), (14, .inr (.inr (.inl (14, 17, 3, mX6_within)))), (17, .inr (.inl (b_if_eq, 20, 31))), (23, .inl (f_dup, 24)), (31, .inr (.inr (.inl (18, 32, 0, m0))))]
set_option maxRecDepth 10000 in
theorem kX6_requireEvent_0 {X : Ctx} (h : sCx X mX6_requireEvent) : tab X mX6_requireEvent tX6_requireEvent_0 :=
  tab_cons (eS (st_iloadn h rfl dX6_requireEvent_0)) (
  tab_cons (eS (st_iconst h (by decide +kernel) dX6_requireEvent_1)) (
  tab_cons (eS (st_aloadn h rfl dX6_requireEvent_2)) (
  tab_cons (eS (st_get h (ci := 6) (k := 0) rfl giX6 (by decide) rfl gw_171 dX6_requireEvent_3)) (
  tab_cons (eS (st_get h (ci := 4) (k := 2) rfl giX4 (by decide) rfl gw_242 dX6_requireEvent_6)) (
  tab_cons (eS (st_get h (ci := 0) (k := 0) rfl giX0 (by decide) rfl gw_243 dX6_requireEvent_9)) (
  tab_cons (eS (st_iconst h (by decide +kernel) dX6_requireEvent_12)) (
  tab_cons (eS (st_isub h dX6_requireEvent_13)) (
  tab_cons (eO (so_callS h gw_181 gw_182 gw_27 gw_183 ⟨by decide +kernel, by decide +kernel, by decide +kernel⟩ ⟨by decide +kernel, by decide +kernel⟩ dX6_requireEvent_14)) (
  tab_cons (eB (sb_if_ne h dX6_requireEvent_17 (by decide))) (
  tab_cons (eS (st_dup h dX6_requireEvent_23)) (
  tab_cons (eO (so_return h dX6_requireEvent_31)) (
  tab_nil))))))))))))
def tX6_requireEvent : Tb := tX6_requireEvent_0
theorem kX6_requireEvent {X : Ctx} (h : sCx X mX6_requireEvent) : tab X mX6_requireEvent tX6_requireEvent := kX6_requireEvent_0 h
