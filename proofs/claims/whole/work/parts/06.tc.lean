theorem dX0_copyFrom_0 : decode cX0_copyFrom 0 = .ok (.aload_n 0, 1) := by decide +kernel
theorem dX0_copyFrom_1 : decode cX0_copyFrom 1 = .ok (.aload_n 1, 1) := by decide +kernel
theorem dX0_copyFrom_2 : decode cX0_copyFrom 2 = .ok (.getfield 19, 3) := by decide +kernel
theorem dX0_copyFrom_5 : decode cX0_copyFrom 5 = .ok (.putfield 19, 3) := by decide +kernel
theorem dX0_copyFrom_8 : decode cX0_copyFrom 8 = .ok (.aload_n 1, 1) := by decide +kernel
theorem dX0_copyFrom_9 : decode cX0_copyFrom 9 = .ok (.getfield 9, 3) := by decide +kernel
theorem dX0_copyFrom_12 : decode cX0_copyFrom 12 = .ok (.iconst 0, 1) := by decide +kernel
theorem dX0_copyFrom_13 : decode cX0_copyFrom 13 = .ok (.aload_n 0, 1) := by decide +kernel
theorem dX0_copyFrom_14 : decode cX0_copyFrom 14 = .ok (.getfield 9, 3) := by decide +kernel
theorem dX0_copyFrom_17 : decode cX0_copyFrom 17 = .ok (.iconst 0, 1) := by decide +kernel
theorem dX0_copyFrom_18 : decode cX0_copyFrom 18 = .ok (.bipush 60, 2) := by decide +kernel
theorem dX0_copyFrom_20 : decode cX0_copyFrom 20 = .ok (.invokestatic 23, 3) := by decide +kernel
theorem dX0_copyFrom_23 : decode cX0_copyFrom 23 = .ok (.aload_n 1, 1) := by decide +kernel
theorem dX0_copyFrom_24 : decode cX0_copyFrom 24 = .ok (.getfield 15, 3) := by decide +kernel
theorem dX0_copyFrom_27 : decode cX0_copyFrom 27 = .ok (.iconst 0, 1) := by decide +kernel
theorem dX0_copyFrom_28 : decode cX0_copyFrom 28 = .ok (.aload_n 0, 1) := by decide +kernel
theorem dX0_copyFrom_29 : decode cX0_copyFrom 29 = .ok (.getfield 15, 3) := by decide +kernel
theorem dX0_copyFrom_32 : decode cX0_copyFrom 32 = .ok (.iconst 0, 1) := by decide +kernel
theorem dX0_copyFrom_33 : decode cX0_copyFrom 33 = .ok (.bipush 60, 2) := by decide +kernel
theorem dX0_copyFrom_35 : decode cX0_copyFrom 35 = .ok (.invokestatic 23, 3) := by decide +kernel
theorem dX0_copyFrom_38 : decode cX0_copyFrom 38 = .ok (.aload_n 0, 1) := by decide +kernel
theorem dX0_copyFrom_39 : decode cX0_copyFrom 39 = .ok (.aload_n 1, 1) := by decide +kernel
theorem dX0_copyFrom_40 : decode cX0_copyFrom 40 = .ok (.getfield 29, 3) := by decide +kernel
theorem dX0_copyFrom_43 : decode cX0_copyFrom 43 = .ok (.putfield 29, 3) := by decide +kernel
theorem dX0_copyFrom_46 : decode cX0_copyFrom 46 = .ok (.return_, 1) := by decide +kernel
def tX0_copyFrom_0 : Tb := [(0, .inl (f_aload 0, 1)), (1, .inl (f_aload 1, 2)), (2, .inl (f_get 0 0, 5)), (5, .inl (f_putI 0 0, 8)), (8, .inl (f_aload 1, 9)), (9, .inl (f_get 0 1, 12)), (12, .inl (f_ci (0), 13)), (13, .inl (f_aload 0, 14)), (14, .inl (f_get 0 1, 17)), (17, .inl (f_ci (0), 18)), (18, .inl (f_ci (60), 20)), (20, .inr (.inr (.inl (19, 23, 0, m0)))), (23, .inl (f_aload 1, 24)), (24, .inl (f_get 0 2, 27)), (27, .inl (f_ci (0), 28)), (28, .inl (f_aload 0, 29)), (29, .inl (f_get 0 2, 32)), (32, .inl (f_ci (0), 33)), (33, .inl (f_ci (60), 35)), (35, .inr (.inr (.inl (19, 38, 0, m0)))), (38, .inl (f_aload 0, 39)), (39, .inl (f_aload 1, 40)), (40, .inl (f_get 0 3, 43)), (43, .inl (f_putD 0 3, 46)), (46, .inr (.inr (.inl (18, 47, 0, m0))))]
set_option maxRecDepth 10000 in
theorem kX0_copyFrom_0 {X : Ctx} (h : sCx X mX0_copyFrom) : tab X mX0_copyFrom tX0_copyFrom_0 :=
  tab_cons (eS (st_aloadn h rfl dX0_copyFrom_0)) (
  tab_cons (eS (st_aloadn h rfl dX0_copyFrom_1)) (
  tab_cons (eS (st_get h (ci := 0) (k := 0) rfl giX0 (by decide) rfl gw_0 dX0_copyFrom_2)) (
  tab_cons (eS (st_putI h (ci := 0) (k := 0) tyX0 tyX0_ok nmX0 rfl giX0 (by decide) rfl rfl (by decide +kernel) gw_0 dX0_copyFrom_5)) (
  tab_cons (eS (st_aloadn h rfl dX0_copyFrom_8)) (
  tab_cons (eS (st_get h (ci := 0) (k := 1) rfl giX0 (by decide) rfl gw_1 dX0_copyFrom_9)) (
  tab_cons (eS (st_iconst h (by decide +kernel) dX0_copyFrom_12)) (
  tab_cons (eS (st_aloadn h rfl dX0_copyFrom_13)) (
  tab_cons (eS (st_get h (ci := 0) (k := 1) rfl giX0 (by decide) rfl gw_1 dX0_copyFrom_14)) (
  tab_cons (eS (st_iconst h (by decide +kernel) dX0_copyFrom_17)) (
  tab_cons (eS (st_bipush h (by decide +kernel) dX0_copyFrom_18)) (
  tab_cons (eO (so_cp h gw_2 gw_3 gw_4 gw_5 (by decide +kernel) dX0_copyFrom_20)) (
  tab_cons (eS (st_aloadn h rfl dX0_copyFrom_23)) (
  tab_cons (eS (st_get h (ci := 0) (k := 2) rfl giX0 (by decide) rfl gw_6 dX0_copyFrom_24)) (
  tab_cons (eS (st_iconst h (by decide +kernel) dX0_copyFrom_27)) (
  tab_cons (eS (st_aloadn h rfl dX0_copyFrom_28)) (
  tab_cons (eS (st_get h (ci := 0) (k := 2) rfl giX0 (by decide) rfl gw_6 dX0_copyFrom_29)) (
  tab_cons (eS (st_iconst h (by decide +kernel) dX0_copyFrom_32)) (
  tab_cons (eS (st_bipush h (by decide +kernel) dX0_copyFrom_33)) (
  tab_cons (eO (so_cp h gw_2 gw_3 gw_4 gw_5 (by decide +kernel) dX0_copyFrom_35)) (
  tab_cons (eS (st_aloadn h rfl dX0_copyFrom_38)) (
  tab_cons (eS (st_aloadn h rfl dX0_copyFrom_39)) (
  tab_cons (eS (st_get h (ci := 0) (k := 3) rfl giX0 (by decide) rfl gw_7 dX0_copyFrom_40)) (
  tab_cons (eS (st_putD h (ci := 0) (k := 3) tyX0 tyX0_ok nmX0 rfl giX0 (by decide) rfl rfl (by decide +kernel) gw_7 dX0_copyFrom_43)) (
  tab_cons (eO (so_return h dX0_copyFrom_46)) (
  tab_nil)))))))))))))))))))))))))
def tX0_copyFrom : Tb := tX0_copyFrom_0
theorem kX0_copyFrom {X : Ctx} (h : sCx X mX0_copyFrom) : tab X mX0_copyFrom tX0_copyFrom := kX0_copyFrom_0 h
theorem dX0_reset_0 : decode cX0_reset 0 = .ok (.aload_n 0, 1) := by decide +kernel
theorem dX0_reset_1 : decode cX0_reset 1 = .ok (.iconst 0, 1) := by decide +kernel
theorem dX0_reset_2 : decode cX0_reset 2 = .ok (.putfield 19, 3) := by decide +kernel
theorem dX0_reset_5 : decode cX0_reset 5 = .ok (.aload_n 0, 1) := by decide +kernel
theorem dX0_reset_6 : decode cX0_reset 6 = .ok (.dconst 0, 1) := by decide +kernel
theorem dX0_reset_7 : decode cX0_reset 7 = .ok (.putfield 29, 3) := by decide +kernel
theorem dX0_reset_10 : decode cX0_reset 10 = .ok (.return_, 1) := by decide +kernel
def tX0_reset_0 : Tb := [(0, .inl (f_aload 0, 1)), (1, .inl (f_ci (0), 2)), (2, .inl (f_putI 0 0, 5)), (5, .inl (f_aload 0, 6)), (6, .inl (f_cd 0, 7)), (7, .inl (f_putD 0 3, 10)), (10, .inr (.inr (.inl (18, 11, 0, m0))))]
set_option maxRecDepth 10000 in
theorem kX0_reset_0 {X : Ctx} (h : sCx X mX0_reset) : tab X mX0_reset tX0_reset_0 :=
  tab_cons (eS (st_aloadn h rfl dX0_reset_0)) (
  tab_cons (eS (st_iconst h (by decide +kernel) dX0_reset_1)) (
  tab_cons (eS (st_putI h (ci := 0) (k := 0) tyX0 tyX0_ok nmX0 rfl giX0 (by decide) rfl rfl (by decide +kernel) gw_0 dX0_reset_2)) (
  tab_cons (eS (st_aloadn h rfl dX0_reset_5)) (
  tab_cons (eS (st_dconst0 h rfl dX0_reset_6)) (
  tab_cons (eS (st_putD h (ci := 0) (k := 3) tyX0 tyX0_ok nmX0 rfl giX0 (by decide) rfl rfl (by decide +kernel) gw_7 dX0_reset_7)) (
  tab_cons (eO (so_return h dX0_reset_10)) (
  tab_nil)))))))
def tX0_reset : Tb := tX0_reset_0
theorem kX0_reset {X : Ctx} (h : sCx X mX0_reset) : tab X mX0_reset tX0_reset := kX0_reset_0 h
theorem dX0_put_0 : decode cX0_put 0 = .ok (.aload_n 0, 1) := by decide +kernel
theorem dX0_put_1 : decode cX0_put 1 = .ok (.getfield 19, 3) := by decide +kernel
theorem dX0_put_4 : decode cX0_put 4 = .ok (.bipush 60, 2) := by decide +kernel
theorem dX0_put_6 : decode cX0_put 6 = .ok (.if_icmp .ge 38, 3) := by decide +kernel
theorem dX0_put_9 : decode cX0_put 9 = .ok (.aload_n 0, 1) := by decide +kernel
theorem dX0_put_10 : decode cX0_put 10 = .ok (.getfield 9, 3) := by decide +kernel
theorem dX0_put_13 : decode cX0_put 13 = .ok (.aload_n 0, 1) := by decide +kernel
theorem dX0_put_14 : decode cX0_put 14 = .ok (.getfield 19, 3) := by decide +kernel
theorem dX0_put_17 : decode cX0_put 17 = .ok (.bipush 100, 2) := by decide +kernel
theorem dX0_put_19 : decode cX0_put 19 = .ok (.iload_n 1, 1) := by decide +kernel
theorem dX0_put_20 : decode cX0_put 20 = .ok (.imul, 1) := by decide +kernel
theorem dX0_put_21 : decode cX0_put 21 = .ok (.iload_n 2, 1) := by decide +kernel
theorem dX0_put_22 : decode cX0_put 22 = .ok (.iadd, 1) := by decide +kernel
theorem dX0_put_23 : decode cX0_put 23 = .ok (.iastore, 1) := by decide +kernel
theorem dX0_put_24 : decode cX0_put 24 = .ok (.aload_n 0, 1) := by decide +kernel
theorem dX0_put_25 : decode cX0_put 25 = .ok (.getfield 15, 3) := by decide +kernel
theorem dX0_put_28 : decode cX0_put 28 = .ok (.aload_n 0, 1) := by decide +kernel
theorem dX0_put_29 : decode cX0_put 29 = .ok (.getfield 19, 3) := by decide +kernel
theorem dX0_put_32 : decode cX0_put 32 = .ok (.dload_n 3, 1) := by decide +kernel
theorem dX0_put_33 : decode cX0_put 33 = .ok (.dastore, 1) := by decide +kernel
theorem dX0_put_34 : decode cX0_put 34 = .ok (.aload_n 0, 1) := by decide +kernel
theorem dX0_put_35 : decode cX0_put 35 = .ok (.dup, 1) := by decide +kernel
theorem dX0_put_36 : decode cX0_put 36 = .ok (.getfield 19, 3) := by decide +kernel
theorem dX0_put_39 : decode cX0_put 39 = .ok (.iconst 1, 1) := by decide +kernel
theorem dX0_put_40 : decode cX0_put 40 = .ok (.iadd, 1) := by decide +kernel
theorem dX0_put_41 : decode cX0_put 41 = .ok (.putfield 19, 3) := by decide +kernel
theorem dX0_put_44 : decode cX0_put 44 = .ok (.return_, 1) := by decide +kernel
def tX0_put_0 : Tb := [(0, .inl (f_aload 0, 1)), (1, .inl (f_get 0 0, 4)), (4, .inl (f_ci (60), 6)), (6, .inr (.inl (b_icmp_ge, 44, 9))), (9, .inl (f_aload 0, 10)), (10, .inl (f_get 0 1, 13)), (13, .inl (f_aload 0, 14)), (14, .inl (f_get 0 0, 17)), (17, .inl (f_ci (100), 19)), (19, .inl (f_iload 1, 20)), (20, .inl (f_imul, 21)), (21, .inl (f_iload 2, 22)), (22, .inl (f_iadd, 23)), (23, .inr (.inr (.inl (4, 24, 0, m0)))), (24, .inl (f_aload 0, 25)), (25, .inl (f_get 0 2, 28)), (28, .inl (f_aload 0, 29)), (29, .inl (f_get 0 0, 32)), (32, .inl (f_dload 3, 33)), (33, .inr (.inr (.inl (5, 34, 0, m0)))), (34, .inl (f_aload 0, 35)), (35, .inl (f_dup, 36)), (36, .inl (f_get 0 0, 39)), (39, .inl (f_ci (1), 40)), (40, .inl (f_iadd, 41)), (41, .inl (f_putI 0 0, 44)), (44, .inr (.inr (.inl (18, 45, 0, m0))))]
set_option maxRecDepth 10000 in
theorem kX0_put_0 {X : Ctx} (h : sCx X mX0_put) : tab X mX0_put tX0_put_0 :=
  tab_cons (eS (st_aloadn h rfl dX0_put_0)) (
  tab_cons (eS (st_get h (ci := 0) (k := 0) rfl giX0 (by decide) rfl gw_0 dX0_put_1)) (
  tab_cons (eS (st_bipush h (by decide +kernel) dX0_put_4)) (
  tab_cons (eB (sb_icmp_ge h dX0_put_6 (by decide))) (
  tab_cons (eS (st_aloadn h rfl dX0_put_9)) (
  tab_cons (eS (st_get h (ci := 0) (k := 1) rfl giX0 (by decide) rfl gw_1 dX0_put_10)) (
  tab_cons (eS (st_aloadn h rfl dX0_put_13)) (
  tab_cons (eS (st_get h (ci := 0) (k := 0) rfl giX0 (by decide) rfl gw_0 dX0_put_14)) (
  tab_cons (eS (st_bipush h (by decide +kernel) dX0_put_17)) (
  tab_cons (eS (st_iloadn h rfl dX0_put_19)) (
  tab_cons (eS (st_imul h dX0_put_20)) (
  tab_cons (eS (st_iloadn h rfl dX0_put_21)) (
  tab_cons (eS (st_iadd h dX0_put_22)) (
  tab_cons (eO (so_iastore h dX0_put_23)) (
  tab_cons (eS (st_aloadn h rfl dX0_put_24)) (
  tab_cons (eS (st_get h (ci := 0) (k := 2) rfl giX0 (by decide) rfl gw_6 dX0_put_25)) (
  tab_cons (eS (st_aloadn h rfl dX0_put_28)) (
  tab_cons (eS (st_get h (ci := 0) (k := 0) rfl giX0 (by decide) rfl gw_0 dX0_put_29)) (
  tab_cons (eS (st_dloadn h rfl dX0_put_32)) (
  tab_cons (eO (so_dastore h dX0_put_33)) (
  tab_cons (eS (st_aloadn h rfl dX0_put_34)) (
  tab_cons (eS (st_dup h dX0_put_35)) (
  tab_cons (eS (st_get h (ci := 0) (k := 0) rfl giX0 (by decide) rfl gw_0 dX0_put_36)) (
  tab_cons (eS (st_iconst h (by decide +kernel) dX0_put_39)) (
  tab_cons (eS (st_iadd h dX0_put_40)) (
  tab_cons (eS (st_putI h (ci := 0) (k := 0) tyX0 tyX0_ok nmX0 rfl giX0 (by decide) rfl rfl (by decide +kernel) gw_0 dX0_put_41)) (
  tab_cons (eO (so_return h dX0_put_44)) (
  tab_nil)))))))))))))))))))))))))))
def tX0_put : Tb := tX0_put_0
theorem kX0_put {X : Ctx} (h : sCx X mX0_put) : tab X mX0_put tX0_put := kX0_put_0 h
theorem dX1_copyFrom_0 : decode cX1_copyFrom 0 = .ok (.aload_n 0, 1) := by decide +kernel
theorem dX1_copyFrom_1 : decode cX1_copyFrom 1 = .ok (.aload_n 1, 1) := by decide +kernel
theorem dX1_copyFrom_2 : decode cX1_copyFrom 2 = .ok (.getfield 11, 3) := by decide +kernel
theorem dX1_copyFrom_5 : decode cX1_copyFrom 5 = .ok (.putfield 11, 3) := by decide +kernel
theorem dX1_copyFrom_8 : decode cX1_copyFrom 8 = .ok (.aload_n 0, 1) := by decide +kernel
theorem dX1_copyFrom_9 : decode cX1_copyFrom 9 = .ok (.aload_n 1, 1) := by decide +kernel
theorem dX1_copyFrom_10 : decode cX1_copyFrom 10 = .ok (.getfield 17, 3) := by decide +kernel
theorem dX1_copyFrom_13 : decode cX1_copyFrom 13 = .ok (.putfield 17, 3) := by decide +kernel
theorem dX1_copyFrom_16 : decode cX1_copyFrom 16 = .ok (.aload_n 0, 1) := by decide +kernel
theorem dX1_copyFrom_17 : decode cX1_copyFrom 17 = .ok (.aload_n 1, 1) := by decide +kernel
theorem dX1_copyFrom_18 : decode cX1_copyFrom 18 = .ok (.getfield 34, 3) := by decide +kernel
theorem dX1_copyFrom_21 : decode cX1_copyFrom 21 = .ok (.putfield 34, 3) := by decide +kernel
theorem dX1_copyFrom_24 : decode cX1_copyFrom 24 = .ok (.aload_n 1, 1) := by decide +kernel
theorem dX1_copyFrom_25 : decode cX1_copyFrom 25 = .ok (.getfield 20, 3) := by decide +kernel
theorem dX1_copyFrom_28 : decode cX1_copyFrom 28 = .ok (.iconst 0, 1) := by decide +kernel
theorem dX1_copyFrom_29 : decode cX1_copyFrom 29 = .ok (.aload_n 0, 1) := by decide +kernel
theorem dX1_copyFrom_30 : decode cX1_copyFrom 30 = .ok (.getfield 20, 3) := by decide +kernel
theorem dX1_copyFrom_33 : decode cX1_copyFrom 33 = .ok (.iconst 0, 1) := by decide +kernel
theorem dX1_copyFrom_34 : decode cX1_copyFrom 34 = .ok (.bipush 12, 2) := by decide +kernel
theorem dX1_copyFrom_36 : decode cX1_copyFrom 36 = .ok (.invokestatic 38, 3) := by decide +kernel
theorem dX1_copyFrom_39 : decode cX1_copyFrom 39 = .ok (.aload_n 1, 1) := by decide +kernel
theorem dX1_copyFrom_40 : decode cX1_copyFrom 40 = .ok (.getfield 24, 3) := by decide +kernel
theorem dX1_copyFrom_43 : decode cX1_copyFrom 43 = .ok (.iconst 0, 1) := by decide +kernel
theorem dX1_copyFrom_44 : decode cX1_copyFrom 44 = .ok (.aload_n 0, 1) := by decide +kernel
theorem dX1_copyFrom_45 : decode cX1_copyFrom 45 = .ok (.getfield 24, 3) := by decide +kernel
theorem dX1_copyFrom_48 : decode cX1_copyFrom 48 = .ok (.iconst 0, 1) := by decide +kernel
theorem dX1_copyFrom_49 : decode cX1_copyFrom 49 = .ok (.bipush 12, 2) := by decide +kernel
theorem dX1_copyFrom_51 : decode cX1_copyFrom 51 = .ok (.invokestatic 38, 3) := by decide +kernel
theorem dX1_copyFrom_54 : decode cX1_copyFrom 54 = .ok (.aload_n 1, 1) := by decide +kernel
theorem dX1_copyFrom_55 : decode cX1_copyFrom 55 = .ok (.getfield 27, 3) := by decide +kernel
theorem dX1_copyFrom_58 : decode cX1_copyFrom 58 = .ok (.iconst 0, 1) := by decide +kernel
theorem dX1_copyFrom_59 : decode cX1_copyFrom 59 = .ok (.aload_n 0, 1) := by decide +kernel
theorem dX1_copyFrom_60 : decode cX1_copyFrom 60 = .ok (.getfield 27, 3) := by decide +kernel
theorem dX1_copyFrom_63 : decode cX1_copyFrom 63 = .ok (.iconst 0, 1) := by decide +kernel
theorem dX1_copyFrom_64 : decode cX1_copyFrom 64 = .ok (.bipush 12, 2) := by decide +kernel
theorem dX1_copyFrom_66 : decode cX1_copyFrom 66 = .ok (.invokestatic 38, 3) := by decide +kernel
theorem dX1_copyFrom_69 : decode cX1_copyFrom 69 = .ok (.aload_n 1, 1) := by decide +kernel
theorem dX1_copyFrom_70 : decode cX1_copyFrom 70 = .ok (.getfield 31, 3) := by decide +kernel
theorem dX1_copyFrom_73 : decode cX1_copyFrom 73 = .ok (.iconst 0, 1) := by decide +kernel
theorem dX1_copyFrom_74 : decode cX1_copyFrom 74 = .ok (.aload_n 0, 1) := by decide +kernel
theorem dX1_copyFrom_75 : decode cX1_copyFrom 75 = .ok (.getfield 31, 3) := by decide +kernel
theorem dX1_copyFrom_78 : decode cX1_copyFrom 78 = .ok (.iconst 0, 1) := by decide +kernel
theorem dX1_copyFrom_79 : decode cX1_copyFrom 79 = .ok (.bipush 12, 2) := by decide +kernel
theorem dX1_copyFrom_81 : decode cX1_copyFrom 81 = .ok (.invokestatic 38, 3) := by decide +kernel
theorem dX1_copyFrom_84 : decode cX1_copyFrom 84 = .ok (.return_, 1) := by decide +kernel
def tX1_copyFrom_0 : Tb := [(0, .inl (f_aload 0, 1)), (1, .inl (f_aload 1, 2)), (2, .inl (f_get 1 0, 5)), (5, .inl (f_putD 1 0, 8)), (8, .inl (f_aload 0, 9)), (9, .inl (f_aload 1, 10)), (10, .inl (f_get 1 1, 13)), (13, .inl (f_putD 1 1, 16)), (16, .inl (f_aload 0, 17)), (17, .inl (f_aload 1, 18)), (18, .inl (f_get 1 2, 21)), (21, .inl (f_putI 1 2, 24)), (24, .inl (f_aload 1, 25)), (25, .inl (f_get 1 3, 28)), (28, .inl (f_ci (0), 29)), (29, .inl (f_aload 0, 30)), (30, .inl (f_get 1 3, 33)), (33, .inl (f_ci (0), 34)), (34, .inl (f_ci (12), 36)), (36, .inr (.inr (.inl (19, 39, 0, m0)))), (39, .inl (f_aload 1, 40)), (40, .inl (f_get 1 4, 43)), (43, .inl (f_ci (0), 44)), (44, .inl (f_aload 0, 45)), (45, .inl (f_get 1 4, 48)), (48, .inl (f_ci (0), 49)), (49, .inl (f_ci (12), 51)), (51, .inr (.inr (.inl (19, 54, 0, m0)))), (54, .inl (f_aload 1, 55)), (55, .inl (f_get 1 5, 58))]
set_option maxRecDepth 10000 in
theorem kX1_copyFrom_0 {X : Ctx} (h : sCx X mX1_copyFrom) : tab X mX1_copyFrom tX1_copyFrom_0 :=
  tab_cons (eS (st_aloadn h rfl dX1_copyFrom_0)) (
  tab_cons (eS (st_aloadn h rfl dX1_copyFrom_1)) (
  tab_cons (eS (st_get h (ci := 1) (k := 0) rfl giX1 (by decide) rfl gw_8 dX1_copyFrom_2)) (
  tab_cons (eS (st_putD h (ci := 1) (k := 0) tyX1 tyX1_ok nmX1 rfl giX1 (by decide) rfl rfl (by decide +kernel) gw_8 dX1_copyFrom_5)) (
  tab_cons (eS (st_aloadn h rfl dX1_copyFrom_8)) (
  tab_cons (eS (st_aloadn h rfl dX1_copyFrom_9)) (
  tab_cons (eS (st_get h (ci := 1) (k := 1) rfl giX1 (by decide) rfl gw_9 dX1_copyFrom_10)) (
  tab_cons (eS (st_putD h (ci := 1) (k := 1) tyX1 tyX1_ok nmX1 rfl giX1 (by decide) rfl rfl (by decide +kernel) gw_9 dX1_copyFrom_13)) (
  tab_cons (eS (st_aloadn h rfl dX1_copyFrom_16)) (
  tab_cons (eS (st_aloadn h rfl dX1_copyFrom_17)) (
  tab_cons (eS (st_get h (ci := 1) (k := 2) rfl giX1 (by decide) rfl gw_10 dX1_copyFrom_18)) (
  tab_cons (eS (st_putI h (ci := 1) (k := 2) tyX1 tyX1_ok nmX1 rfl giX1 (by decide) rfl rfl (by decide +kernel) gw_10 dX1_copyFrom_21)) (
  tab_cons (eS (st_aloadn h rfl dX1_copyFrom_24)) (
  tab_cons (eS (st_get h (ci := 1) (k := 3) rfl giX1 (by decide) rfl gw_11 dX1_copyFrom_25)) (
  tab_cons (eS (st_iconst h (by decide +kernel) dX1_copyFrom_28)) (
  tab_cons (eS (st_aloadn h rfl dX1_copyFrom_29)) (
  tab_cons (eS (st_get h (ci := 1) (k := 3) rfl giX1 (by decide) rfl gw_11 dX1_copyFrom_30)) (
  tab_cons (eS (st_iconst h (by decide +kernel) dX1_copyFrom_33)) (
  tab_cons (eS (st_bipush h (by decide +kernel) dX1_copyFrom_34)) (
  tab_cons (eO (so_cp h gw_12 gw_3 gw_4 gw_5 (by decide +kernel) dX1_copyFrom_36)) (
  tab_cons (eS (st_aloadn h rfl dX1_copyFrom_39)) (
  tab_cons (eS (st_get h (ci := 1) (k := 4) rfl giX1 (by decide) rfl gw_13 dX1_copyFrom_40)) (
  tab_cons (eS (st_iconst h (by decide +kernel) dX1_copyFrom_43)) (
  tab_cons (eS (st_aloadn h rfl dX1_copyFrom_44)) (
  tab_cons (eS (st_get h (ci := 1) (k := 4) rfl giX1 (by decide) rfl gw_13 dX1_copyFrom_45)) (
  tab_cons (eS (st_iconst h (by decide +kernel) dX1_copyFrom_48)) (
  tab_cons (eS (st_bipush h (by decide +kernel) dX1_copyFrom_49)) (
  tab_cons (eO (so_cp h gw_12 gw_3 gw_4 gw_5 (by decide +kernel) dX1_copyFrom_51)) (
  tab_cons (eS (st_aloadn h rfl dX1_copyFrom_54)) (
  tab_cons (eS (st_get h (ci := 1) (k := 5) rfl giX1 (by decide) rfl gw_14 dX1_copyFrom_55)) (
  tab_nil))))))))))))))))))))))))))))))
def tX1_copyFrom_1 : Tb := [(58, .inl (f_ci (0), 59)), (59, .inl (f_aload 0, 60)), (60, .inl (f_get 1 5, 63)), (63, .inl (f_ci (0), 64)), (64, .inl (f_ci (12), 66)), (66, .inr (.inr (.inl (19, 69, 0, m0)))), (69, .inl (f_aload 1, 70)), (70, .inl (f_get 1 6, 73)), (73, .inl (f_ci (0), 74)), (74, .inl (f_aload 0, 75)), (75, .inl (f_get 1 6, 78)), (78, .inl (f_ci (0), 79)), (79, .inl (f_ci (12), 81)), (81, .inr (.inr (.inl (19, 84, 0, m0)))), (84, .inr (.inr (.inl (18, 85, 0, m0))))]
set_option maxRecDepth 10000 in
theorem kX1_copyFrom_1 {X : Ctx} (h : sCx X mX1_copyFrom) : tab X mX1_copyFrom tX1_copyFrom_1 :=
  tab_cons (eS (st_iconst h (by decide +kernel) dX1_copyFrom_58)) (
  tab_cons (eS (st_aloadn h rfl dX1_copyFrom_59)) (
  tab_cons (eS (st_get h (ci := 1) (k := 5) rfl giX1 (by decide) rfl gw_14 dX1_copyFrom_60)) (
  tab_cons (eS (st_iconst h (by decide +kernel) dX1_copyFrom_63)) (
  tab_cons (eS (st_bipush h (by decide +kernel) dX1_copyFrom_64)) (
  tab_cons (eO (so_cp h gw_12 gw_3 gw_4 gw_5 (by decide +kernel) dX1_copyFrom_66)) (
  tab_cons (eS (st_aloadn h rfl dX1_copyFrom_69)) (
  tab_cons (eS (st_get h (ci := 1) (k := 6) rfl giX1 (by decide) rfl gw_15 dX1_copyFrom_70)) (
  tab_cons (eS (st_iconst h (by decide +kernel) dX1_copyFrom_73)) (
  tab_cons (eS (st_aloadn h rfl dX1_copyFrom_74)) (
  tab_cons (eS (st_get h (ci := 1) (k := 6) rfl giX1 (by decide) rfl gw_15 dX1_copyFrom_75)) (
  tab_cons (eS (st_iconst h (by decide +kernel) dX1_copyFrom_78)) (
  tab_cons (eS (st_bipush h (by decide +kernel) dX1_copyFrom_79)) (
  tab_cons (eO (so_cp h gw_12 gw_3 gw_4 gw_5 (by decide +kernel) dX1_copyFrom_81)) (
  tab_cons (eO (so_return h dX1_copyFrom_84)) (
  tab_nil)))))))))))))))
def tX1_copyFrom : Tb := tX1_copyFrom_0 ++ (tX1_copyFrom_1)
theorem kX1_copyFrom {X : Ctx} (h : sCx X mX1_copyFrom) : tab X mX1_copyFrom tX1_copyFrom := tab_app (kX1_copyFrom_0 h) (kX1_copyFrom_1 h)
theorem dX1_append_0 : decode cX1_append 0 = .ok (.aload_n 0, 1) := by decide +kernel
theorem dX1_append_1 : decode cX1_append 1 = .ok (.getfield 34, 3) := by decide +kernel
theorem dX1_append_4 : decode cX1_append 4 = .ok (.istore 4, 2) := by decide +kernel
theorem dX1_append_6 : decode cX1_append 6 = .ok (.iload_n 1, 1) := by decide +kernel
theorem dX1_append_7 : decode cX1_append 7 = .ok (.ifCond .ne 7, 3) := by decide +kernel
theorem dX1_append_10 : decode cX1_append 10 = .ok (.iconst 0, 1) := by decide +kernel
theorem dX1_append_11 : decode cX1_append 11 = .ok (.goto 11, 3) := by decide +kernel
theorem dX1_append_14 : decode cX1_append 14 = .ok (.aload_n 0, 1) := by decide +kernel
theorem dX1_append_15 : decode cX1_append 15 = .ok (.getfield 24, 3) := by decide +kernel
theorem dX1_append_18 : decode cX1_append 18 = .ok (.iload_n 1, 1) := by decide +kernel
theorem dX1_append_19 : decode cX1_append 19 = .ok (.iconst 1, 1) := by decide +kernel
theorem dX1_append_20 : decode cX1_append 20 = .ok (.isub, 1) := by decide +kernel
theorem dX1_append_21 : decode cX1_append 21 = .ok (.iaload, 1) := by decide +kernel
theorem dX1_append_22 : decode cX1_append 22 = .ok (.istore 5, 2) := by decide +kernel
theorem dX1_append_24 : decode cX1_append 24 = .ok (.aload_n 0, 1) := by decide +kernel
theorem dX1_append_25 : decode cX1_append 25 = .ok (.getfield 20, 3) := by decide +kernel
theorem dX1_append_28 : decode cX1_append 28 = .ok (.iload 4, 2) := by decide +kernel
theorem dX1_append_30 : decode cX1_append 30 = .ok (.iload_n 1, 1) := by decide +kernel
theorem dX1_append_31 : decode cX1_append 31 = .ok (.iastore, 1) := by decide +kernel
theorem dX1_append_32 : decode cX1_append 32 = .ok (.aload_n 0, 1) := by decide +kernel
theorem dX1_append_33 : decode cX1_append 33 = .ok (.getfield 24, 3) := by decide +kernel
theorem dX1_append_36 : decode cX1_append 36 = .ok (.iload 4, 2) := by decide +kernel
theorem dX1_append_38 : decode cX1_append 38 = .ok (.iload 5, 2) := by decide +kernel
theorem dX1_append_40 : decode cX1_append 40 = .ok (.iconst 1, 1) := by decide +kernel
theorem dX1_append_41 : decode cX1_append 41 = .ok (.iload 4, 2) := by decide +kernel
theorem dX1_append_43 : decode cX1_append 43 = .ok (.ishl, 1) := by decide +kernel
theorem dX1_append_44 : decode cX1_append 44 = .ok (.ior, 1) := by decide +kernel
theorem dX1_append_45 : decode cX1_append 45 = .ok (.iastore, 1) := by decide +kernel
theorem dX1_append_46 : decode cX1_append 46 = .ok (.aload_n 0, 1) := by decide +kernel
theorem dX1_append_47 : decode cX1_append 47 = .ok (.getfield 27, 3) := by decide +kernel
theorem dX1_append_50 : decode cX1_append 50 = .ok (.iload 4, 2) := by decide +kernel
theorem dX1_append_52 : decode cX1_append 52 = .ok (.dload_n 2, 1) := by decide +kernel
theorem dX1_append_53 : decode cX1_append 53 = .ok (.dastore, 1) := by decide +kernel
theorem dX1_append_54 : decode cX1_append 54 = .ok (.aload_n 0, 1) := by decide +kernel
theorem dX1_append_55 : decode cX1_append 55 = .ok (.iload 4, 2) := by decide +kernel
theorem dX1_append_57 : decode cX1_append 57 = .ok (.iconst 1, 1) := by decide +kernel
theorem dX1_append_58 : decode cX1_append 58 = .ok (.iadd, 1) := by decide +kernel
theorem dX1_append_59 : decode cX1_append 59 = .ok (.putfield 34, 3) := by decide +kernel
theorem dX1_append_62 : decode cX1_append 62 = .ok (.iload 4, 2) := by decide +kernel
theorem dX1_append_64 : decode cX1_append 64 = .ok (.ireturn, 1) := by decide +kernel
def tX1_append_0 : Tb := [(0, .inl (f_aload 0, 1)), (1, .inl (f_get 1 2, 4)), (4, .inl (f_istore 6 4, 6)), (6, .inl (f_iload 1, 7)), (7, .inr (.inl (b_if_eq, 10, 14))), (10, .inl (f_ci (0), 11)), (11, .inl (f_id, 22)), (14, .inl (f_aload 0, 15)), (15, .inl (f_get 1 4, 18)), (18, .inl (f_iload 1, 19)), (19, .inl (f_ci (1), 20)), (20, .inl (f_isub, 21)), (21, .inr (.inr (.inl (0, 22, 0, m0)))), (22, .inl (f_istore 6 5, 24)), (24, .inl (f_aload 0, 25)), (25, .inl (f_get 1 3, 28)), (28, .inl (f_iload 4, 30)), (30, .inl (f_iload 1, 31)), (31, .inr (.inr (.inl (4, 32, 0, m0)))), (32, .inl (f_aload 0, 33)), (33, .inl (f_get 1 4, 36)), (36, .inl (f_iload 4, 38)), (38, .inl (f_iload 5, 40)), (40, .inl (f_ci (1), 41)), (41, .inl (f_iload 4, 43)), (43, .inl (f_ishl, 44)), (44, .inl (f_ior, 45)), (45, .inr (.inr (.inl (4, 46, 0, m0)))), (46, .inl (f_aload 0, 47)), (47, .inl (f_get 1 5, 50))]
set_option maxRecDepth 10000 in
theorem kX1_append_0 {X : Ctx} (h : sCx X mX1_append) : tab X mX1_append tX1_append_0 :=
  tab_cons (eS (st_aloadn h rfl dX1_append_0)) (
  tab_cons (eS (st_get h (ci := 1) (k := 2) rfl giX1 (by decide) rfl gw_10 dX1_append_1)) (
  tab_cons (eS (st_istore h dX1_append_4)) (
  tab_cons (eS (st_iloadn h rfl dX1_append_6)) (
  tab_cons (eB (sb_if_ne h dX1_append_7 (by decide))) (
  tab_cons (eS (st_iconst h (by decide +kernel) dX1_append_10)) (
  tab_cons (eS (st_goto h dX1_append_11 (by decide))) (
  tab_cons (eS (st_aloadn h rfl dX1_append_14)) (
  tab_cons (eS (st_get h (ci := 1) (k := 4) rfl giX1 (by decide) rfl gw_13 dX1_append_15)) (
  tab_cons (eS (st_iloadn h rfl dX1_append_18)) (
  tab_cons (eS (st_iconst h (by decide +kernel) dX1_append_19)) (
  tab_cons (eS (st_isub h dX1_append_20)) (
  tab_cons (eO (so_iaload h dX1_append_21)) (
  tab_cons (eS (st_istore h dX1_append_22)) (
  tab_cons (eS (st_aloadn h rfl dX1_append_24)) (
  tab_cons (eS (st_get h (ci := 1) (k := 3) rfl giX1 (by decide) rfl gw_11 dX1_append_25)) (
  tab_cons (eS (st_iload h dX1_append_28)) (
  tab_cons (eS (st_iloadn h rfl dX1_append_30)) (
  tab_cons (eO (so_iastore h dX1_append_31)) (
  tab_cons (eS (st_aloadn h rfl dX1_append_32)) (
  tab_cons (eS (st_get h (ci := 1) (k := 4) rfl giX1 (by decide) rfl gw_13 dX1_append_33)) (
  tab_cons (eS (st_iload h dX1_append_36)) (
  tab_cons (eS (st_iload h dX1_append_38)) (
  tab_cons (eS (st_iconst h (by decide +kernel) dX1_append_40)) (
  tab_cons (eS (st_iload h dX1_append_41)) (
  tab_cons (eS (st_ishl h dX1_append_43)) (
  tab_cons (eS (st_ior h dX1_append_44)) (
  tab_cons (eO (so_iastore h dX1_append_45)) (
  tab_cons (eS (st_aloadn h rfl dX1_append_46)) (
  tab_cons (eS (st_get h (ci := 1) (k := 5) rfl giX1 (by decide) rfl gw_14 dX1_append_47)) (
  tab_nil))))))))))))))))))))))))))))))
def tX1_append_1 : Tb := [(50, .inl (f_iload 4, 52)), (52, .inl (f_dload 2, 53)), (53, .inr (.inr (.inl (5, 54, 0, m0)))), (54, .inl (f_aload 0, 55)), (55, .inl (f_iload 4, 57)), (57, .inl (f_ci (1), 58)), (58, .inl (f_iadd, 59)), (59, .inl (f_putI 1 2, 62)), (62, .inl (f_iload 4, 64)), (64, .inr (.inr (.inl (15, 65, 0, m0))))]
set_option maxRecDepth 10000 in
theorem kX1_append_1 {X : Ctx} (h : sCx X mX1_append) : tab X mX1_append tX1_append_1 :=
  tab_cons (eS (st_iload h dX1_append_50)) (
  tab_cons (eS (st_dloadn h rfl dX1_append_52)) (
  tab_cons (eO (so_dastore h dX1_append_53)) (
  tab_cons (eS (st_aloadn h rfl dX1_append_54)) (
  tab_cons (eS (st_iload h dX1_append_55)) (
  tab_cons (eS (st_iconst h (by decide +kernel) dX1_append_57)) (
  tab_cons (eS (st_iadd h dX1_append_58)) (
  tab_cons (eS (st_putI h (ci := 1) (k := 2) tyX1 tyX1_ok nmX1 rfl giX1 (by decide) rfl rfl (by decide +kernel) gw_10 dX1_append_59)) (
  tab_cons (eS (st_iload h dX1_append_62)) (
  tab_cons (eO (so_ireturn h dX1_append_64)) (
  tab_nil))))))))))
def tX1_append : Tb := tX1_append_0 ++ (tX1_append_1)
theorem kX1_append {X : Ctx} (h : sCx X mX1_append) : tab X mX1_append tX1_append := tab_app (kX1_append_0 h) (kX1_append_1 h)
theorem dX1_lineBefore_0 : decode cX1_lineBefore 0 = .ok (.aload_n 0, 1) := by decide +kernel
theorem dX1_lineBefore_1 : decode cX1_lineBefore 1 = .ok (.getfield 20, 3) := by decide +kernel
theorem dX1_lineBefore_4 : decode cX1_lineBefore 4 = .ok (.iload_n 1, 1) := by decide +kernel
theorem dX1_lineBefore_5 : decode cX1_lineBefore 5 = .ok (.iaload, 1) := by decide +kernel
theorem dX1_lineBefore_6 : decode cX1_lineBefore 6 = .ok (.ifCond .ne 7, 3) := by decide +kernel
theorem dX1_lineBefore_9 : decode cX1_lineBefore 9 = .ok (.iconst (-1), 1) := by decide +kernel
theorem dX1_lineBefore_10 : decode cX1_lineBefore 10 = .ok (.goto 11, 3) := by decide +kernel
theorem dX1_lineBefore_13 : decode cX1_lineBefore 13 = .ok (.aload_n 0, 1) := by decide +kernel
theorem dX1_lineBefore_14 : decode cX1_lineBefore 14 = .ok (.getfield 20, 3) := by decide +kernel
theorem dX1_lineBefore_17 : decode cX1_lineBefore 17 = .ok (.iload_n 1, 1) := by decide +kernel
theorem dX1_lineBefore_18 : decode cX1_lineBefore 18 = .ok (.iaload, 1) := by decide +kernel
theorem dX1_lineBefore_19 : decode cX1_lineBefore 19 = .ok (.iconst 1, 1) := by decide +kernel
theorem dX1_lineBefore_20 : decode cX1_lineBefore 20 = .ok (.isub, 1) := by decide +kernel
theorem dX1_lineBefore_21 : decode cX1_lineBefore 21 = .ok (.ireturn, 1) := by decide +kernel
def tX1_lineBefore_0 : Tb := [(0, .inl (f_aload 0, 1)), (1, .inl (f_get 1 3, 4)), (4, .inl (f_iload 1, 5)), (5, .inr (.inr (.inl (0, 6, 0, m0)))), (6, .inr (.inl (b_if_eq, 9, 13))), (9, .inl (f_ci (-1), 10)), (10, .inl (f_id, 21)), (13, .inl (f_aload 0, 14)), (14, .inl (f_get 1 3, 17)), (17, .inl (f_iload 1, 18)), (18, .inr (.inr (.inl (0, 19, 0, m0)))), (19, .inl (f_ci (1), 20)), (20, .inl (f_isub, 21)), (21, .inr (.inr (.inl (15, 22, 0, m0))))]
set_option maxRecDepth 10000 in
theorem kX1_lineBefore_0 {X : Ctx} (h : sCx X mX1_lineBefore) : tab X mX1_lineBefore tX1_lineBefore_0 :=
  tab_cons (eS (st_aloadn h rfl dX1_lineBefore_0)) (
  tab_cons (eS (st_get h (ci := 1) (k := 3) rfl giX1 (by decide) rfl gw_11 dX1_lineBefore_1)) (
  tab_cons (eS (st_iloadn h rfl dX1_lineBefore_4)) (
  tab_cons (eO (so_iaload h dX1_lineBefore_5)) (
  tab_cons (eB (sb_if_ne h dX1_lineBefore_6 (by decide))) (
  tab_cons (eS (st_iconst h (by decide +kernel) dX1_lineBefore_9)) (
  tab_cons (eS (st_goto h dX1_lineBefore_10 (by decide))) (
  tab_cons (eS (st_aloadn h rfl dX1_lineBefore_13)) (
  tab_cons (eS (st_get h (ci := 1) (k := 3) rfl giX1 (by decide) rfl gw_11 dX1_lineBefore_14)) (
  tab_cons (eS (st_iloadn h rfl dX1_lineBefore_17)) (
  tab_cons (eO (so_iaload h dX1_lineBefore_18)) (
  tab_cons (eS (st_iconst h (by decide +kernel) dX1_lineBefore_19)) (
  tab_cons (eS (st_isub h dX1_lineBefore_20)) (
  tab_cons (eO (so_ireturn h dX1_lineBefore_21)) (
  tab_nil))))))))))))))
def tX1_lineBefore : Tb := tX1_lineBefore_0
theorem kX1_lineBefore {X : Ctx} (h : sCx X mX1_lineBefore) : tab X mX1_lineBefore tX1_lineBefore := kX1_lineBefore_0 h
theorem dX1_loadOver_0 : decode cX1_loadOver 0 = .ok (.iconst 0, 1) := by decide +kernel
theorem dX1_loadOver_1 : decode cX1_loadOver 1 = .ok (.istore_n 2, 1) := by decide +kernel
theorem dX1_loadOver_2 : decode cX1_loadOver 2 = .ok (.iconst 0, 1) := by decide +kernel
theorem dX1_loadOver_3 : decode cX1_loadOver 3 = .ok (.istore_n 3, 1) := by decide +kernel
theorem dX1_loadOver_4 : decode cX1_loadOver 4 = .ok (.iload_n 3, 1) := by decide +kernel
theorem dX1_loadOver_5 : decode cX1_loadOver 5 = .ok (.aload_n 0, 1) := by decide +kernel
theorem dX1_loadOver_6 : decode cX1_loadOver 6 = .ok (.getfield 34, 3) := by decide +kernel
theorem dX1_loadOver_9 : decode cX1_loadOver 9 = .ok (.if_icmp .ge 29, 3) := by decide +kernel
theorem dX1_loadOver_12 : decode cX1_loadOver 12 = .ok (.aload_n 0, 1) := by decide +kernel
theorem dX1_loadOver_13 : decode cX1_loadOver 13 = .ok (.getfield 24, 3) := by decide +kernel
theorem dX1_loadOver_16 : decode cX1_loadOver 16 = .ok (.iload_n 3, 1) := by decide +kernel
theorem dX1_loadOver_17 : decode cX1_loadOver 17 = .ok (.iaload, 1) := by decide +kernel
theorem dX1_loadOver_18 : decode cX1_loadOver 18 = .ok (.iload_n 1, 1) := by decide +kernel
theorem dX1_loadOver_19 : decode cX1_loadOver 19 = .ok (.iand, 1) := by decide +kernel
theorem dX1_loadOver_20 : decode cX1_loadOver 20 = .ok (.ifCond .eq 12, 3) := by decide +kernel
theorem dX1_loadOver_23 : decode cX1_loadOver 23 = .ok (.iload_n 2, 1) := by decide +kernel
theorem dX1_loadOver_24 : decode cX1_loadOver 24 = .ok (.aload_n 0, 1) := by decide +kernel
theorem dX1_loadOver_25 : decode cX1_loadOver 25 = .ok (.getfield 31, 3) := by decide +kernel
theorem dX1_loadOver_28 : decode cX1_loadOver 28 = .ok (.iload_n 3, 1) := by decide +kernel
theorem dX1_loadOver_29 : decode cX1_loadOver 29 = .ok (.iaload, 1) := by decide +kernel
theorem dX1_loadOver_30 : decode cX1_loadOver 30 = .ok (.iadd, 1) := by decide +kernel
theorem dX1_loadOver_31 : decode cX1_loadOver 31 = .ok (.istore_n 2, 1) := by decide +kernel
theorem dX1_loadOver_32 : decode cX1_loadOver 32 = .ok (.iinc 3 1, 3) := by decide +kernel
theorem dX1_loadOver_35 : decode cX1_loadOver 35 = .ok (.goto (-31), 3) := by decide +kernel
theorem dX1_loadOver_38 : decode cX1_loadOver 38 = .ok (.iload_n 2, 1) := by decide +kernel
theorem dX1_loadOver_39 : decode cX1_loadOver 39 = .ok (.ireturn, 1) := by decide +kernel
def tX1_loadOver_0 : Tb := [(0, .inl (f_ci (0), 1)), (1, .inl (f_istore 4 2, 2)), (2, .inl (f_ci (0), 3)), (3, .inl (f_istore 4 3, 4)), (4, .inl (f_iload 3, 5)), (5, .inl (f_aload 0, 6)), (6, .inl (f_get 1 2, 9)), (9, .inr (.inl (b_icmp_ge, 38, 12))), (12, .inl (f_aload 0, 13)), (13, .inl (f_get 1 4, 16)), (16, .inl (f_iload 3, 17)), (17, .inr (.inr (.inl (0, 18, 0, m0)))), (18, .inl (f_iload 1, 19)), (19, .inl (f_iand, 20)), (20, .inr (.inl (b_if_eq, 32, 23))), (23, .inl (f_iload 2, 24)), (24, .inl (f_aload 0, 25)), (25, .inl (f_get 1 6, 28)), (28, .inl (f_iload 3, 29)), (29, .inr (.inr (.inl (0, 30, 0, m0)))), (30, .inl (f_iadd, 31)), (31, .inl (f_istore 4 2, 32)), (32, .inl (f_iinc 4 3 (1), 35)), (35, .inl (f_id, 4)), (38, .inl (f_iload 2, 39)), (39, .inr (.inr (.inl (15, 40, 0, m0))))]
set_option maxRecDepth 10000 in
theorem kX1_loadOver_0 {X : Ctx} (h : sCx X mX1_loadOver) : tab X mX1_loadOver tX1_loadOver_0 :=
  tab_cons (eS (st_iconst h (by decide +kernel) dX1_loadOver_0)) (
  tab_cons (eS (st_istoren h rfl dX1_loadOver_1)) (
  tab_cons (eS (st_iconst h (by decide +kernel) dX1_loadOver_2)) (
  tab_cons (eS (st_istoren h rfl dX1_loadOver_3)) (
  tab_cons (eS (st_iloadn h rfl dX1_loadOver_4)) (
  tab_cons (eS (st_aloadn h rfl dX1_loadOver_5)) (
  tab_cons (eS (st_get h (ci := 1) (k := 2) rfl giX1 (by decide) rfl gw_10 dX1_loadOver_6)) (
  tab_cons (eB (sb_icmp_ge h dX1_loadOver_9 (by decide))) (
  tab_cons (eS (st_aloadn h rfl dX1_loadOver_12)) (
  tab_cons (eS (st_get h (ci := 1) (k := 4) rfl giX1 (by decide) rfl gw_13 dX1_loadOver_13)) (
  tab_cons (eS (st_iloadn h rfl dX1_loadOver_16)) (
  tab_cons (eO (so_iaload h dX1_loadOver_17)) (
  tab_cons (eS (st_iloadn h rfl dX1_loadOver_18)) (
  tab_cons (eS (st_iand h dX1_loadOver_19)) (
  tab_cons (eB (sb_if_eq h dX1_loadOver_20 (by decide))) (
  tab_cons (eS (st_iloadn h rfl dX1_loadOver_23)) (
  tab_cons (eS (st_aloadn h rfl dX1_loadOver_24)) (
  tab_cons (eS (st_get h (ci := 1) (k := 6) rfl giX1 (by decide) rfl gw_15 dX1_loadOver_25)) (
  tab_cons (eS (st_iloadn h rfl dX1_loadOver_28)) (
  tab_cons (eO (so_iaload h dX1_loadOver_29)) (
  tab_cons (eS (st_iadd h dX1_loadOver_30)) (
  tab_cons (eS (st_istoren h rfl dX1_loadOver_31)) (
  tab_cons (eS (st_iinc h (by decide +kernel) dX1_loadOver_32)) (
  tab_cons (eS (st_goto h dX1_loadOver_35 (by decide))) (
  tab_cons (eS (st_iloadn h rfl dX1_loadOver_38)) (
  tab_cons (eO (so_ireturn h dX1_loadOver_39)) (
  tab_nil))))))))))))))))))))))))))
def tX1_loadOver : Tb := tX1_loadOver_0
theorem kX1_loadOver {X : Ctx} (h : sCx X mX1_loadOver) : tab X mX1_loadOver tX1_loadOver := kX1_loadOver_0 h
theorem dX1_currentAt_0 : decode cX1_currentAt 0 = .ok (.aload_n 0, 1) := by decide +kernel
theorem dX1_currentAt_1 : decode cX1_currentAt 1 = .ok (.getfield 17, 3) := by decide +kernel
theorem dX1_currentAt_4 : decode cX1_currentAt 4 = .ok (.dstore_n 3, 1) := by decide +kernel
theorem dX1_currentAt_5 : decode cX1_currentAt 5 = .ok (.iconst 0, 1) := by decide +kernel
theorem dX1_currentAt_6 : decode cX1_currentAt 6 = .ok (.istore 5, 2) := by decide +kernel
theorem dX1_currentAt_8 : decode cX1_currentAt 8 = .ok (.iload 5, 2) := by decide +kernel
theorem dX1_currentAt_10 : decode cX1_currentAt 10 = .ok (.iload_n 1, 1) := by decide +kernel
theorem dX1_currentAt_11 : decode cX1_currentAt 11 = .ok (.if_icmp .ge 33, 3) := by decide +kernel
theorem dX1_currentAt_14 : decode cX1_currentAt 14 = .ok (.aload_n 0, 1) := by decide +kernel
theorem dX1_currentAt_15 : decode cX1_currentAt 15 = .ok (.getfield 24, 3) := by decide +kernel
theorem dX1_currentAt_18 : decode cX1_currentAt 18 = .ok (.iload_n 1, 1) := by decide +kernel
theorem dX1_currentAt_19 : decode cX1_currentAt 19 = .ok (.iaload, 1) := by decide +kernel
theorem dX1_currentAt_20 : decode cX1_currentAt 20 = .ok (.iload 5, 2) := by decide +kernel
theorem dX1_currentAt_22 : decode cX1_currentAt 22 = .ok (.ishr, 1) := by decide +kernel
theorem dX1_currentAt_23 : decode cX1_currentAt 23 = .ok (.iconst 1, 1) := by decide +kernel
theorem dX1_currentAt_24 : decode cX1_currentAt 24 = .ok (.iand, 1) := by decide +kernel
theorem dX1_currentAt_25 : decode cX1_currentAt 25 = .ok (.ifCond .eq 13, 3) := by decide +kernel
theorem dX1_currentAt_28 : decode cX1_currentAt 28 = .ok (.dload_n 3, 1) := by decide +kernel
theorem dX1_currentAt_29 : decode cX1_currentAt 29 = .ok (.aload_n 0, 1) := by decide +kernel
theorem dX1_currentAt_30 : decode cX1_currentAt 30 = .ok (.getfield 27, 3) := by decide +kernel
theorem dX1_currentAt_33 : decode cX1_currentAt 33 = .ok (.iload 5, 2) := by decide +kernel
theorem dX1_currentAt_35 : decode cX1_currentAt 35 = .ok (.daload, 1) := by decide +kernel
theorem dX1_currentAt_36 : decode cX1_currentAt 36 = .ok (.dadd, 1) := by decide +kernel
theorem dX1_currentAt_37 : decode cX1_currentAt 37 = .ok (.dstore_n 3, 1) := by decide +kernel
theorem dX1_currentAt_38 : decode cX1_currentAt 38 = .ok (.iinc 5 1, 3) := by decide +kernel
theorem dX1_currentAt_41 : decode cX1_currentAt 41 = .ok (.goto (-33), 3) := by decide +kernel
theorem dX1_currentAt_44 : decode cX1_currentAt 44 = .ok (.dload_n 3, 1) := by decide +kernel
theorem dX1_currentAt_45 : decode cX1_currentAt 45 = .ok (.aload_n 0, 1) := by decide +kernel
theorem dX1_currentAt_46 : decode cX1_currentAt 46 = .ok (.getfield 27, 3) := by decide +kernel
theorem dX1_currentAt_49 : decode cX1_currentAt 49 = .ok (.iload_n 1, 1) := by decide +kernel
theorem dX1_currentAt_50 : decode cX1_currentAt 50 = .ok (.daload, 1) := by decide +kernel
theorem dX1_currentAt_51 : decode cX1_currentAt 51 = .ok (.iload_n 2, 1) := by decide +kernel
theorem dX1_currentAt_52 : decode cX1_currentAt 52 = .ok (.i2d, 1) := by decide +kernel
theorem dX1_currentAt_53 : decode cX1_currentAt 53 = .ok (.dmul, 1) := by decide +kernel
theorem dX1_currentAt_54 : decode cX1_currentAt 54 = .ok (.ldc2_w 44, 3) := by decide +kernel
theorem dX1_currentAt_57 : decode cX1_currentAt 57 = .ok (.ddiv, 1) := by decide +kernel
theorem dX1_currentAt_58 : decode cX1_currentAt 58 = .ok (.dadd, 1) := by decide +kernel
theorem dX1_currentAt_59 : decode cX1_currentAt 59 = .ok (.dstore_n 3, 1) := by decide +kernel
theorem dX1_currentAt_60 : decode cX1_currentAt 60 = .ok (.aload_n 0, 1) := by decide +kernel
theorem dX1_currentAt_61 : decode cX1_currentAt 61 = .ok (.getfield 11, 3) := by decide +kernel
theorem dX1_currentAt_64 : decode cX1_currentAt 64 = .ok (.dload_n 3, 1) := by decide +kernel
theorem dX1_currentAt_65 : decode cX1_currentAt 65 = .ok (.ddiv, 1) := by decide +kernel
theorem dX1_currentAt_66 : decode cX1_currentAt 66 = .ok (.dreturn, 1) := by decide +kernel
def tX1_currentAt_0 : Tb := [(0, .inl (f_aload 0, 1)), (1, .inl (f_get 1 1, 4)), (4, .inl (f_dstore 6 3, 5)), (5, .inl (f_ci (0), 6)), (6, .inl (f_istore 6 5, 8)), (8, .inl (f_iload 5, 10)), (10, .inl (f_iload 1, 11)), (11, .inr (.inl (b_icmp_ge, 44, 14))), (14, .inl (f_aload 0, 15)), (15, .inl (f_get 1 4, 18)), (18, .inl (f_iload 1, 19)), (19, .inr (.inr (.inl (0, 20, 0, m0)))), (20, .inl (f_iload 5, 22)), (22, .inl (f_ishr, 23)), (23, .inl (f_ci (1), 24)), (24, .inl (f_iand, 25)), (25, .inr (.inl (b_if_eq, 38, 28))), (28, .inl (f_dload 3, 29)), (29, .inl (f_aload 0, 30)), (30, .inl (f_get 1 5, 33)), (33, .inl (f_iload 5, 35)), (35, .inr (.inr (.inl (1, 36, 0, m0)))), (36, .inr (.inr (.inl (7, 37, 0, m0)))), (37, .inl (f_dstore 6 3, 38)), (38, .inl (f_iinc 6 5 (1), 41)), (41, .inl (f_id, 8)), (44, .inl (f_dload 3, 45)), (45, .inl (f_aload 0, 46)), (46, .inl (f_get 1 5, 49)), (49, .inl (f_iload 1, 50))]
set_option maxRecDepth 10000 in
theorem kX1_currentAt_0 {X : Ctx} (h : sCx X mX1_currentAt) : tab X mX1_currentAt tX1_currentAt_0 :=
  tab_cons (eS (st_aloadn h rfl dX1_currentAt_0)) (
  tab_cons (eS (st_get h (ci := 1) (k := 1) rfl giX1 (by decide) rfl gw_9 dX1_currentAt_1)) (
  tab_cons (eS (st_dstoren h rfl dX1_currentAt_4)) (
  tab_cons (eS (st_iconst h (by decide +kernel) dX1_currentAt_5)) (
  tab_cons (eS (st_istore h dX1_currentAt_6)) (
  tab_cons (eS (st_iload h dX1_currentAt_8)) (
  tab_cons (eS (st_iloadn h rfl dX1_currentAt_10)) (
  tab_cons (eB (sb_icmp_ge h dX1_currentAt_11 (by decide))) (
  tab_cons (eS (st_aloadn h rfl dX1_currentAt_14)) (
  tab_cons (eS (st_get h (ci := 1) (k := 4) rfl giX1 (by decide) rfl gw_13 dX1_currentAt_15)) (
  tab_cons (eS (st_iloadn h rfl dX1_currentAt_18)) (
  tab_cons (eO (so_iaload h dX1_currentAt_19)) (
  tab_cons (eS (st_iload h dX1_currentAt_20)) (
  tab_cons (eS (st_ishr h dX1_currentAt_22)) (
  tab_cons (eS (st_iconst h (by decide +kernel) dX1_currentAt_23)) (
  tab_cons (eS (st_iand h dX1_currentAt_24)) (
  tab_cons (eB (sb_if_eq h dX1_currentAt_25 (by decide))) (
  tab_cons (eS (st_dloadn h rfl dX1_currentAt_28)) (
  tab_cons (eS (st_aloadn h rfl dX1_currentAt_29)) (
  tab_cons (eS (st_get h (ci := 1) (k := 5) rfl giX1 (by decide) rfl gw_14 dX1_currentAt_30)) (
  tab_cons (eS (st_iload h dX1_currentAt_33)) (
  tab_cons (eO (so_daload h dX1_currentAt_35)) (
  tab_cons (eO (so_dadd h dX1_currentAt_36)) (
  tab_cons (eS (st_dstoren h rfl dX1_currentAt_37)) (
  tab_cons (eS (st_iinc h (by decide +kernel) dX1_currentAt_38)) (
  tab_cons (eS (st_goto h dX1_currentAt_41 (by decide))) (
  tab_cons (eS (st_dloadn h rfl dX1_currentAt_44)) (
  tab_cons (eS (st_aloadn h rfl dX1_currentAt_45)) (
  tab_cons (eS (st_get h (ci := 1) (k := 5) rfl giX1 (by decide) rfl gw_14 dX1_currentAt_46)) (
  tab_cons (eS (st_iloadn h rfl dX1_currentAt_49)) (
  tab_nil))))))))))))))))))))))))))))))
def tX1_currentAt_1 : Tb := [(50, .inr (.inr (.inl (1, 51, 0, m0)))), (51, .inl (f_iload 2, 52)), (52, .inl (f_i2d, 53)), (53, .inr (.inr (.inl (9, 54, 0, m0)))), (54, .inl (f_cd 4636737291354636288, 57)), (57, .inr (.inr (.inl (10, 58, 0, m0)))), (58, .inr (.inr (.inl (7, 59, 0, m0)))), (59, .inl (f_dstore 6 3, 60)), (60, .inl (f_aload 0, 61)), (61, .inl (f_get 1 0, 64)), (64, .inl (f_dload 3, 65)), (65, .inr (.inr (.inl (10, 66, 0, m0)))), (66, .inr (.inr (.inl (16, 67, 0, m0))))]
set_option maxRecDepth 10000 in
theorem kX1_currentAt_1 {X : Ctx} (h : sCx X mX1_currentAt) : tab X mX1_currentAt tX1_currentAt_1 :=
  tab_cons (eO (so_daload h dX1_currentAt_50)) (
  tab_cons (eS (st_iloadn h rfl dX1_currentAt_51)) (
  tab_cons (eS (st_i2d h dX1_currentAt_52)) (
  tab_cons (eO (so_dmul h dX1_currentAt_53)) (
  tab_cons (eS (st_ldc2d h gw_16 dX1_currentAt_54)) (
  tab_cons (eO (so_ddiv h dX1_currentAt_57)) (
  tab_cons (eO (so_dadd h dX1_currentAt_58)) (
  tab_cons (eS (st_dstoren h rfl dX1_currentAt_59)) (
  tab_cons (eS (st_aloadn h rfl dX1_currentAt_60)) (
  tab_cons (eS (st_get h (ci := 1) (k := 0) rfl giX1 (by decide) rfl gw_8 dX1_currentAt_61)) (
  tab_cons (eS (st_dloadn h rfl dX1_currentAt_64)) (
  tab_cons (eO (so_ddiv h dX1_currentAt_65)) (
  tab_cons (eO (so_dreturn h dX1_currentAt_66)) (
  tab_nil)))))))))))))
def tX1_currentAt : Tb := tX1_currentAt_0 ++ (tX1_currentAt_1)
theorem kX1_currentAt {X : Ctx} (h : sCx X mX1_currentAt) : tab X mX1_currentAt tX1_currentAt := tab_app (kX1_currentAt_0 h) (kX1_currentAt_1 h)
theorem dX2_copyFrom_0 : decode cX2_copyFrom 0 = .ok (.aload_n 1, 1) := by decide +kernel
theorem dX2_copyFrom_1 : decode cX2_copyFrom 1 = .ok (.getfield 9, 3) := by decide +kernel
theorem dX2_copyFrom_4 : decode cX2_copyFrom 4 = .ok (.iconst 0, 1) := by decide +kernel
theorem dX2_copyFrom_5 : decode cX2_copyFrom 5 = .ok (.aload_n 0, 1) := by decide +kernel
theorem dX2_copyFrom_6 : decode cX2_copyFrom 6 = .ok (.getfield 9, 3) := by decide +kernel
theorem dX2_copyFrom_9 : decode cX2_copyFrom 9 = .ok (.iconst 0, 1) := by decide +kernel
theorem dX2_copyFrom_10 : decode cX2_copyFrom 10 = .ok (.bipush 12, 2) := by decide +kernel
theorem dX2_copyFrom_12 : decode cX2_copyFrom 12 = .ok (.invokestatic 33, 3) := by decide +kernel
theorem dX2_copyFrom_15 : decode cX2_copyFrom 15 = .ok (.aload_n 1, 1) := by decide +kernel
theorem dX2_copyFrom_16 : decode cX2_copyFrom 16 = .ok (.getfield 15, 3) := by decide +kernel
theorem dX2_copyFrom_19 : decode cX2_copyFrom 19 = .ok (.iconst 0, 1) := by decide +kernel
theorem dX2_copyFrom_20 : decode cX2_copyFrom 20 = .ok (.aload_n 0, 1) := by decide +kernel
theorem dX2_copyFrom_21 : decode cX2_copyFrom 21 = .ok (.getfield 15, 3) := by decide +kernel
theorem dX2_copyFrom_24 : decode cX2_copyFrom 24 = .ok (.iconst 0, 1) := by decide +kernel
theorem dX2_copyFrom_25 : decode cX2_copyFrom 25 = .ok (.bipush 12, 2) := by decide +kernel
theorem dX2_copyFrom_27 : decode cX2_copyFrom 27 = .ok (.invokestatic 33, 3) := by decide +kernel
theorem dX2_copyFrom_30 : decode cX2_copyFrom 30 = .ok (.aload_n 1, 1) := by decide +kernel
theorem dX2_copyFrom_31 : decode cX2_copyFrom 31 = .ok (.getfield 18, 3) := by decide +kernel
theorem dX2_copyFrom_34 : decode cX2_copyFrom 34 = .ok (.iconst 0, 1) := by decide +kernel
theorem dX2_copyFrom_35 : decode cX2_copyFrom 35 = .ok (.aload_n 0, 1) := by decide +kernel
theorem dX2_copyFrom_36 : decode cX2_copyFrom 36 = .ok (.getfield 18, 3) := by decide +kernel
theorem dX2_copyFrom_39 : decode cX2_copyFrom 39 = .ok (.iconst 0, 1) := by decide +kernel
theorem dX2_copyFrom_40 : decode cX2_copyFrom 40 = .ok (.bipush 12, 2) := by decide +kernel
theorem dX2_copyFrom_42 : decode cX2_copyFrom 42 = .ok (.invokestatic 33, 3) := by decide +kernel
theorem dX2_copyFrom_45 : decode cX2_copyFrom 45 = .ok (.aload_n 1, 1) := by decide +kernel
theorem dX2_copyFrom_46 : decode cX2_copyFrom 46 = .ok (.getfield 21, 3) := by decide +kernel
theorem dX2_copyFrom_49 : decode cX2_copyFrom 49 = .ok (.iconst 0, 1) := by decide +kernel
theorem dX2_copyFrom_50 : decode cX2_copyFrom 50 = .ok (.aload_n 0, 1) := by decide +kernel
theorem dX2_copyFrom_51 : decode cX2_copyFrom 51 = .ok (.getfield 21, 3) := by decide +kernel
theorem dX2_copyFrom_54 : decode cX2_copyFrom 54 = .ok (.iconst 0, 1) := by decide +kernel
theorem dX2_copyFrom_55 : decode cX2_copyFrom 55 = .ok (.bipush 12, 2) := by decide +kernel
theorem dX2_copyFrom_57 : decode cX2_copyFrom 57 = .ok (.invokestatic 33, 3) := by decide +kernel
theorem dX2_copyFrom_60 : decode cX2_copyFrom 60 = .ok (.aload_n 1, 1) := by decide +kernel
theorem dX2_copyFrom_61 : decode cX2_copyFrom 61 = .ok (.getfield 24, 3) := by decide +kernel
theorem dX2_copyFrom_64 : decode cX2_copyFrom 64 = .ok (.iconst 0, 1) := by decide +kernel
theorem dX2_copyFrom_65 : decode cX2_copyFrom 65 = .ok (.aload_n 0, 1) := by decide +kernel
theorem dX2_copyFrom_66 : decode cX2_copyFrom 66 = .ok (.getfield 24, 3) := by decide +kernel
theorem dX2_copyFrom_69 : decode cX2_copyFrom 69 = .ok (.iconst 0, 1) := by decide +kernel
theorem dX2_copyFrom_70 : decode cX2_copyFrom 70 = .ok (.bipush 12, 2) := by decide +kernel
theorem dX2_copyFrom_72 : decode cX2_copyFrom 72 = .ok (.invokestatic 33, 3) := by decide +kernel
theorem dX2_copyFrom_75 : decode cX2_copyFrom 75 = .ok (.aload_n 0, 1) := by decide +kernel
theorem dX2_copyFrom_76 : decode cX2_copyFrom 76 = .ok (.aload_n 1, 1) := by decide +kernel
theorem dX2_copyFrom_77 : decode cX2_copyFrom 77 = .ok (.getfield 39, 3) := by decide +kernel
theorem dX2_copyFrom_80 : decode cX2_copyFrom 80 = .ok (.putfield 39, 3) := by decide +kernel
theorem dX2_copyFrom_83 : decode cX2_copyFrom 83 = .ok (.aload_n 0, 1) := by decide +kernel
theorem dX2_copyFrom_84 : decode cX2_copyFrom 84 = .ok (.aload_n 1, 1) := by decide +kernel
theorem dX2_copyFrom_85 : decode cX2_copyFrom 85 = .ok (.getfield 43, 3) := by decide +kernel
theorem dX2_copyFrom_88 : decode cX2_copyFrom 88 = .ok (.putfield 43, 3) := by decide +kernel
theorem dX2_copyFrom_91 : decode cX2_copyFrom 91 = .ok (.return_, 1) := by decide +kernel
def tX2_copyFrom_0 : Tb := [(0, .inl (f_aload 1, 1)), (1, .inl (f_get 2 0, 4)), (4, .inl (f_ci (0), 5)), (5, .inl (f_aload 0, 6)), (6, .inl (f_get 2 0, 9)), (9, .inl (f_ci (0), 10)), (10, .inl (f_ci (12), 12)), (12, .inr (.inr (.inl (19, 15, 0, m0)))), (15, .inl (f_aload 1, 16)), (16, .inl (f_get 2 1, 19)), (19, .inl (f_ci (0), 20)), (20, .inl (f_aload 0, 21)), (21, .inl (f_get 2 1, 24)), (24, .inl (f_ci (0), 25)), (25, .inl (f_ci (12), 27)), (27, .inr (.inr (.inl (19, 30, 0, m0)))), (30, .inl (f_aload 1, 31)), (31, .inl (f_get 2 2, 34)), (34, .inl (f_ci (0), 35)), (35, .inl (f_aload 0, 36)), (36, .inl (f_get 2 2, 39)), (39, .inl (f_ci (0), 40)), (40, .inl (f_ci (12), 42)), (42, .inr (.inr (.inl (19, 45, 0, m0)))), (45, .inl (f_aload 1, 46)), (46, .inl (f_get 2 3, 49)), (49, .inl (f_ci (0), 50)), (50, .inl (f_aload 0, 51)), (51, .inl (f_get 2 3, 54)), (54, .inl (f_ci (0), 55))]
set_option maxRecDepth 10000 in
theorem kX2_copyFrom_0 {X : Ctx} (h : sCx X mX2_copyFrom) : tab X mX2_copyFrom tX2_copyFrom_0 :=
  tab_cons (eS (st_aloadn h rfl dX2_copyFrom_0)) (
  tab_cons (eS (st_get h (ci := 2) (k := 0) rfl giX2 (by decide) rfl gw_17 dX2_copyFrom_1)) (
  tab_cons (eS (st_iconst h (by decide +kernel) dX2_copyFrom_4)) (
  tab_cons (eS (st_aloadn h rfl dX2_copyFrom_5)) (
  tab_cons (eS (st_get h (ci := 2) (k := 0) rfl giX2 (by decide) rfl gw_17 dX2_copyFrom_6)) (
  tab_cons (eS (st_iconst h (by decide +kernel) dX2_copyFrom_9)) (
  tab_cons (eS (st_bipush h (by decide +kernel) dX2_copyFrom_10)) (
  tab_cons (eO (so_cp h gw_18 gw_3 gw_4 gw_5 (by decide +kernel) dX2_copyFrom_12)) (
  tab_cons (eS (st_aloadn h rfl dX2_copyFrom_15)) (
  tab_cons (eS (st_get h (ci := 2) (k := 1) rfl giX2 (by decide) rfl gw_19 dX2_copyFrom_16)) (
  tab_cons (eS (st_iconst h (by decide +kernel) dX2_copyFrom_19)) (
  tab_cons (eS (st_aloadn h rfl dX2_copyFrom_20)) (
  tab_cons (eS (st_get h (ci := 2) (k := 1) rfl giX2 (by decide) rfl gw_19 dX2_copyFrom_21)) (
  tab_cons (eS (st_iconst h (by decide +kernel) dX2_copyFrom_24)) (
  tab_cons (eS (st_bipush h (by decide +kernel) dX2_copyFrom_25)) (
  tab_cons (eO (so_cp h gw_18 gw_3 gw_4 gw_5 (by decide +kernel) dX2_copyFrom_27)) (
  tab_cons (eS (st_aloadn h rfl dX2_copyFrom_30)) (
  tab_cons (eS (st_get h (ci := 2) (k := 2) rfl giX2 (by decide) rfl gw_20 dX2_copyFrom_31)) (
  tab_cons (eS (st_iconst h (by decide +kernel) dX2_copyFrom_34)) (
  tab_cons (eS (st_aloadn h rfl dX2_copyFrom_35)) (
  tab_cons (eS (st_get h (ci := 2) (k := 2) rfl giX2 (by decide) rfl gw_20 dX2_copyFrom_36)) (
  tab_cons (eS (st_iconst h (by decide +kernel) dX2_copyFrom_39)) (
  tab_cons (eS (st_bipush h (by decide +kernel) dX2_copyFrom_40)) (
  tab_cons (eO (so_cp h gw_18 gw_3 gw_4 gw_5 (by decide +kernel) dX2_copyFrom_42)) (
  tab_cons (eS (st_aloadn h rfl dX2_copyFrom_45)) (
  tab_cons (eS (st_get h (ci := 2) (k := 3) rfl giX2 (by decide) rfl gw_21 dX2_copyFrom_46)) (
  tab_cons (eS (st_iconst h (by decide +kernel) dX2_copyFrom_49)) (
  tab_cons (eS (st_aloadn h rfl dX2_copyFrom_50)) (
  tab_cons (eS (st_get h (ci := 2) (k := 3) rfl giX2 (by decide) rfl gw_21 dX2_copyFrom_51)) (
  tab_cons (eS (st_iconst h (by decide +kernel) dX2_copyFrom_54)) (
  tab_nil))))))))))))))))))))))))))))))
def tX2_copyFrom_1 : Tb := [(55, .inl (f_ci (12), 57)), (57, .inr (.inr (.inl (19, 60, 0, m0)))), (60, .inl (f_aload 1, 61)), (61, .inl (f_get 2 4, 64)), (64, .inl (f_ci (0), 65)), (65, .inl (f_aload 0, 66)), (66, .inl (f_get 2 4, 69)), (69, .inl (f_ci (0), 70)), (70, .inl (f_ci (12), 72)), (72, .inr (.inr (.inl (19, 75, 0, m0)))), (75, .inl (f_aload 0, 76)), (76, .inl (f_aload 1, 77)), (77, .inl (f_get 2 5, 80)), (80, .inl (f_putI 2 5, 83)), (83, .inl (f_aload 0, 84)), (84, .inl (f_aload 1, 85)), (85, .inl (f_get 2 6, 88)), (88, .inl (f_putI 2 6, 91)), (91, .inr (.inr (.inl (18, 92, 0, m0))))]
set_option maxRecDepth 10000 in
theorem kX2_copyFrom_1 {X : Ctx} (h : sCx X mX2_copyFrom) : tab X mX2_copyFrom tX2_copyFrom_1 :=
  tab_cons (eS (st_bipush h (by decide +kernel) dX2_copyFrom_55)) (
  tab_cons (eO (so_cp h gw_18 gw_3 gw_4 gw_5 (by decide +kernel) dX2_copyFrom_57)) (
  tab_cons (eS (st_aloadn h rfl dX2_copyFrom_60)) (
  tab_cons (eS (st_get h (ci := 2) (k := 4) rfl giX2 (by decide) rfl gw_22 dX2_copyFrom_61)) (
  tab_cons (eS (st_iconst h (by decide +kernel) dX2_copyFrom_64)) (
  tab_cons (eS (st_aloadn h rfl dX2_copyFrom_65)) (
  tab_cons (eS (st_get h (ci := 2) (k := 4) rfl giX2 (by decide) rfl gw_22 dX2_copyFrom_66)) (
  tab_cons (eS (st_iconst h (by decide +kernel) dX2_copyFrom_69)) (
  tab_cons (eS (st_bipush h (by decide +kernel) dX2_copyFrom_70)) (
  tab_cons (eO (so_cp h gw_18 gw_3 gw_4 gw_5 (by decide +kernel) dX2_copyFrom_72)) (
  tab_cons (eS (st_aloadn h rfl dX2_copyFrom_75)) (
  tab_cons (eS (st_aloadn h rfl dX2_copyFrom_76)) (
  tab_cons (eS (st_get h (ci := 2) (k := 5) rfl giX2 (by decide) rfl gw_23 dX2_copyFrom_77)) (
  tab_cons (eS (st_putI h (ci := 2) (k := 5) tyX2 tyX2_ok nmX2 rfl giX2 (by decide) rfl rfl (by decide +kernel) gw_23 dX2_copyFrom_80)) (
  tab_cons (eS (st_aloadn h rfl dX2_copyFrom_83)) (
  tab_cons (eS (st_aloadn h rfl dX2_copyFrom_84)) (
  tab_cons (eS (st_get h (ci := 2) (k := 6) rfl giX2 (by decide) rfl gw_24 dX2_copyFrom_85)) (
  tab_cons (eS (st_putI h (ci := 2) (k := 6) tyX2 tyX2_ok nmX2 rfl giX2 (by decide) rfl rfl (by decide +kernel) gw_24 dX2_copyFrom_88)) (
  tab_cons (eO (so_return h dX2_copyFrom_91)) (
  tab_nil)))))))))))))))))))
def tX2_copyFrom : Tb := tX2_copyFrom_0 ++ (tX2_copyFrom_1)
theorem kX2_copyFrom {X : Ctx} (h : sCx X mX2_copyFrom) : tab X mX2_copyFrom tX2_copyFrom := tab_app (kX2_copyFrom_0 h) (kX2_copyFrom_1 h)
theorem dX2_isStuck_0 : decode cX2_isStuck 0 = .ok (.aload_n 0, 1) := by decide +kernel
theorem dX2_isStuck_1 : decode cX2_isStuck 1 = .ok (.getfield 39, 3) := by decide +kernel
theorem dX2_isStuck_4 : decode cX2_isStuck 4 = .ok (.iload_n 1, 1) := by decide +kernel
theorem dX2_isStuck_5 : decode cX2_isStuck 5 = .ok (.ishr, 1) := by decide +kernel
theorem dX2_isStuck_6 : decode cX2_isStuck 6 = .ok (.iconst 1, 1) := by decide +kernel
theorem dX2_isStuck_7 : decode cX2_isStuck 7 = .ok (.iand, 1) := by decide +kernel
theorem dX2_isStuck_8 : decode cX2_isStuck 8 = .ok (.ifCond .eq 7, 3) := by decide +kernel
theorem dX2_isStuck_11 : decode cX2_isStuck 11 = .ok (.iconst 1, 1) := by decide +kernel
theorem dX2_isStuck_12 : decode cX2_isStuck 12 = .ok (.goto 4, 3) := by decide +kernel
theorem dX2_isStuck_15 : decode cX2_isStuck 15 = .ok (.iconst 0, 1) := by decide +kernel
theorem dX2_isStuck_16 : decode cX2_isStuck 16 = .ok (.ireturn, 1) := by decide +kernel
def tX2_isStuck_0 : Tb := [(0, .inl (f_aload 0, 1)), (1, .inl (f_get 2 5, 4)), (4, .inl (f_iload 1, 5)), (5, .inl (f_ishr, 6)), (6, .inl (f_ci (1), 7)), (7, .inl (f_iand, 8)), (8, .inr (.inl (b_if_eq, 15, 11))), (11, .inl (f_ci (1), 12)), (12, .inl (f_id, 16)), (15, .inl (f_ci (0), 16)), (16, .inr (.inr (.inl (15, 17, 0, m0))))]
set_option maxRecDepth 10000 in
theorem kX2_isStuck_0 {X : Ctx} (h : sCx X mX2_isStuck) : tab X mX2_isStuck tX2_isStuck_0 :=
  tab_cons (eS (st_aloadn h rfl dX2_isStuck_0)) (
  tab_cons (eS (st_get h (ci := 2) (k := 5) rfl giX2 (by decide) rfl gw_23 dX2_isStuck_1)) (
  tab_cons (eS (st_iloadn h rfl dX2_isStuck_4)) (
  tab_cons (eS (st_ishr h dX2_isStuck_5)) (
  tab_cons (eS (st_iconst h (by decide +kernel) dX2_isStuck_6)) (
  tab_cons (eS (st_iand h dX2_isStuck_7)) (
  tab_cons (eB (sb_if_eq h dX2_isStuck_8 (by decide))) (
  tab_cons (eS (st_iconst h (by decide +kernel) dX2_isStuck_11)) (
  tab_cons (eS (st_goto h dX2_isStuck_12 (by decide))) (
  tab_cons (eS (st_iconst h (by decide +kernel) dX2_isStuck_15)) (
  tab_cons (eO (so_ireturn h dX2_isStuck_16)) (
  tab_nil)))))))))))
def tX2_isStuck : Tb := tX2_isStuck_0
theorem kX2_isStuck {X : Ctx} (h : sCx X mX2_isStuck) : tab X mX2_isStuck tX2_isStuck := kX2_isStuck_0 h
theorem dX2_makeStuck_0 : decode cX2_makeStuck 0 = .ok (.iconst 1, 1) := by decide +kernel
theorem dX2_makeStuck_1 : decode cX2_makeStuck 1 = .ok (.iload_n 1, 1) := by decide +kernel
theorem dX2_makeStuck_2 : decode cX2_makeStuck 2 = .ok (.ishl, 1) := by decide +kernel
theorem dX2_makeStuck_3 : decode cX2_makeStuck 3 = .ok (.istore_n 3, 1) := by decide +kernel
theorem dX2_makeStuck_4 : decode cX2_makeStuck 4 = .ok (.aload_n 0, 1) := by decide +kernel
theorem dX2_makeStuck_5 : decode cX2_makeStuck 5 = .ok (.iload_n 2, 1) := by decide +kernel
theorem dX2_makeStuck_6 : decode cX2_makeStuck 6 = .ok (.ifCond .eq 12, 3) := by decide +kernel
theorem dX2_makeStuck_9 : decode cX2_makeStuck 9 = .ok (.aload_n 0, 1) := by decide +kernel
theorem dX2_makeStuck_10 : decode cX2_makeStuck 10 = .ok (.getfield 39, 3) := by decide +kernel
theorem dX2_makeStuck_13 : decode cX2_makeStuck 13 = .ok (.iload_n 3, 1) := by decide +kernel
theorem dX2_makeStuck_14 : decode cX2_makeStuck 14 = .ok (.ior, 1) := by decide +kernel
theorem dX2_makeStuck_15 : decode cX2_makeStuck 15 = .ok (.goto 11, 3) := by decide +kernel
theorem dX2_makeStuck_18 : decode cX2_makeStuck 18 = .ok (.aload_n 0, 1) := by decide +kernel
theorem dX2_makeStuck_19 : decode cX2_makeStuck 19 = .ok (.getfield 39, 3) := by decide +kernel
theorem dX2_makeStuck_22 : decode cX2_makeStuck 22 = .ok (.iload_n 3, 1) := by decide +kernel
theorem dX2_makeStuck_23 : decode cX2_makeStuck 23 = .ok (.iconst (-1), 1) := by decide +kernel
theorem dX2_makeStuck_24 : decode cX2_makeStuck 24 = .ok (.ixor, 1) := by decide +kernel
theorem dX2_makeStuck_25 : decode cX2_makeStuck 25 = .ok (.iand, 1) := by decide +kernel
theorem dX2_makeStuck_26 : decode cX2_makeStuck 26 = .ok (.putfield 39, 3) := by decide +kernel
theorem dX2_makeStuck_29 : decode cX2_makeStuck 29 = .ok (.return_, 1) := by decide +kernel
def tX2_makeStuck_0 : Tb := [(0, .inl (f_ci (1), 1)), (1, .inl (f_iload 1, 2)), (2, .inl (f_ishl, 3)), (3, .inl (f_istore 4 3, 4)), (4, .inl (f_aload 0, 5)), (5, .inl (f_iload 2, 6)), (6, .inr (.inl (b_if_eq, 18, 9))), (9, .inl (f_aload 0, 10)), (10, .inl (f_get 2 5, 13)), (13, .inl (f_iload 3, 14)), (14, .inl (f_ior, 15)), (15, .inl (f_id, 26)), (18, .inl (f_aload 0, 19)), (19, .inl (f_get 2 5, 22)), (22, .inl (f_iload 3, 23)), (23, .inl (f_ci (-1), 24)), (24, .inl (f_ixor, 25)), (25, .inl (f_iand, 26)), (26, .inl (f_putI 2 5, 29)), (29, .inr (.inr (.inl (18, 30, 0, m0))))]
set_option maxRecDepth 10000 in
theorem kX2_makeStuck_0 {X : Ctx} (h : sCx X mX2_makeStuck) : tab X mX2_makeStuck tX2_makeStuck_0 :=
  tab_cons (eS (st_iconst h (by decide +kernel) dX2_makeStuck_0)) (
  tab_cons (eS (st_iloadn h rfl dX2_makeStuck_1)) (
  tab_cons (eS (st_ishl h dX2_makeStuck_2)) (
  tab_cons (eS (st_istoren h rfl dX2_makeStuck_3)) (
  tab_cons (eS (st_aloadn h rfl dX2_makeStuck_4)) (
  tab_cons (eS (st_iloadn h rfl dX2_makeStuck_5)) (
  tab_cons (eB (sb_if_eq h dX2_makeStuck_6 (by decide))) (
  tab_cons (eS (st_aloadn h rfl dX2_makeStuck_9)) (
  tab_cons (eS (st_get h (ci := 2) (k := 5) rfl giX2 (by decide) rfl gw_23 dX2_makeStuck_10)) (
  tab_cons (eS (st_iloadn h rfl dX2_makeStuck_13)) (
  tab_cons (eS (st_ior h dX2_makeStuck_14)) (
  tab_cons (eS (st_goto h dX2_makeStuck_15 (by decide))) (
  tab_cons (eS (st_aloadn h rfl dX2_makeStuck_18)) (
  tab_cons (eS (st_get h (ci := 2) (k := 5) rfl giX2 (by decide) rfl gw_23 dX2_makeStuck_19)) (
  tab_cons (eS (st_iloadn h rfl dX2_makeStuck_22)) (
  tab_cons (eS (st_iconst h (by decide +kernel) dX2_makeStuck_23)) (
  tab_cons (eS (st_ixor h dX2_makeStuck_24)) (
  tab_cons (eS (st_iand h dX2_makeStuck_25)) (
  tab_cons (eS (st_putI h (ci := 2) (k := 5) tyX2 tyX2_ok nmX2 rfl giX2 (by decide) rfl rfl (by decide +kernel) gw_23 dX2_makeStuck_26)) (
  tab_cons (eO (so_return h dX2_makeStuck_29)) (
  tab_nil))))))))))))))))))))
def tX2_makeStuck : Tb := tX2_makeStuck_0
theorem kX2_makeStuck {X : Ctx} (h : sCx X mX2_makeStuck) : tab X mX2_makeStuck tX2_makeStuck := kX2_makeStuck_0 h
theorem dX2_timeFor_0 : decode cX2_timeFor 0 = .ok (.aload_n 0, 1) := by decide +kernel
theorem dX2_timeFor_1 : decode cX2_timeFor 1 = .ok (.getfield 21, 3) := by decide +kernel
theorem dX2_timeFor_4 : decode cX2_timeFor 4 = .ok (.iload_n 1, 1) := by decide +kernel
theorem dX2_timeFor_5 : decode cX2_timeFor 5 = .ok (.iaload, 1) := by decide +kernel
theorem dX2_timeFor_6 : decode cX2_timeFor 6 = .ok (.ifCond .eq 19, 3) := by decide +kernel
theorem dX2_timeFor_9 : decode cX2_timeFor 9 = .ok (.dload_n 2, 1) := by decide +kernel
theorem dX2_timeFor_10 : decode cX2_timeFor 10 = .ok (.aload_n 0, 1) := by decide +kernel
theorem dX2_timeFor_11 : decode cX2_timeFor 11 = .ok (.getfield 21, 3) := by decide +kernel
theorem dX2_timeFor_14 : decode cX2_timeFor 14 = .ok (.iload_n 1, 1) := by decide +kernel
theorem dX2_timeFor_15 : decode cX2_timeFor 15 = .ok (.iaload, 1) := by decide +kernel
theorem dX2_timeFor_16 : decode cX2_timeFor 16 = .ok (.i2d, 1) := by decide +kernel
theorem dX2_timeFor_17 : decode cX2_timeFor 17 = .ok (.dcmp .l, 1) := by decide +kernel
theorem dX2_timeFor_18 : decode cX2_timeFor 18 = .ok (.ifCond .lt 7, 3) := by decide +kernel
theorem dX2_timeFor_21 : decode cX2_timeFor 21 = .ok (.ldc2_w 46, 3) := by decide +kernel
theorem dX2_timeFor_24 : decode cX2_timeFor 24 = .ok (.dreturn, 1) := by decide +kernel
theorem dX2_timeFor_25 : decode cX2_timeFor 25 = .ok (.dload_n 2, 1) := by decide +kernel
theorem dX2_timeFor_26 : decode cX2_timeFor 26 = .ok (.aload_n 0, 1) := by decide +kernel
theorem dX2_timeFor_27 : decode cX2_timeFor 27 = .ok (.getfield 9, 3) := by decide +kernel
theorem dX2_timeFor_30 : decode cX2_timeFor 30 = .ok (.iload_n 1, 1) := by decide +kernel
theorem dX2_timeFor_31 : decode cX2_timeFor 31 = .ok (.iaload, 1) := by decide +kernel
theorem dX2_timeFor_32 : decode cX2_timeFor 32 = .ok (.i2d, 1) := by decide +kernel
theorem dX2_timeFor_33 : decode cX2_timeFor 33 = .ok (.ddiv, 1) := by decide +kernel
theorem dX2_timeFor_34 : decode cX2_timeFor 34 = .ok (.dstore 4, 2) := by decide +kernel
theorem dX2_timeFor_36 : decode cX2_timeFor 36 = .ok (.dload 4, 2) := by decide +kernel
theorem dX2_timeFor_38 : decode cX2_timeFor 38 = .ok (.dconst 1, 1) := by decide +kernel
theorem dX2_timeFor_39 : decode cX2_timeFor 39 = .ok (.dcmp .l, 1) := by decide +kernel
theorem dX2_timeFor_40 : decode cX2_timeFor 40 = .ok (.ifCond .gt 7, 3) := by decide +kernel
theorem dX2_timeFor_43 : decode cX2_timeFor 43 = .ok (.invokestatic 48, 3) := by decide +kernel
theorem dX2_timeFor_46 : decode cX2_timeFor 46 = .ok (.dreturn, 1) := by decide +kernel
theorem dX2_timeFor_47 : decode cX2_timeFor 47 = .ok (.aload_n 0, 1) := by decide +kernel
theorem dX2_timeFor_48 : decode cX2_timeFor 48 = .ok (.getfield 15, 3) := by decide +kernel
theorem dX2_timeFor_51 : decode cX2_timeFor 51 = .ok (.iload_n 1, 1) := by decide +kernel
theorem dX2_timeFor_52 : decode cX2_timeFor 52 = .ok (.iaload, 1) := by decide +kernel
theorem dX2_timeFor_53 : decode cX2_timeFor 53 = .ok (.ldc2_w 52, 3) := by decide +kernel
theorem dX2_timeFor_56 : decode cX2_timeFor 56 = .ok (.aload_n 0, 1) := by decide +kernel
theorem dX2_timeFor_57 : decode cX2_timeFor 57 = .ok (.getfield 18, 3) := by decide +kernel
theorem dX2_timeFor_60 : decode cX2_timeFor 60 = .ok (.iload_n 1, 1) := by decide +kernel
theorem dX2_timeFor_61 : decode cX2_timeFor 61 = .ok (.iaload, 1) := by decide +kernel
theorem dX2_timeFor_62 : decode cX2_timeFor 62 = .ok (.i2d, 1) := by decide +kernel
theorem dX2_timeFor_63 : decode cX2_timeFor 63 = .ok (.dmul, 1) := by decide +kernel
theorem dX2_timeFor_64 : decode cX2_timeFor 64 = .ok (.dload 4, 2) := by decide +kernel
theorem dX2_timeFor_66 : decode cX2_timeFor 66 = .ok (.invokestatic 54, 3) := by decide +kernel
theorem dX2_timeFor_69 : decode cX2_timeFor 69 = .ok (.dreturn, 1) := by decide +kernel
def tX2_timeFor_0 : Tb := [(0, .inl (f_aload 0, 1)), (1, .inl (f_get 2 3, 4)), (4, .inl (f_iload 1, 5)), (5, .inr (.inr (.inl (0, 6, 0, m0)))), (6, .inr (.inl (b_if_eq, 25, 9))), (9, .inl (f_dload 2, 10)), (10, .inl (f_aload 0, 11)), (11, .inl (f_get 2 3, 14)), (14, .inl (f_iload 1, 15)), (15, .inr (.inr (.inl (0, 16, 0, m0)))), (16, .inl (f_i2d, 17)), (17, .inl (f_dcmpl, 18)), (18, .inr (.inl (b_if_lt, 25, 21))), (21, .inl (f_cd 4585925428558828667, 24)), (24, .inr (.inr (.inl (16, 25, 0, m0)))), (25, .inl (f_dload 2, 26)), (26, .inl (f_aload 0, 27)), (27, .inl (f_get 2 0, 30)), (30, .inl (f_iload 1, 31)), (31, .inr (.inr (.inl (0, 32, 0, m0)))), (32, .inl (f_i2d, 33)), (33, .inr (.inr (.inl (10, 34, 0, m0)))), (34, .inl (f_dstore 6 4, 36)), (36, .inl (f_dload 4, 38)), (38, .inl (f_cd 4607182418800017408, 39)), (39, .inl (f_dcmpl, 40)), (40, .inr (.inl (b_if_gt, 47, 43))), (43, .inr (.inr (.inl (14, 46, 0, mX6_infinity)))), (46, .inr (.inr (.inl (16, 47, 0, m0)))), (47, .inl (f_aload 0, 48))]
set_option maxRecDepth 10000 in
theorem kX2_timeFor_0 {X : Ctx} (h : sCx X mX2_timeFor) : tab X mX2_timeFor tX2_timeFor_0 :=
  tab_cons (eS (st_aloadn h rfl dX2_timeFor_0)) (
  tab_cons (eS (st_get h (ci := 2) (k := 3) rfl giX2 (by decide) rfl gw_21 dX2_timeFor_1)) (
  tab_cons (eS (st_iloadn h rfl dX2_timeFor_4)) (
  tab_cons (eO (so_iaload h dX2_timeFor_5)) (
  tab_cons (eB (sb_if_eq h dX2_timeFor_6 (by decide))) (
  tab_cons (eS (st_dloadn h rfl dX2_timeFor_9)) (
  tab_cons (eS (st_aloadn h rfl dX2_timeFor_10)) (
  tab_cons (eS (st_get h (ci := 2) (k := 3) rfl giX2 (by decide) rfl gw_21 dX2_timeFor_11)) (
  tab_cons (eS (st_iloadn h rfl dX2_timeFor_14)) (
  tab_cons (eO (so_iaload h dX2_timeFor_15)) (
  tab_cons (eS (st_i2d h dX2_timeFor_16)) (
  tab_cons (eS (st_dcmpl h dX2_timeFor_17)) (
  tab_cons (eB (sb_if_lt h dX2_timeFor_18 (by decide))) (
  tab_cons (eS (st_ldc2d h gw_25 dX2_timeFor_21)) (
  tab_cons (eO (so_dreturn h dX2_timeFor_24)) (
  tab_cons (eS (st_dloadn h rfl dX2_timeFor_25)) (
  tab_cons (eS (st_aloadn h rfl dX2_timeFor_26)) (
  tab_cons (eS (st_get h (ci := 2) (k := 0) rfl giX2 (by decide) rfl gw_17 dX2_timeFor_27)) (
  tab_cons (eS (st_iloadn h rfl dX2_timeFor_30)) (
  tab_cons (eO (so_iaload h dX2_timeFor_31)) (
  tab_cons (eS (st_i2d h dX2_timeFor_32)) (
  tab_cons (eO (so_ddiv h dX2_timeFor_33)) (
  tab_cons (eS (st_dstore h dX2_timeFor_34)) (
  tab_cons (eS (st_dload h dX2_timeFor_36)) (
  tab_cons (eS (st_dconst1 h rfl dX2_timeFor_38)) (
  tab_cons (eS (st_dcmpl h dX2_timeFor_39)) (
  tab_cons (eB (sb_if_gt h dX2_timeFor_40 (by decide))) (
  tab_cons (eO (so_callN h (fun _ q => q.1) gw_26 gw_27 gw_28 ⟨by decide +kernel, by decide +kernel, by decide +kernel⟩ ⟨by decide +kernel, by decide +kernel⟩ dX2_timeFor_43)) (
  tab_cons (eO (so_dreturn h dX2_timeFor_46)) (
  tab_cons (eS (st_aloadn h rfl dX2_timeFor_47)) (
  tab_nil))))))))))))))))))))))))))))))
def tX2_timeFor_1 : Tb := [(48, .inl (f_get 2 1, 51)), (51, .inl (f_iload 1, 52)), (52, .inr (.inr (.inl (0, 53, 0, m0)))), (53, .inl (f_cd 4587366580439587226, 56)), (56, .inl (f_aload 0, 57)), (57, .inl (f_get 2 2, 60)), (60, .inl (f_iload 1, 61)), (61, .inr (.inr (.inl (0, 62, 0, m0)))), (62, .inl (f_i2d, 63)), (63, .inr (.inr (.inl (9, 64, 0, m0)))), (64, .inl (f_dload 4, 66)), (66, .inr (.inr (.inl (14, 69, 3, mX2_delayedTime)))), (69, .inr (.inr (.inl (16, 70, 0, m0))))]
set_option maxRecDepth 10000 in
theorem kX2_timeFor_1 {X : Ctx} (h : sCx X mX2_timeFor) : tab X mX2_timeFor tX2_timeFor_1 :=
  tab_cons (eS (st_get h (ci := 2) (k := 1) rfl giX2 (by decide) rfl gw_19 dX2_timeFor_48)) (
  tab_cons (eS (st_iloadn h rfl dX2_timeFor_51)) (
  tab_cons (eO (so_iaload h dX2_timeFor_52)) (
  tab_cons (eS (st_ldc2d h gw_29 dX2_timeFor_53)) (
  tab_cons (eS (st_aloadn h rfl dX2_timeFor_56)) (
  tab_cons (eS (st_get h (ci := 2) (k := 2) rfl giX2 (by decide) rfl gw_20 dX2_timeFor_57)) (
  tab_cons (eS (st_iloadn h rfl dX2_timeFor_60)) (
  tab_cons (eO (so_iaload h dX2_timeFor_61)) (
  tab_cons (eS (st_i2d h dX2_timeFor_62)) (
  tab_cons (eO (so_dmul h dX2_timeFor_63)) (
  tab_cons (eS (st_dload h dX2_timeFor_64)) (
  tab_cons (eO (so_callS h gw_30 gw_31 gw_32 gw_33 ⟨by decide +kernel, by decide +kernel, by decide +kernel⟩ ⟨by decide +kernel, by decide +kernel⟩ dX2_timeFor_66)) (
  tab_cons (eO (so_dreturn h dX2_timeFor_69)) (
  tab_nil)))))))))))))
def tX2_timeFor : Tb := tX2_timeFor_0 ++ (tX2_timeFor_1)
theorem kX2_timeFor {X : Ctx} (h : sCx X mX2_timeFor) : tab X mX2_timeFor tX2_timeFor := tab_app (kX2_timeFor_0 h) (kX2_timeFor_1 h)
theorem dX2_delayedTime_0 : decode cX2_delayedTime 0 = .ok (.iload_n 0, 1) := by decide +kernel
theorem dX2_delayedTime_1 : decode cX2_delayedTime 1 = .ok (.tableswitch 59 1 3 #[27, 37, 49], 27) := by decide +kernel
theorem dX2_delayedTime_28 : decode cX2_delayedTime 28 = .ok (.dload_n 1, 1) := by decide +kernel
theorem dX2_delayedTime_29 : decode cX2_delayedTime 29 = .ok (.ldc2_w 58, 3) := by decide +kernel
theorem dX2_delayedTime_32 : decode cX2_delayedTime 32 = .ok (.dmul, 1) := by decide +kernel
theorem dX2_delayedTime_33 : decode cX2_delayedTime 33 = .ok (.dload_n 3, 1) := by decide +kernel
theorem dX2_delayedTime_34 : decode cX2_delayedTime 34 = .ok (.dconst 1, 1) := by decide +kernel
theorem dX2_delayedTime_35 : decode cX2_delayedTime 35 = .ok (.dsub, 1) := by decide +kernel
theorem dX2_delayedTime_36 : decode cX2_delayedTime 36 = .ok (.ddiv, 1) := by decide +kernel
theorem dX2_delayedTime_37 : decode cX2_delayedTime 37 = .ok (.dreturn, 1) := by decide +kernel
theorem dX2_delayedTime_38 : decode cX2_delayedTime 38 = .ok (.dload_n 1, 1) := by decide +kernel
theorem dX2_delayedTime_39 : decode cX2_delayedTime 39 = .ok (.ldc2_w 60, 3) := by decide +kernel
theorem dX2_delayedTime_42 : decode cX2_delayedTime 42 = .ok (.dmul, 1) := by decide +kernel
theorem dX2_delayedTime_43 : decode cX2_delayedTime 43 = .ok (.dload_n 3, 1) := by decide +kernel
theorem dX2_delayedTime_44 : decode cX2_delayedTime 44 = .ok (.dload_n 3, 1) := by decide +kernel
theorem dX2_delayedTime_45 : decode cX2_delayedTime 45 = .ok (.dmul, 1) := by decide +kernel
theorem dX2_delayedTime_46 : decode cX2_delayedTime 46 = .ok (.dconst 1, 1) := by decide +kernel
theorem dX2_delayedTime_47 : decode cX2_delayedTime 47 = .ok (.dsub, 1) := by decide +kernel
theorem dX2_delayedTime_48 : decode cX2_delayedTime 48 = .ok (.ddiv, 1) := by decide +kernel
theorem dX2_delayedTime_49 : decode cX2_delayedTime 49 = .ok (.dreturn, 1) := by decide +kernel
theorem dX2_delayedTime_50 : decode cX2_delayedTime 50 = .ok (.dload_n 1, 1) := by decide +kernel
theorem dX2_delayedTime_51 : decode cX2_delayedTime 51 = .ok (.ldc2_w 62, 3) := by decide +kernel
theorem dX2_delayedTime_54 : decode cX2_delayedTime 54 = .ok (.dmul, 1) := by decide +kernel
theorem dX2_delayedTime_55 : decode cX2_delayedTime 55 = .ok (.dload_n 3, 1) := by decide +kernel
theorem dX2_delayedTime_56 : decode cX2_delayedTime 56 = .ok (.dconst 1, 1) := by decide +kernel
theorem dX2_delayedTime_57 : decode cX2_delayedTime 57 = .ok (.dsub, 1) := by decide +kernel
theorem dX2_delayedTime_58 : decode cX2_delayedTime 58 = .ok (.ddiv, 1) := by decide +kernel
theorem dX2_delayedTime_59 : decode cX2_delayedTime 59 = .ok (.dreturn, 1) := by decide +kernel
theorem dX2_delayedTime_60 : decode cX2_delayedTime 60 = .ok (.dload_n 1, 1) := by decide +kernel
theorem dX2_delayedTime_61 : decode cX2_delayedTime 61 = .ok (.dreturn, 1) := by decide +kernel
def tX2_delayedTime_0 : Tb := [(0, .inl (f_iload 0, 1)), (1, .inr (.inr (.inr (1, [28, 38, 50], 60)))), (28, .inl (f_dload 1, 29)), (29, .inl (f_cd 4623789442425946112, 32)), (32, .inr (.inr (.inl (9, 33, 0, m0)))), (33, .inl (f_dload 3, 34)), (34, .inl (f_cd 4607182418800017408, 35)), (35, .inr (.inr (.inl (8, 36, 0, m0)))), (36, .inr (.inr (.inl (10, 37, 0, m0)))), (37, .inr (.inr (.inl (16, 38, 0, m0)))), (38, .inl (f_dload 1, 39)), (39, .inl (f_cd 4635329916471083008, 42)), (42, .inr (.inr (.inl (9, 43, 0, m0)))), (43, .inl (f_dload 3, 44)), (44, .inl (f_dload 3, 45)), (45, .inr (.inr (.inl (9, 46, 0, m0)))), (46, .inl (f_cd 4607182418800017408, 47)), (47, .inr (.inr (.inl (8, 48, 0, m0)))), (48, .inr (.inr (.inl (10, 49, 0, m0)))), (49, .inr (.inr (.inl (16, 50, 0, m0)))), (50, .inl (f_dload 1, 51)), (51, .inl (f_cd 4638144666238189568, 54)), (54, .inr (.inr (.inl (9, 55, 0, m0)))), (55, .inl (f_dload 3, 56)), (56, .inl (f_cd 4607182418800017408, 57)), (57, .inr (.inr (.inl (8, 58, 0, m0)))), (58, .inr (.inr (.inl (10, 59, 0, m0)))), (59, .inr (.inr (.inl (16, 60, 0, m0)))), (60, .inl (f_dload 1, 61)), (61, .inr (.inr (.inl (16, 62, 0, m0))))]
set_option maxRecDepth 10000 in
theorem kX2_delayedTime_0 {X : Ctx} (h : sCx X mX2_delayedTime) : tab X mX2_delayedTime tX2_delayedTime_0 :=
  tab_cons (eS (st_iloadn h rfl dX2_delayedTime_0)) (
  tab_cons (eT (so_tsw h (by decide) (by decide) (by decide) dX2_delayedTime_1)) (
  tab_cons (eS (st_dloadn h rfl dX2_delayedTime_28)) (
  tab_cons (eS (st_ldc2d h gw_34 dX2_delayedTime_29)) (
  tab_cons (eO (so_dmul h dX2_delayedTime_32)) (
  tab_cons (eS (st_dloadn h rfl dX2_delayedTime_33)) (
  tab_cons (eS (st_dconst1 h rfl dX2_delayedTime_34)) (
  tab_cons (eO (so_dsub h dX2_delayedTime_35)) (
  tab_cons (eO (so_ddiv h dX2_delayedTime_36)) (
  tab_cons (eO (so_dreturn h dX2_delayedTime_37)) (
  tab_cons (eS (st_dloadn h rfl dX2_delayedTime_38)) (
  tab_cons (eS (st_ldc2d h gw_35 dX2_delayedTime_39)) (
  tab_cons (eO (so_dmul h dX2_delayedTime_42)) (
  tab_cons (eS (st_dloadn h rfl dX2_delayedTime_43)) (
  tab_cons (eS (st_dloadn h rfl dX2_delayedTime_44)) (
  tab_cons (eO (so_dmul h dX2_delayedTime_45)) (
  tab_cons (eS (st_dconst1 h rfl dX2_delayedTime_46)) (
  tab_cons (eO (so_dsub h dX2_delayedTime_47)) (
  tab_cons (eO (so_ddiv h dX2_delayedTime_48)) (
  tab_cons (eO (so_dreturn h dX2_delayedTime_49)) (
  tab_cons (eS (st_dloadn h rfl dX2_delayedTime_50)) (
  tab_cons (eS (st_ldc2d h gw_36 dX2_delayedTime_51)) (
  tab_cons (eO (so_dmul h dX2_delayedTime_54)) (
  tab_cons (eS (st_dloadn h rfl dX2_delayedTime_55)) (
  tab_cons (eS (st_dconst1 h rfl dX2_delayedTime_56)) (
  tab_cons (eO (so_dsub h dX2_delayedTime_57)) (
  tab_cons (eO (so_ddiv h dX2_delayedTime_58)) (
  tab_cons (eO (so_dreturn h dX2_delayedTime_59)) (
  tab_cons (eS (st_dloadn h rfl dX2_delayedTime_60)) (
  tab_cons (eO (so_dreturn h dX2_delayedTime_61)) (
  tab_nil))))))))))))))))))))))))))))))
def tX2_delayedTime : Tb := tX2_delayedTime_0
theorem kX2_delayedTime {X : Ctx} (h : sCx X mX2_delayedTime) : tab X mX2_delayedTime tX2_delayedTime := kX2_delayedTime_0 h
theorem dX3_run_0 : decode cX3_run 0 = .ok (.aload_n 0, 1) := by decide +kernel
theorem dX3_run_1 : decode cX3_run 1 = .ok (.getfield 22, 3) := by decide +kernel
theorem dX3_run_4 : decode cX3_run 4 = .ok (.iconst 0, 1) := by decide +kernel
theorem dX3_run_5 : decode cX3_run 5 = .ok (.invokestatic 25, 3) := by decide +kernel
theorem dX3_run_8 : decode cX3_run 8 = .ok (.aload_n 1, 1) := by decide +kernel
theorem dX3_run_9 : decode cX3_run 9 = .ok (.getfield 31, 3) := by decide +kernel
theorem dX3_run_12 : decode cX3_run 12 = .ok (.invokevirtual 37, 3) := by decide +kernel
theorem dX3_run_15 : decode cX3_run 15 = .ok (.aload_n 1, 1) := by decide +kernel
theorem dX3_run_16 : decode cX3_run 16 = .ok (.getfield 42, 3) := by decide +kernel
theorem dX3_run_19 : decode cX3_run 19 = .ok (.getfield 46, 3) := by decide +kernel
theorem dX3_run_22 : decode cX3_run 22 = .ok (.iload_n 2, 1) := by decide +kernel
theorem dX3_run_23 : decode cX3_run 23 = .ok (.iaload, 1) := by decide +kernel
theorem dX3_run_24 : decode cX3_run 24 = .ok (.istore 6, 2) := by decide +kernel
theorem dX3_run_26 : decode cX3_run 26 = .ok (.aload_n 1, 1) := by decide +kernel
theorem dX3_run_27 : decode cX3_run 27 = .ok (.getfield 42, 3) := by decide +kernel
theorem dX3_run_30 : decode cX3_run 30 = .ok (.iload_n 2, 1) := by decide +kernel
theorem dX3_run_31 : decode cX3_run 31 = .ok (.iload_n 3, 1) := by decide +kernel
theorem dX3_run_32 : decode cX3_run 32 = .ok (.invokevirtual 51, 3) := by decide +kernel
theorem dX3_run_35 : decode cX3_run 35 = .ok (.dstore 7, 2) := by decide +kernel
theorem dX3_run_37 : decode cX3_run 37 = .ok (.dconst 0, 1) := by decide +kernel
theorem dX3_run_38 : decode cX3_run 38 = .ok (.dstore 9, 2) := by decide +kernel
theorem dX3_run_40 : decode cX3_run 40 = .ok (.iconst 0, 1) := by decide +kernel
theorem dX3_run_41 : decode cX3_run 41 = .ok (.istore 11, 2) := by decide +kernel
theorem dX3_run_43 : decode cX3_run 43 = .ok (.iload 11, 2) := by decide +kernel
theorem dX3_run_45 : decode cX3_run 45 = .ok (.bipush 37, 2) := by decide +kernel
theorem dX3_run_47 : decode cX3_run 47 = .ok (.if_icmp .ge 44, 3) := by decide +kernel
theorem dX3_run_50 : decode cX3_run 50 = .ok (.iload 6, 2) := by decide +kernel
theorem dX3_run_52 : decode cX3_run 52 = .ok (.aload_n 1, 1) := by decide +kernel
theorem dX3_run_53 : decode cX3_run 53 = .ok (.getfield 55, 3) := by decide +kernel
theorem dX3_run_56 : decode cX3_run 56 = .ok (.getfield 59, 3) := by decide +kernel
theorem dX3_run_59 : decode cX3_run 59 = .ok (.iand, 1) := by decide +kernel
theorem dX3_run_60 : decode cX3_run 60 = .ok (.ifCond .ne 11, 3) := by decide +kernel
theorem dX3_run_63 : decode cX3_run 63 = .ok (.dload 9, 2) := by decide +kernel
theorem dX3_run_65 : decode cX3_run 65 = .ok (.dload 4, 2) := by decide +kernel
theorem dX3_run_67 : decode cX3_run 67 = .ok (.dcmp .l, 1) := by decide +kernel
theorem dX3_run_68 : decode cX3_run 68 = .ok (.ifCond .lt 4, 3) := by decide +kernel
theorem dX3_run_71 : decode cX3_run 71 = .ok (.return_, 1) := by decide +kernel
theorem dX3_run_72 : decode cX3_run 72 = .ok (.aload_n 0, 1) := by decide +kernel
theorem dX3_run_73 : decode cX3_run 73 = .ok (.aload_n 1, 1) := by decide +kernel
theorem dX3_run_74 : decode cX3_run 74 = .ok (.iload 6, 2) := by decide +kernel
theorem dX3_run_76 : decode cX3_run 76 = .ok (.dload 7, 2) := by decide +kernel
theorem dX3_run_78 : decode cX3_run 78 = .ok (.dload 9, 2) := by decide +kernel
theorem dX3_run_80 : decode cX3_run 80 = .ok (.invokevirtual 65, 3) := by decide +kernel
theorem dX3_run_83 : decode cX3_run 83 = .ok (.dstore 9, 2) := by decide +kernel
theorem dX3_run_85 : decode cX3_run 85 = .ok (.iinc 11 1, 3) := by decide +kernel
theorem dX3_run_88 : decode cX3_run 88 = .ok (.goto (-45), 3) := by decide +kernel
theorem dX3_run_91 : decode cX3_run 91 = .ok (.return_, 1) := by decide +kernel
def tX3_run_0 : Tb := [(0, .inl (f_aload 0, 1)), (1, .inl (f_get 3 5, 4)), (4, .inl (f_ci (0), 5)), (5, .inr (.inr (.inl (14, 8, 2, mJ7_fill_53178)))), (8, .inl (f_aload 1, 9)), (9, .inl (f_get 4 2, 12)), (12, .inr (.inr (.inl (13, 15, 1, mX0_reset)))), (15, .inl (f_aload 1, 16)), (16, .inl (f_get 4 0, 19)), (19, .inl (f_get 1 4, 22)), (22, .inl (f_iload 2, 23)), (23, .inr (.inr (.inl (0, 24, 0, m0)))), (24, .inl (f_istore 12 6, 26)), (26, .inl (f_aload 1, 27)), (27, .inl (f_get 4 0, 30)), (30, .inl (f_iload 2, 31)), (31, .inl (f_iload 3, 32)), (32, .inr (.inr (.inl (13, 35, 3, mX1_currentAt)))), (35, .inl (f_dstore 12 7, 37)), (37, .inl (f_cd 0, 38)), (38, .inl (f_dstore 12 9, 40)), (40, .inl (f_ci (0), 41)), (41, .inl (f_istore 12 11, 43)), (43, .inl (f_iload 11, 45)), (45, .inl (f_ci (37), 47)), (47, .inr (.inl (b_icmp_ge, 91, 50))), (50, .inl (f_iload 6, 52)), (52, .inl (f_aload 1, 53)), (53, .inl (f_get 4 1, 56)), (56, .inl (f_get 2 6, 59))]
set_option maxRecDepth 10000 in
theorem kX3_run_0 {X : Ctx} (h : sCx X mX3_run) : tab X mX3_run tX3_run_0 :=
  tab_cons (eS (st_aloadn h rfl dX3_run_0)) (
  tab_cons (eS (st_get h (ci := 3) (k := 5) rfl giX3 (by decide) rfl gw_37 dX3_run_1)) (
  tab_cons (eS (st_iconst h (by decide +kernel) dX3_run_4)) (
  tab_cons (eO (so_callS h gw_38 gw_39 gw_40 gw_41 ⟨by decide +kernel, by decide +kernel, by decide +kernel⟩ ⟨by decide +kernel, by decide +kernel⟩ dX3_run_5)) (
  tab_cons (eS (st_aloadn h rfl dX3_run_8)) (
  tab_cons (eS (st_get h (ci := 4) (k := 2) rfl giX4 (by decide) rfl gw_42 dX3_run_9)) (
  tab_cons (eO (so_callV h gw_43 gw_44 gw_45 gw_46 gw_47 ⟨by decide +kernel, by decide +kernel, by decide +kernel, by decide +kernel⟩ ⟨by decide +kernel, by decide +kernel⟩ dX3_run_12)) (
  tab_cons (eS (st_aloadn h rfl dX3_run_15)) (
  tab_cons (eS (st_get h (ci := 4) (k := 0) rfl giX4 (by decide) rfl gw_48 dX3_run_16)) (
  tab_cons (eS (st_get h (ci := 1) (k := 4) rfl giX1 (by decide) rfl gw_49 dX3_run_19)) (
  tab_cons (eS (st_iloadn h rfl dX3_run_22)) (
  tab_cons (eO (so_iaload h dX3_run_23)) (
  tab_cons (eS (st_istore h dX3_run_24)) (
  tab_cons (eS (st_aloadn h rfl dX3_run_26)) (
  tab_cons (eS (st_get h (ci := 4) (k := 0) rfl giX4 (by decide) rfl gw_48 dX3_run_27)) (
  tab_cons (eS (st_iloadn h rfl dX3_run_30)) (
  tab_cons (eS (st_iloadn h rfl dX3_run_31)) (
  tab_cons (eO (so_callV h gw_50 gw_51 gw_52 gw_53 gw_54 ⟨by decide +kernel, by decide +kernel, by decide +kernel, by decide +kernel⟩ ⟨by decide +kernel, by decide +kernel⟩ dX3_run_32)) (
  tab_cons (eS (st_dstore h dX3_run_35)) (
  tab_cons (eS (st_dconst0 h rfl dX3_run_37)) (
  tab_cons (eS (st_dstore h dX3_run_38)) (
  tab_cons (eS (st_iconst h (by decide +kernel) dX3_run_40)) (
  tab_cons (eS (st_istore h dX3_run_41)) (
  tab_cons (eS (st_iload h dX3_run_43)) (
  tab_cons (eS (st_bipush h (by decide +kernel) dX3_run_45)) (
  tab_cons (eB (sb_icmp_ge h dX3_run_47 (by decide))) (
  tab_cons (eS (st_iload h dX3_run_50)) (
  tab_cons (eS (st_aloadn h rfl dX3_run_52)) (
  tab_cons (eS (st_get h (ci := 4) (k := 1) rfl giX4 (by decide) rfl gw_55 dX3_run_53)) (
  tab_cons (eS (st_get h (ci := 2) (k := 6) rfl giX2 (by decide) rfl gw_56 dX3_run_56)) (
  tab_nil))))))))))))))))))))))))))))))
def tX3_run_1 : Tb := [(59, .inl (f_iand, 60)), (60, .inr (.inl (b_if_eq, 63, 71))), (63, .inl (f_dload 9, 65)), (65, .inl (f_dload 4, 67)), (67, .inl (f_dcmpl, 68)), (68, .inr (.inl (b_if_lt, 72, 71))), (71, .inr (.inr (.inl (18, 72, 0, m0)))), (72, .inl (f_aload 0, 73)), (73, .inl (f_aload 1, 74)), (74, .inl (f_iload 6, 76)), (76, .inl (f_dload 7, 78)), (78, .inl (f_dload 9, 80)), (80, .inr (.inr (.inl (13, 83, 5, mX3_playRound)))), (83, .inl (f_dstore 12 9, 85)), (85, .inl (f_iinc 12 11 (1), 88)), (88, .inl (f_id, 43)), (91, .inr (.inr (.inl (18, 92, 0, m0))))]
set_option maxRecDepth 10000 in
theorem kX3_run_1 {X : Ctx} (h : sCx X mX3_run) : tab X mX3_run tX3_run_1 :=
  tab_cons (eS (st_iand h dX3_run_59)) (
  tab_cons (eB (sb_if_ne h dX3_run_60 (by decide))) (
  tab_cons (eS (st_dload h dX3_run_63)) (
  tab_cons (eS (st_dload h dX3_run_65)) (
  tab_cons (eS (st_dcmpl h dX3_run_67)) (
  tab_cons (eB (sb_if_lt h dX3_run_68 (by decide))) (
  tab_cons (eO (so_return h dX3_run_71)) (
  tab_cons (eS (st_aloadn h rfl dX3_run_72)) (
  tab_cons (eS (st_aloadn h rfl dX3_run_73)) (
  tab_cons (eS (st_iload h dX3_run_74)) (
  tab_cons (eS (st_dload h dX3_run_76)) (
  tab_cons (eS (st_dload h dX3_run_78)) (
  tab_cons (eO (so_callV h gw_57 gw_58 gw_59 gw_60 gw_61 ⟨by decide +kernel, by decide +kernel, by decide +kernel, by decide +kernel⟩ ⟨by decide +kernel, by decide +kernel⟩ dX3_run_80)) (
  tab_cons (eS (st_dstore h dX3_run_83)) (
  tab_cons (eS (st_iinc h (by decide +kernel) dX3_run_85)) (
  tab_cons (eS (st_goto h dX3_run_88 (by decide))) (
  tab_cons (eO (so_return h dX3_run_91)) (
  tab_nil)))))))))))))))))
def tX3_run : Tb := tX3_run_0 ++ (tX3_run_1)
theorem kX3_run {X : Ctx} (h : sCx X mX3_run) : tab X mX3_run tX3_run := tab_app (kX3_run_0 h) (kX3_run_1 h)
theorem dX3_playRound_0 : decode cX3_playRound 0 = .ok (.aload_n 0, 1) := by decide +kernel
theorem dX3_playRound_1 : decode cX3_playRound 1 = .ok (.aload_n 1, 1) := by decide +kernel
theorem dX3_playRound_2 : decode cX3_playRound 2 = .ok (.getfield 55, 3) := by decide +kernel
theorem dX3_playRound_5 : decode cX3_playRound 5 = .ok (.iload_n 2, 1) := by decide +kernel
theorem dX3_playRound_6 : decode cX3_playRound 6 = .ok (.dload_n 3, 1) := by decide +kernel
theorem dX3_playRound_7 : decode cX3_playRound 7 = .ok (.dload 5, 2) := by decide +kernel
theorem dX3_playRound_9 : decode cX3_playRound 9 = .ok (.invokevirtual 69, 3) := by decide +kernel
theorem dX3_playRound_12 : decode cX3_playRound 12 = .ok (.aload_n 0, 1) := by decide +kernel
theorem dX3_playRound_13 : decode cX3_playRound 13 = .ok (.aload_n 1, 1) := by decide +kernel
theorem dX3_playRound_14 : decode cX3_playRound 14 = .ok (.getfield 55, 3) := by decide +kernel
theorem dX3_playRound_17 : decode cX3_playRound 17 = .ok (.aload_n 1, 1) := by decide +kernel
theorem dX3_playRound_18 : decode cX3_playRound 18 = .ok (.getfield 31, 3) := by decide +kernel
theorem dX3_playRound_21 : decode cX3_playRound 21 = .ok (.invokevirtual 73, 3) := by decide +kernel
theorem dX3_playRound_24 : decode cX3_playRound 24 = .ok (.aload_n 0, 1) := by decide +kernel
theorem dX3_playRound_25 : decode cX3_playRound 25 = .ok (.getfield 77, 3) := by decide +kernel
theorem dX3_playRound_28 : decode cX3_playRound 28 = .ok (.ifCond .ne 17, 3) := by decide +kernel
theorem dX3_playRound_31 : decode cX3_playRound 31 = .ok (.aload_n 1, 1) := by decide +kernel
theorem dX3_playRound_32 : decode cX3_playRound 32 = .ok (.getfield 31, 3) := by decide +kernel
theorem dX3_playRound_35 : decode cX3_playRound 35 = .ok (.invokestatic 80, 3) := by decide +kernel
theorem dX3_playRound_38 : decode cX3_playRound 38 = .ok (.putfield 84, 3) := by decide +kernel
theorem dX3_playRound_41 : decode cX3_playRound 41 = .ok (.invokestatic 80, 3) := by decide +kernel
theorem dX3_playRound_44 : decode cX3_playRound 44 = .ok (.dreturn, 1) := by decide +kernel
theorem dX3_playRound_45 : decode cX3_playRound 45 = .ok (.aload_n 1, 1) := by decide +kernel
theorem dX3_playRound_46 : decode cX3_playRound 46 = .ok (.getfield 31, 3) := by decide +kernel
theorem dX3_playRound_49 : decode cX3_playRound 49 = .ok (.aload_n 0, 1) := by decide +kernel
theorem dX3_playRound_50 : decode cX3_playRound 50 = .ok (.aload_n 0, 1) := by decide +kernel
theorem dX3_playRound_51 : decode cX3_playRound 51 = .ok (.getfield 19, 3) := by decide +kernel
theorem dX3_playRound_54 : decode cX3_playRound 54 = .ok (.iconst 0, 1) := by decide +kernel
theorem dX3_playRound_55 : decode cX3_playRound 55 = .ok (.iaload, 1) := by decide +kernel
theorem dX3_playRound_56 : decode cX3_playRound 56 = .ok (.invokevirtual 88, 3) := by decide +kernel
theorem dX3_playRound_59 : decode cX3_playRound 59 = .ok (.putfield 84, 3) := by decide +kernel
theorem dX3_playRound_62 : decode cX3_playRound 62 = .ok (.aload_n 0, 1) := by decide +kernel
theorem dX3_playRound_63 : decode cX3_playRound 63 = .ok (.aload_n 1, 1) := by decide +kernel
theorem dX3_playRound_64 : decode cX3_playRound 64 = .ok (.getfield 55, 3) := by decide +kernel
theorem dX3_playRound_67 : decode cX3_playRound 67 = .ok (.aload_n 1, 1) := by decide +kernel
theorem dX3_playRound_68 : decode cX3_playRound 68 = .ok (.getfield 31, 3) := by decide +kernel
theorem dX3_playRound_71 : decode cX3_playRound 71 = .ok (.invokevirtual 92, 3) := by decide +kernel
theorem dX3_playRound_74 : decode cX3_playRound 74 = .ok (.aload_n 0, 1) := by decide +kernel
theorem dX3_playRound_75 : decode cX3_playRound 75 = .ok (.aload_n 1, 1) := by decide +kernel
theorem dX3_playRound_76 : decode cX3_playRound 76 = .ok (.getfield 55, 3) := by decide +kernel
theorem dX3_playRound_79 : decode cX3_playRound 79 = .ok (.aload_n 1, 1) := by decide +kernel
theorem dX3_playRound_80 : decode cX3_playRound 80 = .ok (.getfield 31, 3) := by decide +kernel
theorem dX3_playRound_83 : decode cX3_playRound 83 = .ok (.invokevirtual 95, 3) := by decide +kernel
theorem dX3_playRound_86 : decode cX3_playRound 86 = .ok (.dreturn, 1) := by decide +kernel
def tX3_playRound_0 : Tb := [(0, .inl (f_aload 0, 1)), (1, .inl (f_aload 1, 2)), (2, .inl (f_get 4 1, 5)), (5, .inl (f_iload 2, 6)), (6, .inl (f_dload 3, 7)), (7, .inl (f_dload 5, 9)), (9, .inr (.inr (.inl (13, 12, 5, mX3_lineUpTrips)))), (12, .inl (f_aload 0, 13)), (13, .inl (f_aload 1, 14)), (14, .inl (f_get 4 1, 17)), (17, .inl (f_aload 1, 18)), (18, .inl (f_get 4 2, 21)), (21, .inr (.inr (.inl (13, 24, 3, mX3_takeTrips)))), (24, .inl (f_aload 0, 25)), (25, .inl (f_get 3 4, 28)), (28, .inr (.inl (b_if_eq, 31, 45))), (31, .inl (f_aload 1, 32)), (32, .inl (f_get 4 2, 35)), (35, .inr (.inr (.inl (14, 38, 0, mX6_infinity)))), (38, .inl (f_putD 0 3, 41)), (41, .inr (.inr (.inl (14, 44, 0, mX6_infinity)))), (44, .inr (.inr (.inl (16, 45, 0, m0)))), (45, .inl (f_aload 1, 46)), (46, .inl (f_get 4 2, 49)), (49, .inl (f_aload 0, 50)), (50, .inl (f_aload 0, 51)), (51, .inl (f_get 3 3, 54)), (54, .inl (f_ci (0), 55)), (55, .inr (.inr (.inl (0, 56, 0, m0)))), (56, .inr (.inr (.inl (13, 59, 2, mX3_openingTime))))]
set_option maxRecDepth 10000 in
theorem kX3_playRound_0 {X : Ctx} (h : sCx X mX3_playRound) : tab X mX3_playRound tX3_playRound_0 :=
  tab_cons (eS (st_aloadn h rfl dX3_playRound_0)) (
  tab_cons (eS (st_aloadn h rfl dX3_playRound_1)) (
  tab_cons (eS (st_get h (ci := 4) (k := 1) rfl giX4 (by decide) rfl gw_55 dX3_playRound_2)) (
  tab_cons (eS (st_iloadn h rfl dX3_playRound_5)) (
  tab_cons (eS (st_dloadn h rfl dX3_playRound_6)) (
  tab_cons (eS (st_dload h dX3_playRound_7)) (
  tab_cons (eO (so_callV h gw_62 gw_63 gw_64 gw_60 gw_65 ⟨by decide +kernel, by decide +kernel, by decide +kernel, by decide +kernel⟩ ⟨by decide +kernel, by decide +kernel⟩ dX3_playRound_9)) (
  tab_cons (eS (st_aloadn h rfl dX3_playRound_12)) (
  tab_cons (eS (st_aloadn h rfl dX3_playRound_13)) (
  tab_cons (eS (st_get h (ci := 4) (k := 1) rfl giX4 (by decide) rfl gw_55 dX3_playRound_14)) (
  tab_cons (eS (st_aloadn h rfl dX3_playRound_17)) (
  tab_cons (eS (st_get h (ci := 4) (k := 2) rfl giX4 (by decide) rfl gw_42 dX3_playRound_18)) (
  tab_cons (eO (so_callV h gw_66 gw_67 gw_68 gw_60 gw_69 ⟨by decide +kernel, by decide +kernel, by decide +kernel, by decide +kernel⟩ ⟨by decide +kernel, by decide +kernel⟩ dX3_playRound_21)) (
  tab_cons (eS (st_aloadn h rfl dX3_playRound_24)) (
  tab_cons (eS (st_get h (ci := 3) (k := 4) rfl giX3 (by decide) rfl gw_70 dX3_playRound_25)) (
  tab_cons (eB (sb_if_ne h dX3_playRound_28 (by decide))) (
  tab_cons (eS (st_aloadn h rfl dX3_playRound_31)) (
  tab_cons (eS (st_get h (ci := 4) (k := 2) rfl giX4 (by decide) rfl gw_42 dX3_playRound_32)) (
  tab_cons (eO (so_callN h (fun _ q => q.2.1) gw_26 gw_27 gw_28 ⟨by decide +kernel, by decide +kernel, by decide +kernel⟩ ⟨by decide +kernel, by decide +kernel⟩ dX3_playRound_35)) (
  tab_cons (eS (st_putD h (ci := 0) (k := 3) tyX0 tyX0_ok nmX0 rfl giX0 (by decide) rfl rfl (by decide +kernel) gw_71 dX3_playRound_38)) (
  tab_cons (eO (so_callN h (fun _ q => q.2.1) gw_26 gw_27 gw_28 ⟨by decide +kernel, by decide +kernel, by decide +kernel⟩ ⟨by decide +kernel, by decide +kernel⟩ dX3_playRound_41)) (
  tab_cons (eO (so_dreturn h dX3_playRound_44)) (
  tab_cons (eS (st_aloadn h rfl dX3_playRound_45)) (
  tab_cons (eS (st_get h (ci := 4) (k := 2) rfl giX4 (by decide) rfl gw_42 dX3_playRound_46)) (
  tab_cons (eS (st_aloadn h rfl dX3_playRound_49)) (
  tab_cons (eS (st_aloadn h rfl dX3_playRound_50)) (
  tab_cons (eS (st_get h (ci := 3) (k := 3) rfl giX3 (by decide) rfl gw_72 dX3_playRound_51)) (
  tab_cons (eS (st_iconst h (by decide +kernel) dX3_playRound_54)) (
  tab_cons (eO (so_iaload h dX3_playRound_55)) (
  tab_cons (eO (so_callV h gw_73 gw_74 gw_75 gw_60 gw_76 ⟨by decide +kernel, by decide +kernel, by decide +kernel, by decide +kernel⟩ ⟨by decide +kernel, by decide +kernel⟩ dX3_playRound_56)) (
  tab_nil))))))))))))))))))))))))))))))
def tX3_playRound_1 : Tb := [(59, .inl (f_putD 0 3, 62)), (62, .inl (f_aload 0, 63)), (63, .inl (f_aload 1, 64)), (64, .inl (f_get 4 1, 67)), (67, .inl (f_aload 1, 68)), (68, .inl (f_get 4 2, 71)), (71, .inr (.inr (.inl (13, 74, 3, mX3_openThem)))), (74, .inl (f_aload 0, 75)), (75, .inl (f_aload 1, 76)), (76, .inl (f_get 4 1, 79)), (79, .inl (f_aload 1, 80)), (80, .inl (f_get 4 2, 83)), (83, .inr (.inr (.inl (13, 86, 3, mX3_reclose)))), (86, .inr (.inr (.inl (16, 87, 0, m0))))]
set_option maxRecDepth 10000 in
theorem kX3_playRound_1 {X : Ctx} (h : sCx X mX3_playRound) : tab X mX3_playRound tX3_playRound_1 :=
  tab_cons (eS (st_putD h (ci := 0) (k := 3) tyX0 tyX0_ok nmX0 rfl giX0 (by decide) rfl rfl (by decide +kernel) gw_71 dX3_playRound_59)) (
  tab_cons (eS (st_aloadn h rfl dX3_playRound_62)) (
  tab_cons (eS (st_aloadn h rfl dX3_playRound_63)) (
  tab_cons (eS (st_get h (ci := 4) (k := 1) rfl giX4 (by decide) rfl gw_55 dX3_playRound_64)) (
  tab_cons (eS (st_aloadn h rfl dX3_playRound_67)) (
  tab_cons (eS (st_get h (ci := 4) (k := 2) rfl giX4 (by decide) rfl gw_42 dX3_playRound_68)) (
  tab_cons (eO (so_callV h gw_77 gw_78 gw_79 gw_60 gw_80 ⟨by decide +kernel, by decide +kernel, by decide +kernel, by decide +kernel⟩ ⟨by decide +kernel, by decide +kernel⟩ dX3_playRound_71)) (
  tab_cons (eS (st_aloadn h rfl dX3_playRound_74)) (
  tab_cons (eS (st_aloadn h rfl dX3_playRound_75)) (
  tab_cons (eS (st_get h (ci := 4) (k := 1) rfl giX4 (by decide) rfl gw_55 dX3_playRound_76)) (
  tab_cons (eS (st_aloadn h rfl dX3_playRound_79)) (
  tab_cons (eS (st_get h (ci := 4) (k := 2) rfl giX4 (by decide) rfl gw_42 dX3_playRound_80)) (
  tab_cons (eO (so_callV h gw_81 gw_82 gw_83 gw_60 gw_84 ⟨by decide +kernel, by decide +kernel, by decide +kernel, by decide +kernel⟩ ⟨by decide +kernel, by decide +kernel⟩ dX3_playRound_83)) (
  tab_cons (eO (so_dreturn h dX3_playRound_86)) (
  tab_nil))))))))))))))
def tX3_playRound : Tb := tX3_playRound_0 ++ (tX3_playRound_1)
theorem kX3_playRound {X : Ctx} (h : sCx X mX3_playRound) : tab X mX3_playRound tX3_playRound := tab_app (kX3_playRound_0 h) (kX3_playRound_1 h)
theorem dX3_lineUpTrips_0 : decode cX3_lineUpTrips 0 = .ok (.aload_n 0, 1) := by decide +kernel
theorem dX3_lineUpTrips_1 : decode cX3_lineUpTrips 1 = .ok (.iconst 0, 1) := by decide +kernel
theorem dX3_lineUpTrips_2 : decode cX3_lineUpTrips 2 = .ok (.putfield 99, 3) := by decide +kernel
theorem dX3_lineUpTrips_5 : decode cX3_lineUpTrips 5 = .ok (.bipush 11, 2) := by decide +kernel
theorem dX3_lineUpTrips_7 : decode cX3_lineUpTrips 7 = .ok (.istore 7, 2) := by decide +kernel
theorem dX3_lineUpTrips_9 : decode cX3_lineUpTrips 9 = .ok (.iload 7, 2) := by decide +kernel
theorem dX3_lineUpTrips_11 : decode cX3_lineUpTrips 11 = .ok (.ifCond .lt 54, 3) := by decide +kernel
theorem dX3_lineUpTrips_14 : decode cX3_lineUpTrips 14 = .ok (.iload_n 2, 1) := by decide +kernel
theorem dX3_lineUpTrips_15 : decode cX3_lineUpTrips 15 = .ok (.iload 7, 2) := by decide +kernel
theorem dX3_lineUpTrips_17 : decode cX3_lineUpTrips 17 = .ok (.ishr, 1) := by decide +kernel
theorem dX3_lineUpTrips_18 : decode cX3_lineUpTrips 18 = .ok (.iconst 1, 1) := by decide +kernel
theorem dX3_lineUpTrips_19 : decode cX3_lineUpTrips 19 = .ok (.iand, 1) := by decide +kernel
theorem dX3_lineUpTrips_20 : decode cX3_lineUpTrips 20 = .ok (.ifCond .eq 39, 3) := by decide +kernel
theorem dX3_lineUpTrips_23 : decode cX3_lineUpTrips 23 = .ok (.aload_n 1, 1) := by decide +kernel
theorem dX3_lineUpTrips_24 : decode cX3_lineUpTrips 24 = .ok (.iload 7, 2) := by decide +kernel
theorem dX3_lineUpTrips_26 : decode cX3_lineUpTrips 26 = .ok (.dload_n 3, 1) := by decide +kernel
theorem dX3_lineUpTrips_27 : decode cX3_lineUpTrips 27 = .ok (.invokevirtual 102, 3) := by decide +kernel
theorem dX3_lineUpTrips_30 : decode cX3_lineUpTrips 30 = .ok (.dstore 8, 2) := by decide +kernel
theorem dX3_lineUpTrips_32 : decode cX3_lineUpTrips 32 = .ok (.dload 8, 2) := by decide +kernel
theorem dX3_lineUpTrips_34 : decode cX3_lineUpTrips 34 = .ok (.invokestatic 80, 3) := by decide +kernel
theorem dX3_lineUpTrips_37 : decode cX3_lineUpTrips 37 = .ok (.dcmp .g, 1) := by decide +kernel
theorem dX3_lineUpTrips_38 : decode cX3_lineUpTrips 38 = .ok (.ifCond .ge 21, 3) := by decide +kernel
theorem dX3_lineUpTrips_41 : decode cX3_lineUpTrips 41 = .ok (.aload_n 0, 1) := by decide +kernel
theorem dX3_lineUpTrips_42 : decode cX3_lineUpTrips 42 = .ok (.getfield 15, 3) := by decide +kernel
theorem dX3_lineUpTrips_45 : decode cX3_lineUpTrips 45 = .ok (.iload 7, 2) := by decide +kernel
theorem dX3_lineUpTrips_47 : decode cX3_lineUpTrips 47 = .ok (.dload 5, 2) := by decide +kernel
theorem dX3_lineUpTrips_49 : decode cX3_lineUpTrips 49 = .ok (.dload 8, 2) := by decide +kernel
theorem dX3_lineUpTrips_51 : decode cX3_lineUpTrips 51 = .ok (.dadd, 1) := by decide +kernel
theorem dX3_lineUpTrips_52 : decode cX3_lineUpTrips 52 = .ok (.dastore, 1) := by decide +kernel
theorem dX3_lineUpTrips_53 : decode cX3_lineUpTrips 53 = .ok (.aload_n 0, 1) := by decide +kernel
theorem dX3_lineUpTrips_54 : decode cX3_lineUpTrips 54 = .ok (.iload 7, 2) := by decide +kernel
theorem dX3_lineUpTrips_56 : decode cX3_lineUpTrips 56 = .ok (.invokevirtual 106, 3) := by decide +kernel
theorem dX3_lineUpTrips_59 : decode cX3_lineUpTrips 59 = .ok (.iinc 7 (-1), 3) := by decide +kernel
theorem dX3_lineUpTrips_62 : decode cX3_lineUpTrips 62 = .ok (.goto (-53), 3) := by decide +kernel
theorem dX3_lineUpTrips_65 : decode cX3_lineUpTrips 65 = .ok (.return_, 1) := by decide +kernel
def tX3_lineUpTrips_0 : Tb := [(0, .inl (f_aload 0, 1)), (1, .inl (f_ci (0), 2)), (2, .inl (f_putI 3 1, 5)), (5, .inl (f_ci (11), 7)), (7, .inl (f_istore 10 7, 9)), (9, .inl (f_iload 7, 11)), (11, .inr (.inl (b_if_lt, 65, 14))), (14, .inl (f_iload 2, 15)), (15, .inl (f_iload 7, 17)), (17, .inl (f_ishr, 18)), (18, .inl (f_ci (1), 19)), (19, .inl (f_iand, 20)), (20, .inr (.inl (b_if_eq, 59, 23))), (23, .inl (f_aload 1, 24)), (24, .inl (f_iload 7, 26)), (26, .inl (f_dload 3, 27)), (27, .inr (.inr (.inl (13, 30, 3, mX2_timeFor)))), (30, .inl (f_dstore 10 8, 32)), (32, .inl (f_dload 8, 34)), (34, .inr (.inr (.inl (14, 37, 0, mX6_infinity)))), (37, .inl (f_dcmpg, 38)), (38, .inr (.inl (b_if_ge, 59, 41))), (41, .inl (f_aload 0, 42)), (42, .inl (f_get 3 2, 45)), (45, .inl (f_iload 7, 47)), (47, .inl (f_dload 5, 49)), (49, .inl (f_dload 8, 51)), (51, .inr (.inr (.inl (7, 52, 0, m0)))), (52, .inr (.inr (.inl (5, 53, 0, m0)))), (53, .inl (f_aload 0, 54))]
set_option maxRecDepth 10000 in
theorem kX3_lineUpTrips_0 {X : Ctx} (h : sCx X mX3_lineUpTrips) : tab X mX3_lineUpTrips tX3_lineUpTrips_0 :=
  tab_cons (eS (st_aloadn h rfl dX3_lineUpTrips_0)) (
  tab_cons (eS (st_iconst h (by decide +kernel) dX3_lineUpTrips_1)) (
  tab_cons (eS (st_putI h (ci := 3) (k := 1) tyX3 tyX3_ok nmX3 rfl giX3 (by decide) rfl rfl (by decide +kernel) gw_85 dX3_lineUpTrips_2)) (
  tab_cons (eS (st_bipush h (by decide +kernel) dX3_lineUpTrips_5)) (
  tab_cons (eS (st_istore h dX3_lineUpTrips_7)) (
  tab_cons (eS (st_iload h dX3_lineUpTrips_9)) (
  tab_cons (eB (sb_if_lt h dX3_lineUpTrips_11 (by decide))) (
  tab_cons (eS (st_iloadn h rfl dX3_lineUpTrips_14)) (
  tab_cons (eS (st_iload h dX3_lineUpTrips_15)) (
  tab_cons (eS (st_ishr h dX3_lineUpTrips_17)) (
  tab_cons (eS (st_iconst h (by decide +kernel) dX3_lineUpTrips_18)) (
  tab_cons (eS (st_iand h dX3_lineUpTrips_19)) (
  tab_cons (eB (sb_if_eq h dX3_lineUpTrips_20 (by decide))) (
  tab_cons (eS (st_aloadn h rfl dX3_lineUpTrips_23)) (
  tab_cons (eS (st_iload h dX3_lineUpTrips_24)) (
  tab_cons (eS (st_dloadn h rfl dX3_lineUpTrips_26)) (
  tab_cons (eO (so_callV h gw_86 gw_87 gw_88 gw_32 gw_89 ⟨by decide +kernel, by decide +kernel, by decide +kernel, by decide +kernel⟩ ⟨by decide +kernel, by decide +kernel⟩ dX3_lineUpTrips_27)) (
  tab_cons (eS (st_dstore h dX3_lineUpTrips_30)) (
  tab_cons (eS (st_dload h dX3_lineUpTrips_32)) (
  tab_cons (eO (so_callN h (fun _ q => q.2.1) gw_26 gw_27 gw_28 ⟨by decide +kernel, by decide +kernel, by decide +kernel⟩ ⟨by decide +kernel, by decide +kernel⟩ dX3_lineUpTrips_34)) (
  tab_cons (eS (st_dcmpg h dX3_lineUpTrips_37)) (
  tab_cons (eB (sb_if_ge h dX3_lineUpTrips_38 (by decide))) (
  tab_cons (eS (st_aloadn h rfl dX3_lineUpTrips_41)) (
  tab_cons (eS (st_get h (ci := 3) (k := 2) rfl giX3 (by decide) rfl gw_90 dX3_lineUpTrips_42)) (
  tab_cons (eS (st_iload h dX3_lineUpTrips_45)) (
  tab_cons (eS (st_dload h dX3_lineUpTrips_47)) (
  tab_cons (eS (st_dload h dX3_lineUpTrips_49)) (
  tab_cons (eO (so_dadd h dX3_lineUpTrips_51)) (
  tab_cons (eO (so_dastore h dX3_lineUpTrips_52)) (
  tab_cons (eS (st_aloadn h rfl dX3_lineUpTrips_53)) (
  tab_nil))))))))))))))))))))))))))))))
def tX3_lineUpTrips_1 : Tb := [(54, .inl (f_iload 7, 56)), (56, .inr (.inr (.inl (13, 59, 2, mX3_lineUp)))), (59, .inl (f_iinc 10 7 (-1), 62)), (62, .inl (f_id, 9)), (65, .inr (.inr (.inl (18, 66, 0, m0))))]
set_option maxRecDepth 10000 in
theorem kX3_lineUpTrips_1 {X : Ctx} (h : sCx X mX3_lineUpTrips) : tab X mX3_lineUpTrips tX3_lineUpTrips_1 :=
  tab_cons (eS (st_iload h dX3_lineUpTrips_54)) (
  tab_cons (eO (so_callV h gw_91 gw_92 gw_93 gw_60 gw_94 ⟨by decide +kernel, by decide +kernel, by decide +kernel, by decide +kernel⟩ ⟨by decide +kernel, by decide +kernel⟩ dX3_lineUpTrips_56)) (
  tab_cons (eS (st_iinc h (by decide +kernel) dX3_lineUpTrips_59)) (
  tab_cons (eS (st_goto h dX3_lineUpTrips_62 (by decide))) (
  tab_cons (eO (so_return h dX3_lineUpTrips_65)) (
  tab_nil)))))
def tX3_lineUpTrips : Tb := tX3_lineUpTrips_0 ++ (tX3_lineUpTrips_1)
theorem kX3_lineUpTrips {X : Ctx} (h : sCx X mX3_lineUpTrips) : tab X mX3_lineUpTrips tX3_lineUpTrips := tab_app (kX3_lineUpTrips_0 h) (kX3_lineUpTrips_1 h)
theorem dX3_lineUp_0 : decode cX3_lineUp 0 = .ok (.aload_n 0, 1) := by decide +kernel
theorem dX3_lineUp_1 : decode cX3_lineUp 1 = .ok (.getfield 99, 3) := by decide +kernel
theorem dX3_lineUp_4 : decode cX3_lineUp 4 = .ok (.istore_n 2, 1) := by decide +kernel
theorem dX3_lineUp_5 : decode cX3_lineUp 5 = .ok (.iload_n 2, 1) := by decide +kernel
theorem dX3_lineUp_6 : decode cX3_lineUp 6 = .ok (.ifCond .le 46, 3) := by decide +kernel
theorem dX3_lineUp_9 : decode cX3_lineUp 9 = .ok (.aload_n 0, 1) := by decide +kernel
theorem dX3_lineUp_10 : decode cX3_lineUp 10 = .ok (.getfield 15, 3) := by decide +kernel
theorem dX3_lineUp_13 : decode cX3_lineUp 13 = .ok (.aload_n 0, 1) := by decide +kernel
theorem dX3_lineUp_14 : decode cX3_lineUp 14 = .ok (.getfield 9, 3) := by decide +kernel
theorem dX3_lineUp_17 : decode cX3_lineUp 17 = .ok (.iload_n 2, 1) := by decide +kernel
theorem dX3_lineUp_18 : decode cX3_lineUp 18 = .ok (.iconst 1, 1) := by decide +kernel
theorem dX3_lineUp_19 : decode cX3_lineUp 19 = .ok (.isub, 1) := by decide +kernel
theorem dX3_lineUp_20 : decode cX3_lineUp 20 = .ok (.iaload, 1) := by decide +kernel
theorem dX3_lineUp_21 : decode cX3_lineUp 21 = .ok (.daload, 1) := by decide +kernel
theorem dX3_lineUp_22 : decode cX3_lineUp 22 = .ok (.aload_n 0, 1) := by decide +kernel
theorem dX3_lineUp_23 : decode cX3_lineUp 23 = .ok (.getfield 15, 3) := by decide +kernel
theorem dX3_lineUp_26 : decode cX3_lineUp 26 = .ok (.iload_n 1, 1) := by decide +kernel
theorem dX3_lineUp_27 : decode cX3_lineUp 27 = .ok (.daload, 1) := by decide +kernel
theorem dX3_lineUp_28 : decode cX3_lineUp 28 = .ok (.dcmp .l, 1) := by decide +kernel
theorem dX3_lineUp_29 : decode cX3_lineUp 29 = .ok (.ifCond .le 23, 3) := by decide +kernel
theorem dX3_lineUp_32 : decode cX3_lineUp 32 = .ok (.aload_n 0, 1) := by decide +kernel
theorem dX3_lineUp_33 : decode cX3_lineUp 33 = .ok (.getfield 9, 3) := by decide +kernel
theorem dX3_lineUp_36 : decode cX3_lineUp 36 = .ok (.iload_n 2, 1) := by decide +kernel
theorem dX3_lineUp_37 : decode cX3_lineUp 37 = .ok (.aload_n 0, 1) := by decide +kernel
theorem dX3_lineUp_38 : decode cX3_lineUp 38 = .ok (.getfield 9, 3) := by decide +kernel
theorem dX3_lineUp_41 : decode cX3_lineUp 41 = .ok (.iload_n 2, 1) := by decide +kernel
theorem dX3_lineUp_42 : decode cX3_lineUp 42 = .ok (.iconst 1, 1) := by decide +kernel
theorem dX3_lineUp_43 : decode cX3_lineUp 43 = .ok (.isub, 1) := by decide +kernel
theorem dX3_lineUp_44 : decode cX3_lineUp 44 = .ok (.iaload, 1) := by decide +kernel
theorem dX3_lineUp_45 : decode cX3_lineUp 45 = .ok (.iastore, 1) := by decide +kernel
theorem dX3_lineUp_46 : decode cX3_lineUp 46 = .ok (.iinc 2 (-1), 3) := by decide +kernel
theorem dX3_lineUp_49 : decode cX3_lineUp 49 = .ok (.goto (-44), 3) := by decide +kernel
theorem dX3_lineUp_52 : decode cX3_lineUp 52 = .ok (.aload_n 0, 1) := by decide +kernel
theorem dX3_lineUp_53 : decode cX3_lineUp 53 = .ok (.getfield 9, 3) := by decide +kernel
theorem dX3_lineUp_56 : decode cX3_lineUp 56 = .ok (.iload_n 2, 1) := by decide +kernel
theorem dX3_lineUp_57 : decode cX3_lineUp 57 = .ok (.iload_n 1, 1) := by decide +kernel
theorem dX3_lineUp_58 : decode cX3_lineUp 58 = .ok (.iastore, 1) := by decide +kernel
theorem dX3_lineUp_59 : decode cX3_lineUp 59 = .ok (.aload_n 0, 1) := by decide +kernel
theorem dX3_lineUp_60 : decode cX3_lineUp 60 = .ok (.dup, 1) := by decide +kernel
theorem dX3_lineUp_61 : decode cX3_lineUp 61 = .ok (.getfield 99, 3) := by decide +kernel
theorem dX3_lineUp_64 : decode cX3_lineUp 64 = .ok (.iconst 1, 1) := by decide +kernel
theorem dX3_lineUp_65 : decode cX3_lineUp 65 = .ok (.iadd, 1) := by decide +kernel
theorem dX3_lineUp_66 : decode cX3_lineUp 66 = .ok (.putfield 99, 3) := by decide +kernel
theorem dX3_lineUp_69 : decode cX3_lineUp 69 = .ok (.return_, 1) := by decide +kernel
def tX3_lineUp_0 : Tb := [(0, .inl (f_aload 0, 1)), (1, .inl (f_get 3 1, 4)), (4, .inl (f_istore 3 2, 5)), (5, .inl (f_iload 2, 6)), (6, .inr (.inl (b_if_le, 52, 9))), (9, .inl (f_aload 0, 10)), (10, .inl (f_get 3 2, 13)), (13, .inl (f_aload 0, 14)), (14, .inl (f_get 3 0, 17)), (17, .inl (f_iload 2, 18)), (18, .inl (f_ci (1), 19)), (19, .inl (f_isub, 20)), (20, .inr (.inr (.inl (0, 21, 0, m0)))), (21, .inr (.inr (.inl (1, 22, 0, m0)))), (22, .inl (f_aload 0, 23)), (23, .inl (f_get 3 2, 26)), (26, .inl (f_iload 1, 27)), (27, .inr (.inr (.inl (1, 28, 0, m0)))), (28, .inl (f_dcmpl, 29)), (29, .inr (.inl (b_if_le, 52, 32))), (32, .inl (f_aload 0, 33)), (33, .inl (f_get 3 0, 36)), (36, .inl (f_iload 2, 37)), (37, .inl (f_aload 0, 38)), (38, .inl (f_get 3 0, 41)), (41, .inl (f_iload 2, 42)), (42, .inl (f_ci (1), 43)), (43, .inl (f_isub, 44)), (44, .inr (.inr (.inl (0, 45, 0, m0)))), (45, .inr (.inr (.inl (4, 46, 0, m0))))]
set_option maxRecDepth 10000 in
theorem kX3_lineUp_0 {X : Ctx} (h : sCx X mX3_lineUp) : tab X mX3_lineUp tX3_lineUp_0 :=
  tab_cons (eS (st_aloadn h rfl dX3_lineUp_0)) (
  tab_cons (eS (st_get h (ci := 3) (k := 1) rfl giX3 (by decide) rfl gw_85 dX3_lineUp_1)) (
  tab_cons (eS (st_istoren h rfl dX3_lineUp_4)) (
  tab_cons (eS (st_iloadn h rfl dX3_lineUp_5)) (
  tab_cons (eB (sb_if_le h dX3_lineUp_6 (by decide))) (
  tab_cons (eS (st_aloadn h rfl dX3_lineUp_9)) (
  tab_cons (eS (st_get h (ci := 3) (k := 2) rfl giX3 (by decide) rfl gw_90 dX3_lineUp_10)) (
  tab_cons (eS (st_aloadn h rfl dX3_lineUp_13)) (
  tab_cons (eS (st_get h (ci := 3) (k := 0) rfl giX3 (by decide) rfl gw_95 dX3_lineUp_14)) (
  tab_cons (eS (st_iloadn h rfl dX3_lineUp_17)) (
  tab_cons (eS (st_iconst h (by decide +kernel) dX3_lineUp_18)) (
  tab_cons (eS (st_isub h dX3_lineUp_19)) (
  tab_cons (eO (so_iaload h dX3_lineUp_20)) (
  tab_cons (eO (so_daload h dX3_lineUp_21)) (
  tab_cons (eS (st_aloadn h rfl dX3_lineUp_22)) (
  tab_cons (eS (st_get h (ci := 3) (k := 2) rfl giX3 (by decide) rfl gw_90 dX3_lineUp_23)) (
  tab_cons (eS (st_iloadn h rfl dX3_lineUp_26)) (
  tab_cons (eO (so_daload h dX3_lineUp_27)) (
  tab_cons (eS (st_dcmpl h dX3_lineUp_28)) (
  tab_cons (eB (sb_if_le h dX3_lineUp_29 (by decide))) (
  tab_cons (eS (st_aloadn h rfl dX3_lineUp_32)) (
  tab_cons (eS (st_get h (ci := 3) (k := 0) rfl giX3 (by decide) rfl gw_95 dX3_lineUp_33)) (
  tab_cons (eS (st_iloadn h rfl dX3_lineUp_36)) (
  tab_cons (eS (st_aloadn h rfl dX3_lineUp_37)) (
  tab_cons (eS (st_get h (ci := 3) (k := 0) rfl giX3 (by decide) rfl gw_95 dX3_lineUp_38)) (
  tab_cons (eS (st_iloadn h rfl dX3_lineUp_41)) (
  tab_cons (eS (st_iconst h (by decide +kernel) dX3_lineUp_42)) (
  tab_cons (eS (st_isub h dX3_lineUp_43)) (
  tab_cons (eO (so_iaload h dX3_lineUp_44)) (
  tab_cons (eO (so_iastore h dX3_lineUp_45)) (
  tab_nil))))))))))))))))))))))))))))))
def tX3_lineUp_1 : Tb := [(46, .inl (f_iinc 3 2 (-1), 49)), (49, .inl (f_id, 5)), (52, .inl (f_aload 0, 53)), (53, .inl (f_get 3 0, 56)), (56, .inl (f_iload 2, 57)), (57, .inl (f_iload 1, 58)), (58, .inr (.inr (.inl (4, 59, 0, m0)))), (59, .inl (f_aload 0, 60)), (60, .inl (f_dup, 61)), (61, .inl (f_get 3 1, 64)), (64, .inl (f_ci (1), 65)), (65, .inl (f_iadd, 66)), (66, .inl (f_putI 3 1, 69)), (69, .inr (.inr (.inl (18, 70, 0, m0))))]
set_option maxRecDepth 10000 in
theorem kX3_lineUp_1 {X : Ctx} (h : sCx X mX3_lineUp) : tab X mX3_lineUp tX3_lineUp_1 :=
  tab_cons (eS (st_iinc h (by decide +kernel) dX3_lineUp_46)) (
  tab_cons (eS (st_goto h dX3_lineUp_49 (by decide))) (
  tab_cons (eS (st_aloadn h rfl dX3_lineUp_52)) (
  tab_cons (eS (st_get h (ci := 3) (k := 0) rfl giX3 (by decide) rfl gw_95 dX3_lineUp_53)) (
  tab_cons (eS (st_iloadn h rfl dX3_lineUp_56)) (
  tab_cons (eS (st_iloadn h rfl dX3_lineUp_57)) (
  tab_cons (eO (so_iastore h dX3_lineUp_58)) (
  tab_cons (eS (st_aloadn h rfl dX3_lineUp_59)) (
  tab_cons (eS (st_dup h dX3_lineUp_60)) (
  tab_cons (eS (st_get h (ci := 3) (k := 1) rfl giX3 (by decide) rfl gw_85 dX3_lineUp_61)) (
  tab_cons (eS (st_iconst h (by decide +kernel) dX3_lineUp_64)) (
  tab_cons (eS (st_iadd h dX3_lineUp_65)) (
  tab_cons (eS (st_putI h (ci := 3) (k := 1) tyX3 tyX3_ok nmX3 rfl giX3 (by decide) rfl rfl (by decide +kernel) gw_85 dX3_lineUp_66)) (
  tab_cons (eO (so_return h dX3_lineUp_69)) (
  tab_nil))))))))))))))
def tX3_lineUp : Tb := tX3_lineUp_0 ++ (tX3_lineUp_1)
theorem kX3_lineUp {X : Ctx} (h : sCx X mX3_lineUp) : tab X mX3_lineUp tX3_lineUp := tab_app (kX3_lineUp_0 h) (kX3_lineUp_1 h)
theorem dX3_takeTrips_0 : decode cX3_takeTrips 0 = .ok (.aload_n 0, 1) := by decide +kernel
theorem dX3_takeTrips_1 : decode cX3_takeTrips 1 = .ok (.iconst 0, 1) := by decide +kernel
theorem dX3_takeTrips_2 : decode cX3_takeTrips 2 = .ok (.putfield 77, 3) := by decide +kernel
theorem dX3_takeTrips_5 : decode cX3_takeTrips 5 = .ok (.invokestatic 80, 3) := by decide +kernel
theorem dX3_takeTrips_8 : decode cX3_takeTrips 8 = .ok (.dstore_n 3, 1) := by decide +kernel
theorem dX3_takeTrips_9 : decode cX3_takeTrips 9 = .ok (.iconst 0, 1) := by decide +kernel
theorem dX3_takeTrips_10 : decode cX3_takeTrips 10 = .ok (.istore 5, 2) := by decide +kernel
theorem dX3_takeTrips_12 : decode cX3_takeTrips 12 = .ok (.iload 5, 2) := by decide +kernel
theorem dX3_takeTrips_14 : decode cX3_takeTrips 14 = .ok (.aload_n 0, 1) := by decide +kernel
theorem dX3_takeTrips_15 : decode cX3_takeTrips 15 = .ok (.getfield 99, 3) := by decide +kernel
theorem dX3_takeTrips_18 : decode cX3_takeTrips 18 = .ok (.if_icmp .ge 107, 3) := by decide +kernel
theorem dX3_takeTrips_21 : decode cX3_takeTrips 21 = .ok (.aload_n 0, 1) := by decide +kernel
theorem dX3_takeTrips_22 : decode cX3_takeTrips 22 = .ok (.getfield 15, 3) := by decide +kernel
theorem dX3_takeTrips_25 : decode cX3_takeTrips 25 = .ok (.aload_n 0, 1) := by decide +kernel
theorem dX3_takeTrips_26 : decode cX3_takeTrips 26 = .ok (.getfield 9, 3) := by decide +kernel
theorem dX3_takeTrips_29 : decode cX3_takeTrips 29 = .ok (.iload 5, 2) := by decide +kernel
theorem dX3_takeTrips_31 : decode cX3_takeTrips 31 = .ok (.iaload, 1) := by decide +kernel
theorem dX3_takeTrips_32 : decode cX3_takeTrips 32 = .ok (.daload, 1) := by decide +kernel
theorem dX3_takeTrips_33 : decode cX3_takeTrips 33 = .ok (.dload_n 3, 1) := by decide +kernel
theorem dX3_takeTrips_34 : decode cX3_takeTrips 34 = .ok (.dcmp .g, 1) := by decide +kernel
theorem dX3_takeTrips_35 : decode cX3_takeTrips 35 = .ok (.ifCond .ge 90, 3) := by decide +kernel
theorem dX3_takeTrips_38 : decode cX3_takeTrips 38 = .ok (.aload_n 0, 1) := by decide +kernel
theorem dX3_takeTrips_39 : decode cX3_takeTrips 39 = .ok (.getfield 9, 3) := by decide +kernel
theorem dX3_takeTrips_42 : decode cX3_takeTrips 42 = .ok (.iload 5, 2) := by decide +kernel
theorem dX3_takeTrips_44 : decode cX3_takeTrips 44 = .ok (.iaload, 1) := by decide +kernel
theorem dX3_takeTrips_45 : decode cX3_takeTrips 45 = .ok (.istore 6, 2) := by decide +kernel
theorem dX3_takeTrips_47 : decode cX3_takeTrips 47 = .ok (.aload_n 2, 1) := by decide +kernel
theorem dX3_takeTrips_48 : decode cX3_takeTrips 48 = .ok (.iconst 0, 1) := by decide +kernel
theorem dX3_takeTrips_49 : decode cX3_takeTrips 49 = .ok (.iload 6, 2) := by decide +kernel
theorem dX3_takeTrips_51 : decode cX3_takeTrips 51 = .ok (.aload_n 0, 1) := by decide +kernel
theorem dX3_takeTrips_52 : decode cX3_takeTrips 52 = .ok (.getfield 15, 3) := by decide +kernel
theorem dX3_takeTrips_55 : decode cX3_takeTrips 55 = .ok (.iload 6, 2) := by decide +kernel
theorem dX3_takeTrips_57 : decode cX3_takeTrips 57 = .ok (.daload, 1) := by decide +kernel
theorem dX3_takeTrips_58 : decode cX3_takeTrips 58 = .ok (.invokevirtual 110, 3) := by decide +kernel
theorem dX3_takeTrips_61 : decode cX3_takeTrips 61 = .ok (.aload_n 1, 1) := by decide +kernel
theorem dX3_takeTrips_62 : decode cX3_takeTrips 62 = .ok (.iload 6, 2) := by decide +kernel
theorem dX3_takeTrips_64 : decode cX3_takeTrips 64 = .ok (.invokevirtual 114, 3) := by decide +kernel
theorem dX3_takeTrips_67 : decode cX3_takeTrips 67 = .ok (.ifCond .eq 20, 3) := by decide +kernel
theorem dX3_takeTrips_70 : decode cX3_takeTrips 70 = .ok (.aload_n 2, 1) := by decide +kernel
theorem dX3_takeTrips_71 : decode cX3_takeTrips 71 = .ok (.iconst 1, 1) := by decide +kernel
theorem dX3_takeTrips_72 : decode cX3_takeTrips 72 = .ok (.iload 6, 2) := by decide +kernel
theorem dX3_takeTrips_74 : decode cX3_takeTrips 74 = .ok (.aload_n 0, 1) := by decide +kernel
theorem dX3_takeTrips_75 : decode cX3_takeTrips 75 = .ok (.getfield 15, 3) := by decide +kernel
theorem dX3_takeTrips_78 : decode cX3_takeTrips 78 = .ok (.iload 6, 2) := by decide +kernel
theorem dX3_takeTrips_80 : decode cX3_takeTrips 80 = .ok (.daload, 1) := by decide +kernel
theorem dX3_takeTrips_81 : decode cX3_takeTrips 81 = .ok (.invokevirtual 110, 3) := by decide +kernel
theorem dX3_takeTrips_84 : decode cX3_takeTrips 84 = .ok (.goto 35, 3) := by decide +kernel
theorem dX3_takeTrips_87 : decode cX3_takeTrips 87 = .ok (.aload_n 0, 1) := by decide +kernel
theorem dX3_takeTrips_88 : decode cX3_takeTrips 88 = .ok (.getfield 19, 3) := by decide +kernel
theorem dX3_takeTrips_91 : decode cX3_takeTrips 91 = .ok (.aload_n 0, 1) := by decide +kernel
theorem dX3_takeTrips_92 : decode cX3_takeTrips 92 = .ok (.getfield 77, 3) := by decide +kernel
theorem dX3_takeTrips_95 : decode cX3_takeTrips 95 = .ok (.iload 6, 2) := by decide +kernel
theorem dX3_takeTrips_97 : decode cX3_takeTrips 97 = .ok (.iastore, 1) := by decide +kernel
theorem dX3_takeTrips_98 : decode cX3_takeTrips 98 = .ok (.aload_n 0, 1) := by decide +kernel
theorem dX3_takeTrips_99 : decode cX3_takeTrips 99 = .ok (.dup, 1) := by decide +kernel
theorem dX3_takeTrips_100 : decode cX3_takeTrips 100 = .ok (.getfield 77, 3) := by decide +kernel
theorem dX3_takeTrips_103 : decode cX3_takeTrips 103 = .ok (.iconst 1, 1) := by decide +kernel
theorem dX3_takeTrips_104 : decode cX3_takeTrips 104 = .ok (.iadd, 1) := by decide +kernel
theorem dX3_takeTrips_105 : decode cX3_takeTrips 105 = .ok (.putfield 77, 3) := by decide +kernel
theorem dX3_takeTrips_108 : decode cX3_takeTrips 108 = .ok (.aload_n 0, 1) := by decide +kernel
theorem dX3_takeTrips_109 : decode cX3_takeTrips 109 = .ok (.aload_n 0, 1) := by decide +kernel
theorem dX3_takeTrips_110 : decode cX3_takeTrips 110 = .ok (.getfield 19, 3) := by decide +kernel
theorem dX3_takeTrips_113 : decode cX3_takeTrips 113 = .ok (.iconst 0, 1) := by decide +kernel
theorem dX3_takeTrips_114 : decode cX3_takeTrips 114 = .ok (.iaload, 1) := by decide +kernel
theorem dX3_takeTrips_115 : decode cX3_takeTrips 115 = .ok (.invokevirtual 88, 3) := by decide +kernel
theorem dX3_takeTrips_118 : decode cX3_takeTrips 118 = .ok (.dstore_n 3, 1) := by decide +kernel
theorem dX3_takeTrips_119 : decode cX3_takeTrips 119 = .ok (.iinc 5 1, 3) := by decide +kernel
theorem dX3_takeTrips_122 : decode cX3_takeTrips 122 = .ok (.goto (-110), 3) := by decide +kernel
theorem dX3_takeTrips_125 : decode cX3_takeTrips 125 = .ok (.return_, 1) := by decide +kernel
def tX3_takeTrips_0 : Tb := [(0, .inl (f_aload 0, 1)), (1, .inl (f_ci (0), 2)), (2, .inl (f_putI 3 4, 5)), (5, .inr (.inr (.inl (14, 8, 0, mX6_infinity)))), (8, .inl (f_dstore 7 3, 9)), (9, .inl (f_ci (0), 10)), (10, .inl (f_istore 7 5, 12)), (12, .inl (f_iload 5, 14)), (14, .inl (f_aload 0, 15)), (15, .inl (f_get 3 1, 18)), (18, .inr (.inl (b_icmp_ge, 125, 21))), (21, .inl (f_aload 0, 22)), (22, .inl (f_get 3 2, 25)), (25, .inl (f_aload 0, 26)), (26, .inl (f_get 3 0, 29)), (29, .inl (f_iload 5, 31)), (31, .inr (.inr (.inl (0, 32, 0, m0)))), (32, .inr (.inr (.inl (1, 33, 0, m0)))), (33, .inl (f_dload 3, 34)), (34, .inl (f_dcmpg, 35)), (35, .inr (.inl (b_if_ge, 125, 38))), (38, .inl (f_aload 0, 39)), (39, .inl (f_get 3 0, 42)), (42, .inl (f_iload 5, 44)), (44, .inr (.inr (.inl (0, 45, 0, m0)))), (45, .inl (f_istore 7 6, 47)), (47, .inl (f_aload 2, 48)), (48, .inl (f_ci (0), 49)), (49, .inl (f_iload 6, 51)), (51, .inl (f_aload 0, 52))]
set_option maxRecDepth 10000 in
theorem kX3_takeTrips_0 {X : Ctx} (h : sCx X mX3_takeTrips) : tab X mX3_takeTrips tX3_takeTrips_0 :=
  tab_cons (eS (st_aloadn h rfl dX3_takeTrips_0)) (
  tab_cons (eS (st_iconst h (by decide +kernel) dX3_takeTrips_1)) (
  tab_cons (eS (st_putI h (ci := 3) (k := 4) tyX3 tyX3_ok nmX3 rfl giX3 (by decide) rfl rfl (by decide +kernel) gw_70 dX3_takeTrips_2)) (
  tab_cons (eO (so_callN h (fun _ q => q.2.1) gw_26 gw_27 gw_28 ⟨by decide +kernel, by decide +kernel, by decide +kernel⟩ ⟨by decide +kernel, by decide +kernel⟩ dX3_takeTrips_5)) (
  tab_cons (eS (st_dstoren h rfl dX3_takeTrips_8)) (
  tab_cons (eS (st_iconst h (by decide +kernel) dX3_takeTrips_9)) (
  tab_cons (eS (st_istore h dX3_takeTrips_10)) (
  tab_cons (eS (st_iload h dX3_takeTrips_12)) (
  tab_cons (eS (st_aloadn h rfl dX3_takeTrips_14)) (
  tab_cons (eS (st_get h (ci := 3) (k := 1) rfl giX3 (by decide) rfl gw_85 dX3_takeTrips_15)) (
  tab_cons (eB (sb_icmp_ge h dX3_takeTrips_18 (by decide))) (
  tab_cons (eS (st_aloadn h rfl dX3_takeTrips_21)) (
  tab_cons (eS (st_get h (ci := 3) (k := 2) rfl giX3 (by decide) rfl gw_90 dX3_takeTrips_22)) (
  tab_cons (eS (st_aloadn h rfl dX3_takeTrips_25)) (
  tab_cons (eS (st_get h (ci := 3) (k := 0) rfl giX3 (by decide) rfl gw_95 dX3_takeTrips_26)) (
  tab_cons (eS (st_iload h dX3_takeTrips_29)) (
  tab_cons (eO (so_iaload h dX3_takeTrips_31)) (
  tab_cons (eO (so_daload h dX3_takeTrips_32)) (
  tab_cons (eS (st_dloadn h rfl dX3_takeTrips_33)) (
  tab_cons (eS (st_dcmpg h dX3_takeTrips_34)) (
  tab_cons (eB (sb_if_ge h dX3_takeTrips_35 (by decide))) (
  tab_cons (eS (st_aloadn h rfl dX3_takeTrips_38)) (
  tab_cons (eS (st_get h (ci := 3) (k := 0) rfl giX3 (by decide) rfl gw_95 dX3_takeTrips_39)) (
  tab_cons (eS (st_iload h dX3_takeTrips_42)) (
  tab_cons (eO (so_iaload h dX3_takeTrips_44)) (
  tab_cons (eS (st_istore h dX3_takeTrips_45)) (
  tab_cons (eS (st_aloadn h rfl dX3_takeTrips_47)) (
  tab_cons (eS (st_iconst h (by decide +kernel) dX3_takeTrips_48)) (
  tab_cons (eS (st_iload h dX3_takeTrips_49)) (
  tab_cons (eS (st_aloadn h rfl dX3_takeTrips_51)) (
  tab_nil))))))))))))))))))))))))))))))
def tX3_takeTrips_1 : Tb := [(52, .inl (f_get 3 2, 55)), (55, .inl (f_iload 6, 57)), (57, .inr (.inr (.inl (1, 58, 0, m0)))), (58, .inr (.inr (.inl (13, 61, 4, mX0_put)))), (61, .inl (f_aload 1, 62)), (62, .inl (f_iload 6, 64)), (64, .inr (.inr (.inl (13, 67, 2, mX2_isStuck)))), (67, .inr (.inl (b_if_eq, 87, 70))), (70, .inl (f_aload 2, 71)), (71, .inl (f_ci (1), 72)), (72, .inl (f_iload 6, 74)), (74, .inl (f_aload 0, 75)), (75, .inl (f_get 3 2, 78)), (78, .inl (f_iload 6, 80)), (80, .inr (.inr (.inl (1, 81, 0, m0)))), (81, .inr (.inr (.inl (13, 84, 4, mX0_put)))), (84, .inl (f_id, 119)), (87, .inl (f_aload 0, 88)), (88, .inl (f_get 3 3, 91)), (91, .inl (f_aload 0, 92)), (92, .inl (f_get 3 4, 95)), (95, .inl (f_iload 6, 97)), (97, .inr (.inr (.inl (4, 98, 0, m0)))), (98, .inl (f_aload 0, 99)), (99, .inl (f_dup, 100)), (100, .inl (f_get 3 4, 103)), (103, .inl (f_ci (1), 104)), (104, .inl (f_iadd, 105)), (105, .inl (f_putI 3 4, 108)), (108, .inl (f_aload 0, 109))]
set_option maxRecDepth 10000 in
theorem kX3_takeTrips_1 {X : Ctx} (h : sCx X mX3_takeTrips) : tab X mX3_takeTrips tX3_takeTrips_1 :=
  tab_cons (eS (st_get h (ci := 3) (k := 2) rfl giX3 (by decide) rfl gw_90 dX3_takeTrips_52)) (
  tab_cons (eS (st_iload h dX3_takeTrips_55)) (
  tab_cons (eO (so_daload h dX3_takeTrips_57)) (
  tab_cons (eO (so_callV h gw_96 gw_97 gw_98 gw_46 gw_99 ⟨by decide +kernel, by decide +kernel, by decide +kernel, by decide +kernel⟩ ⟨by decide +kernel, by decide +kernel⟩ dX3_takeTrips_58)) (
  tab_cons (eS (st_aloadn h rfl dX3_takeTrips_61)) (
  tab_cons (eS (st_iload h dX3_takeTrips_62)) (
  tab_cons (eO (so_callV h gw_100 gw_101 gw_102 gw_32 gw_103 ⟨by decide +kernel, by decide +kernel, by decide +kernel, by decide +kernel⟩ ⟨by decide +kernel, by decide +kernel⟩ dX3_takeTrips_64)) (
  tab_cons (eB (sb_if_eq h dX3_takeTrips_67 (by decide))) (
  tab_cons (eS (st_aloadn h rfl dX3_takeTrips_70)) (
  tab_cons (eS (st_iconst h (by decide +kernel) dX3_takeTrips_71)) (
  tab_cons (eS (st_iload h dX3_takeTrips_72)) (
  tab_cons (eS (st_aloadn h rfl dX3_takeTrips_74)) (
  tab_cons (eS (st_get h (ci := 3) (k := 2) rfl giX3 (by decide) rfl gw_90 dX3_takeTrips_75)) (
  tab_cons (eS (st_iload h dX3_takeTrips_78)) (
  tab_cons (eO (so_daload h dX3_takeTrips_80)) (
  tab_cons (eO (so_callV h gw_96 gw_97 gw_98 gw_46 gw_99 ⟨by decide +kernel, by decide +kernel, by decide +kernel, by decide +kernel⟩ ⟨by decide +kernel, by decide +kernel⟩ dX3_takeTrips_81)) (
  tab_cons (eS (st_goto h dX3_takeTrips_84 (by decide))) (
  tab_cons (eS (st_aloadn h rfl dX3_takeTrips_87)) (
  tab_cons (eS (st_get h (ci := 3) (k := 3) rfl giX3 (by decide) rfl gw_72 dX3_takeTrips_88)) (
  tab_cons (eS (st_aloadn h rfl dX3_takeTrips_91)) (
  tab_cons (eS (st_get h (ci := 3) (k := 4) rfl giX3 (by decide) rfl gw_70 dX3_takeTrips_92)) (
  tab_cons (eS (st_iload h dX3_takeTrips_95)) (
  tab_cons (eO (so_iastore h dX3_takeTrips_97)) (
  tab_cons (eS (st_aloadn h rfl dX3_takeTrips_98)) (
  tab_cons (eS (st_dup h dX3_takeTrips_99)) (
  tab_cons (eS (st_get h (ci := 3) (k := 4) rfl giX3 (by decide) rfl gw_70 dX3_takeTrips_100)) (
  tab_cons (eS (st_iconst h (by decide +kernel) dX3_takeTrips_103)) (
  tab_cons (eS (st_iadd h dX3_takeTrips_104)) (
  tab_cons (eS (st_putI h (ci := 3) (k := 4) tyX3 tyX3_ok nmX3 rfl giX3 (by decide) rfl rfl (by decide +kernel) gw_70 dX3_takeTrips_105)) (
  tab_cons (eS (st_aloadn h rfl dX3_takeTrips_108)) (
  tab_nil))))))))))))))))))))))))))))))
def tX3_takeTrips_2 : Tb := [(109, .inl (f_aload 0, 110)), (110, .inl (f_get 3 3, 113)), (113, .inl (f_ci (0), 114)), (114, .inr (.inr (.inl (0, 115, 0, m0)))), (115, .inr (.inr (.inl (13, 118, 2, mX3_openingTime)))), (118, .inl (f_dstore 7 3, 119)), (119, .inl (f_iinc 7 5 (1), 122)), (122, .inl (f_id, 12)), (125, .inr (.inr (.inl (18, 126, 0, m0))))]
set_option maxRecDepth 10000 in
theorem kX3_takeTrips_2 {X : Ctx} (h : sCx X mX3_takeTrips) : tab X mX3_takeTrips tX3_takeTrips_2 :=
  tab_cons (eS (st_aloadn h rfl dX3_takeTrips_109)) (
  tab_cons (eS (st_get h (ci := 3) (k := 3) rfl giX3 (by decide) rfl gw_72 dX3_takeTrips_110)) (
  tab_cons (eS (st_iconst h (by decide +kernel) dX3_takeTrips_113)) (
  tab_cons (eO (so_iaload h dX3_takeTrips_114)) (
  tab_cons (eO (so_callV h gw_73 gw_74 gw_75 gw_60 gw_76 ⟨by decide +kernel, by decide +kernel, by decide +kernel, by decide +kernel⟩ ⟨by decide +kernel, by decide +kernel⟩ dX3_takeTrips_115)) (
  tab_cons (eS (st_dstoren h rfl dX3_takeTrips_118)) (
  tab_cons (eS (st_iinc h (by decide +kernel) dX3_takeTrips_119)) (
  tab_cons (eS (st_goto h dX3_takeTrips_122 (by decide))) (
  tab_cons (eO (so_return h dX3_takeTrips_125)) (
  tab_nil)))))))))
def tX3_takeTrips : Tb := tX3_takeTrips_0 ++ (tX3_takeTrips_1 ++ (tX3_takeTrips_2))
theorem kX3_takeTrips {X : Ctx} (h : sCx X mX3_takeTrips) : tab X mX3_takeTrips tX3_takeTrips := tab_app (kX3_takeTrips_0 h) (tab_app (kX3_takeTrips_1 h) (kX3_takeTrips_2 h))
theorem dX3_openingTime_0 : decode cX3_openingTime 0 = .ok (.aload_n 0, 1) := by decide +kernel
theorem dX3_openingTime_1 : decode cX3_openingTime 1 = .ok (.getfield 15, 3) := by decide +kernel
theorem dX3_openingTime_4 : decode cX3_openingTime 4 = .ok (.iload_n 1, 1) := by decide +kernel
theorem dX3_openingTime_5 : decode cX3_openingTime 5 = .ok (.daload, 1) := by decide +kernel
theorem dX3_openingTime_6 : decode cX3_openingTime 6 = .ok (.ldc2_w 118, 3) := by decide +kernel
theorem dX3_openingTime_9 : decode cX3_openingTime 9 = .ok (.dadd, 1) := by decide +kernel
theorem dX3_openingTime_10 : decode cX3_openingTime 10 = .ok (.dreturn, 1) := by decide +kernel
def tX3_openingTime_0 : Tb := [(0, .inl (f_aload 0, 1)), (1, .inl (f_get 3 2, 4)), (4, .inl (f_iload 1, 5)), (5, .inr (.inr (.inl (1, 6, 0, m0)))), (6, .inl (f_cd 4588807732320345784, 9)), (9, .inr (.inr (.inl (7, 10, 0, m0)))), (10, .inr (.inr (.inl (16, 11, 0, m0))))]
set_option maxRecDepth 10000 in
theorem kX3_openingTime_0 {X : Ctx} (h : sCx X mX3_openingTime) : tab X mX3_openingTime tX3_openingTime_0 :=
  tab_cons (eS (st_aloadn h rfl dX3_openingTime_0)) (
  tab_cons (eS (st_get h (ci := 3) (k := 2) rfl giX3 (by decide) rfl gw_90 dX3_openingTime_1)) (
  tab_cons (eS (st_iloadn h rfl dX3_openingTime_4)) (
  tab_cons (eO (so_daload h dX3_openingTime_5)) (
  tab_cons (eS (st_ldc2d h gw_104 dX3_openingTime_6)) (
  tab_cons (eO (so_dadd h dX3_openingTime_9)) (
  tab_cons (eO (so_dreturn h dX3_openingTime_10)) (
  tab_nil)))))))
def tX3_openingTime : Tb := tX3_openingTime_0
theorem kX3_openingTime {X : Ctx} (h : sCx X mX3_openingTime) : tab X mX3_openingTime tX3_openingTime := kX3_openingTime_0 h
theorem dX3_openThem_0 : decode cX3_openThem 0 = .ok (.iconst 0, 1) := by decide +kernel
theorem dX3_openThem_1 : decode cX3_openThem 1 = .ok (.istore_n 3, 1) := by decide +kernel
theorem dX3_openThem_2 : decode cX3_openThem 2 = .ok (.iload_n 3, 1) := by decide +kernel
theorem dX3_openThem_3 : decode cX3_openThem 3 = .ok (.aload_n 0, 1) := by decide +kernel
theorem dX3_openThem_4 : decode cX3_openThem 4 = .ok (.getfield 77, 3) := by decide +kernel
theorem dX3_openThem_7 : decode cX3_openThem 7 = .ok (.if_icmp .ge 54, 3) := by decide +kernel
theorem dX3_openThem_10 : decode cX3_openThem 10 = .ok (.aload_n 0, 1) := by decide +kernel
theorem dX3_openThem_11 : decode cX3_openThem 11 = .ok (.getfield 19, 3) := by decide +kernel
theorem dX3_openThem_14 : decode cX3_openThem 14 = .ok (.iload_n 3, 1) := by decide +kernel
theorem dX3_openThem_15 : decode cX3_openThem 15 = .ok (.iaload, 1) := by decide +kernel
theorem dX3_openThem_16 : decode cX3_openThem 16 = .ok (.istore 4, 2) := by decide +kernel
theorem dX3_openThem_18 : decode cX3_openThem 18 = .ok (.aload_n 2, 1) := by decide +kernel
theorem dX3_openThem_19 : decode cX3_openThem 19 = .ok (.iconst 2, 1) := by decide +kernel
theorem dX3_openThem_20 : decode cX3_openThem 20 = .ok (.iload 4, 2) := by decide +kernel
theorem dX3_openThem_22 : decode cX3_openThem 22 = .ok (.aload_n 0, 1) := by decide +kernel
theorem dX3_openThem_23 : decode cX3_openThem 23 = .ok (.iload 4, 2) := by decide +kernel
theorem dX3_openThem_25 : decode cX3_openThem 25 = .ok (.invokevirtual 88, 3) := by decide +kernel
theorem dX3_openThem_28 : decode cX3_openThem 28 = .ok (.invokevirtual 110, 3) := by decide +kernel
theorem dX3_openThem_31 : decode cX3_openThem 31 = .ok (.aload_n 1, 1) := by decide +kernel
theorem dX3_openThem_32 : decode cX3_openThem 32 = .ok (.dup, 1) := by decide +kernel
theorem dX3_openThem_33 : decode cX3_openThem 33 = .ok (.getfield 59, 3) := by decide +kernel
theorem dX3_openThem_36 : decode cX3_openThem 36 = .ok (.iconst 1, 1) := by decide +kernel
theorem dX3_openThem_37 : decode cX3_openThem 37 = .ok (.iload 4, 2) := by decide +kernel
theorem dX3_openThem_39 : decode cX3_openThem 39 = .ok (.ishl, 1) := by decide +kernel
theorem dX3_openThem_40 : decode cX3_openThem 40 = .ok (.ior, 1) := by decide +kernel
theorem dX3_openThem_41 : decode cX3_openThem 41 = .ok (.putfield 59, 3) := by decide +kernel
theorem dX3_openThem_44 : decode cX3_openThem 44 = .ok (.aload_n 0, 1) := by decide +kernel
theorem dX3_openThem_45 : decode cX3_openThem 45 = .ok (.getfield 22, 3) := by decide +kernel
theorem dX3_openThem_48 : decode cX3_openThem 48 = .ok (.iload 4, 2) := by decide +kernel
theorem dX3_openThem_50 : decode cX3_openThem 50 = .ok (.dup2, 1) := by decide +kernel
theorem dX3_openThem_51 : decode cX3_openThem 51 = .ok (.iaload, 1) := by decide +kernel
theorem dX3_openThem_52 : decode cX3_openThem 52 = .ok (.iconst 1, 1) := by decide +kernel
theorem dX3_openThem_53 : decode cX3_openThem 53 = .ok (.iadd, 1) := by decide +kernel
theorem dX3_openThem_54 : decode cX3_openThem 54 = .ok (.iastore, 1) := by decide +kernel
theorem dX3_openThem_55 : decode cX3_openThem 55 = .ok (.iinc 3 1, 3) := by decide +kernel
theorem dX3_openThem_58 : decode cX3_openThem 58 = .ok (.goto (-56), 3) := by decide +kernel
theorem dX3_openThem_61 : decode cX3_openThem 61 = .ok (.return_, 1) := by decide +kernel
def tX3_openThem_0 : Tb := [(0, .inl (f_ci (0), 1)), (1, .inl (f_istore 5 3, 2)), (2, .inl (f_iload 3, 3)), (3, .inl (f_aload 0, 4)), (4, .inl (f_get 3 4, 7)), (7, .inr (.inl (b_icmp_ge, 61, 10))), (10, .inl (f_aload 0, 11)), (11, .inl (f_get 3 3, 14)), (14, .inl (f_iload 3, 15)), (15, .inr (.inr (.inl (0, 16, 0, m0)))), (16, .inl (f_istore 5 4, 18)), (18, .inl (f_aload 2, 19)), (19, .inl (f_ci (2), 20)), (20, .inl (f_iload 4, 22)), (22, .inl (f_aload 0, 23)), (23, .inl (f_iload 4, 25)), (25, .inr (.inr (.inl (13, 28, 2, mX3_openingTime)))), (28, .inr (.inr (.inl (13, 31, 4, mX0_put)))), (31, .inl (f_aload 1, 32)), (32, .inl (f_dup, 33)), (33, .inl (f_get 2 6, 36)), (36, .inl (f_ci (1), 37)), (37, .inl (f_iload 4, 39)), (39, .inl (f_ishl, 40)), (40, .inl (f_ior, 41)), (41, .inl (f_putI 2 6, 44)), (44, .inl (f_aload 0, 45)), (45, .inl (f_get 3 5, 48)), (48, .inl (f_iload 4, 50)), (50, .inl (f_dup2, 51))]
set_option maxRecDepth 10000 in
theorem kX3_openThem_0 {X : Ctx} (h : sCx X mX3_openThem) : tab X mX3_openThem tX3_openThem_0 :=
  tab_cons (eS (st_iconst h (by decide +kernel) dX3_openThem_0)) (
  tab_cons (eS (st_istoren h rfl dX3_openThem_1)) (
  tab_cons (eS (st_iloadn h rfl dX3_openThem_2)) (
  tab_cons (eS (st_aloadn h rfl dX3_openThem_3)) (
  tab_cons (eS (st_get h (ci := 3) (k := 4) rfl giX3 (by decide) rfl gw_70 dX3_openThem_4)) (
  tab_cons (eB (sb_icmp_ge h dX3_openThem_7 (by decide))) (
  tab_cons (eS (st_aloadn h rfl dX3_openThem_10)) (
  tab_cons (eS (st_get h (ci := 3) (k := 3) rfl giX3 (by decide) rfl gw_72 dX3_openThem_11)) (
  tab_cons (eS (st_iloadn h rfl dX3_openThem_14)) (
  tab_cons (eO (so_iaload h dX3_openThem_15)) (
  tab_cons (eS (st_istore h dX3_openThem_16)) (
  tab_cons (eS (st_aloadn h rfl dX3_openThem_18)) (
  tab_cons (eS (st_iconst h (by decide +kernel) dX3_openThem_19)) (
  tab_cons (eS (st_iload h dX3_openThem_20)) (
  tab_cons (eS (st_aloadn h rfl dX3_openThem_22)) (
  tab_cons (eS (st_iload h dX3_openThem_23)) (
  tab_cons (eO (so_callV h gw_73 gw_74 gw_75 gw_60 gw_76 ⟨by decide +kernel, by decide +kernel, by decide +kernel, by decide +kernel⟩ ⟨by decide +kernel, by decide +kernel⟩ dX3_openThem_25)) (
  tab_cons (eO (so_callV h gw_96 gw_97 gw_98 gw_46 gw_99 ⟨by decide +kernel, by decide +kernel, by decide +kernel, by decide +kernel⟩ ⟨by decide +kernel, by decide +kernel⟩ dX3_openThem_28)) (
  tab_cons (eS (st_aloadn h rfl dX3_openThem_31)) (
  tab_cons (eS (st_dup h dX3_openThem_32)) (
  tab_cons (eS (st_get h (ci := 2) (k := 6) rfl giX2 (by decide) rfl gw_56 dX3_openThem_33)) (
  tab_cons (eS (st_iconst h (by decide +kernel) dX3_openThem_36)) (
  tab_cons (eS (st_iload h dX3_openThem_37)) (
  tab_cons (eS (st_ishl h dX3_openThem_39)) (
  tab_cons (eS (st_ior h dX3_openThem_40)) (
  tab_cons (eS (st_putI h (ci := 2) (k := 6) tyX2 tyX2_ok nmX2 rfl giX2 (by decide) rfl rfl (by decide +kernel) gw_56 dX3_openThem_41)) (
  tab_cons (eS (st_aloadn h rfl dX3_openThem_44)) (
  tab_cons (eS (st_get h (ci := 3) (k := 5) rfl giX3 (by decide) rfl gw_37 dX3_openThem_45)) (
  tab_cons (eS (st_iload h dX3_openThem_48)) (
  tab_cons (eS (st_dup2 h dX3_openThem_50)) (
  tab_nil))))))))))))))))))))))))))))))
def tX3_openThem_1 : Tb := [(51, .inr (.inr (.inl (0, 52, 0, m0)))), (52, .inl (f_ci (1), 53)), (53, .inl (f_iadd, 54)), (54, .inr (.inr (.inl (4, 55, 0, m0)))), (55, .inl (f_iinc 5 3 (1), 58)), (58, .inl (f_id, 2)), (61, .inr (.inr (.inl (18, 62, 0, m0))))]
set_option maxRecDepth 10000 in
theorem kX3_openThem_1 {X : Ctx} (h : sCx X mX3_openThem) : tab X mX3_openThem tX3_openThem_1 :=
  tab_cons (eO (so_iaload h dX3_openThem_51)) (
  tab_cons (eS (st_iconst h (by decide +kernel) dX3_openThem_52)) (
  tab_cons (eS (st_iadd h dX3_openThem_53)) (
  tab_cons (eO (so_iastore h dX3_openThem_54)) (
  tab_cons (eS (st_iinc h (by decide +kernel) dX3_openThem_55)) (
  tab_cons (eS (st_goto h dX3_openThem_58 (by decide))) (
  tab_cons (eO (so_return h dX3_openThem_61)) (
  tab_nil)))))))
def tX3_openThem : Tb := tX3_openThem_0 ++ (tX3_openThem_1)
theorem kX3_openThem {X : Ctx} (h : sCx X mX3_openThem) : tab X mX3_openThem tX3_openThem := tab_app (kX3_openThem_0 h) (kX3_openThem_1 h)
theorem dX3_reclose_0 : decode cX3_reclose 0 = .ok (.aload_n 0, 1) := by decide +kernel
theorem dX3_reclose_1 : decode cX3_reclose 1 = .ok (.getfield 19, 3) := by decide +kernel
theorem dX3_reclose_4 : decode cX3_reclose 4 = .ok (.iconst 0, 1) := by decide +kernel
theorem dX3_reclose_5 : decode cX3_reclose 5 = .ok (.iaload, 1) := by decide +kernel
theorem dX3_reclose_6 : decode cX3_reclose 6 = .ok (.istore_n 3, 1) := by decide +kernel
theorem dX3_reclose_7 : decode cX3_reclose 7 = .ok (.iconst 1, 1) := by decide +kernel
theorem dX3_reclose_8 : decode cX3_reclose 8 = .ok (.istore 4, 2) := by decide +kernel
theorem dX3_reclose_10 : decode cX3_reclose 10 = .ok (.iload 4, 2) := by decide +kernel
theorem dX3_reclose_12 : decode cX3_reclose 12 = .ok (.aload_n 0, 1) := by decide +kernel
theorem dX3_reclose_13 : decode cX3_reclose 13 = .ok (.getfield 77, 3) := by decide +kernel
theorem dX3_reclose_16 : decode cX3_reclose 16 = .ok (.if_icmp .ge 21, 3) := by decide +kernel
theorem dX3_reclose_19 : decode cX3_reclose 19 = .ok (.iload_n 3, 1) := by decide +kernel
theorem dX3_reclose_20 : decode cX3_reclose 20 = .ok (.aload_n 0, 1) := by decide +kernel
theorem dX3_reclose_21 : decode cX3_reclose 21 = .ok (.getfield 19, 3) := by decide +kernel
theorem dX3_reclose_24 : decode cX3_reclose 24 = .ok (.iload 4, 2) := by decide +kernel
theorem dX3_reclose_26 : decode cX3_reclose 26 = .ok (.iaload, 1) := by decide +kernel
theorem dX3_reclose_27 : decode cX3_reclose 27 = .ok (.invokestatic 120, 3) := by decide +kernel
theorem dX3_reclose_30 : decode cX3_reclose 30 = .ok (.istore_n 3, 1) := by decide +kernel
theorem dX3_reclose_31 : decode cX3_reclose 31 = .ok (.iinc 4 1, 3) := by decide +kernel
theorem dX3_reclose_34 : decode cX3_reclose 34 = .ok (.goto (-24), 3) := by decide +kernel
theorem dX3_reclose_37 : decode cX3_reclose 37 = .ok (.aload_n 0, 1) := by decide +kernel
theorem dX3_reclose_38 : decode cX3_reclose 38 = .ok (.getfield 22, 3) := by decide +kernel
theorem dX3_reclose_41 : decode cX3_reclose 41 = .ok (.iload_n 3, 1) := by decide +kernel
theorem dX3_reclose_42 : decode cX3_reclose 42 = .ok (.iaload, 1) := by decide +kernel
theorem dX3_reclose_43 : decode cX3_reclose 43 = .ok (.aload_n 1, 1) := by decide +kernel
theorem dX3_reclose_44 : decode cX3_reclose 44 = .ok (.getfield 126, 3) := by decide +kernel
theorem dX3_reclose_47 : decode cX3_reclose 47 = .ok (.iload_n 3, 1) := by decide +kernel
theorem dX3_reclose_48 : decode cX3_reclose 48 = .ok (.iaload, 1) := by decide +kernel
theorem dX3_reclose_49 : decode cX3_reclose 49 = .ok (.if_icmp .le 7, 3) := by decide +kernel
theorem dX3_reclose_52 : decode cX3_reclose 52 = .ok (.invokestatic 80, 3) := by decide +kernel
theorem dX3_reclose_55 : decode cX3_reclose 55 = .ok (.dreturn, 1) := by decide +kernel
theorem dX3_reclose_56 : decode cX3_reclose 56 = .ok (.aload_n 0, 1) := by decide +kernel
theorem dX3_reclose_57 : decode cX3_reclose 57 = .ok (.iload_n 3, 1) := by decide +kernel
theorem dX3_reclose_58 : decode cX3_reclose 58 = .ok (.invokevirtual 88, 3) := by decide +kernel
theorem dX3_reclose_61 : decode cX3_reclose 61 = .ok (.ldc2_w 129, 3) := by decide +kernel
theorem dX3_reclose_64 : decode cX3_reclose 64 = .ok (.dadd, 1) := by decide +kernel
theorem dX3_reclose_65 : decode cX3_reclose 65 = .ok (.dstore 4, 2) := by decide +kernel
theorem dX3_reclose_67 : decode cX3_reclose 67 = .ok (.aload_n 2, 1) := by decide +kernel
theorem dX3_reclose_68 : decode cX3_reclose 68 = .ok (.iconst 3, 1) := by decide +kernel
theorem dX3_reclose_69 : decode cX3_reclose 69 = .ok (.iload_n 3, 1) := by decide +kernel
theorem dX3_reclose_70 : decode cX3_reclose 70 = .ok (.dload 4, 2) := by decide +kernel
theorem dX3_reclose_72 : decode cX3_reclose 72 = .ok (.invokevirtual 110, 3) := by decide +kernel
theorem dX3_reclose_75 : decode cX3_reclose 75 = .ok (.aload_n 1, 1) := by decide +kernel
theorem dX3_reclose_76 : decode cX3_reclose 76 = .ok (.dup, 1) := by decide +kernel
theorem dX3_reclose_77 : decode cX3_reclose 77 = .ok (.getfield 59, 3) := by decide +kernel
theorem dX3_reclose_80 : decode cX3_reclose 80 = .ok (.iconst 1, 1) := by decide +kernel
theorem dX3_reclose_81 : decode cX3_reclose 81 = .ok (.iload_n 3, 1) := by decide +kernel
theorem dX3_reclose_82 : decode cX3_reclose 82 = .ok (.ishl, 1) := by decide +kernel
theorem dX3_reclose_83 : decode cX3_reclose 83 = .ok (.iconst (-1), 1) := by decide +kernel
theorem dX3_reclose_84 : decode cX3_reclose 84 = .ok (.ixor, 1) := by decide +kernel
theorem dX3_reclose_85 : decode cX3_reclose 85 = .ok (.iand, 1) := by decide +kernel
theorem dX3_reclose_86 : decode cX3_reclose 86 = .ok (.putfield 59, 3) := by decide +kernel
theorem dX3_reclose_89 : decode cX3_reclose 89 = .ok (.dload 4, 2) := by decide +kernel
theorem dX3_reclose_91 : decode cX3_reclose 91 = .ok (.dreturn, 1) := by decide +kernel
def tX3_reclose_0 : Tb := [(0, .inl (f_aload 0, 1)), (1, .inl (f_get 3 3, 4)), (4, .inl (f_ci (0), 5)), (5, .inr (.inr (.inl (0, 6, 0, m0)))), (6, .inl (f_istore 6 3, 7)), (7, .inl (f_ci (1), 8)), (8, .inl (f_istore 6 4, 10)), (10, .inl (f_iload 4, 12)), (12, .inl (f_aload 0, 13)), (13, .inl (f_get 3 4, 16)), (16, .inr (.inl (b_icmp_ge, 37, 19))), (19, .inl (f_iload 3, 20)), (20, .inl (f_aload 0, 21)), (21, .inl (f_get 3 3, 24)), (24, .inl (f_iload 4, 26)), (26, .inr (.inr (.inl (0, 27, 0, m0)))), (27, .inr (.inr (.inl (20, 30, 0, m0)))), (30, .inl (f_istore 6 3, 31)), (31, .inl (f_iinc 6 4 (1), 34)), (34, .inl (f_id, 10)), (37, .inl (f_aload 0, 38)), (38, .inl (f_get 3 5, 41)), (41, .inl (f_iload 3, 42)), (42, .inr (.inr (.inl (0, 43, 0, m0)))), (43, .inl (f_aload 1, 44)), (44, .inl (f_get 2 4, 47)), (47, .inl (f_iload 3, 48)), (48, .inr (.inr (.inl (0, 49, 0, m0)))), (49, .inr (.inl (b_icmp_le, 56, 52))), (52, .inr (.inr (.inl (14, 55, 0, mX6_infinity))))]
set_option maxRecDepth 10000 in
theorem kX3_reclose_0 {X : Ctx} (h : sCx X mX3_reclose) : tab X mX3_reclose tX3_reclose_0 :=
  tab_cons (eS (st_aloadn h rfl dX3_reclose_0)) (
  tab_cons (eS (st_get h (ci := 3) (k := 3) rfl giX3 (by decide) rfl gw_72 dX3_reclose_1)) (
  tab_cons (eS (st_iconst h (by decide +kernel) dX3_reclose_4)) (
  tab_cons (eO (so_iaload h dX3_reclose_5)) (
  tab_cons (eS (st_istoren h rfl dX3_reclose_6)) (
  tab_cons (eS (st_iconst h (by decide +kernel) dX3_reclose_7)) (
  tab_cons (eS (st_istore h dX3_reclose_8)) (
  tab_cons (eS (st_iload h dX3_reclose_10)) (
  tab_cons (eS (st_aloadn h rfl dX3_reclose_12)) (
  tab_cons (eS (st_get h (ci := 3) (k := 4) rfl giX3 (by decide) rfl gw_70 dX3_reclose_13)) (
  tab_cons (eB (sb_icmp_ge h dX3_reclose_16 (by decide))) (
  tab_cons (eS (st_iloadn h rfl dX3_reclose_19)) (
  tab_cons (eS (st_aloadn h rfl dX3_reclose_20)) (
  tab_cons (eS (st_get h (ci := 3) (k := 3) rfl giX3 (by decide) rfl gw_72 dX3_reclose_21)) (
  tab_cons (eS (st_iload h dX3_reclose_24)) (
  tab_cons (eO (so_iaload h dX3_reclose_26)) (
  tab_cons (eO (so_mmax h gw_105 gw_106 gw_107 gw_108 (by decide +kernel) dX3_reclose_27)) (
  tab_cons (eS (st_istoren h rfl dX3_reclose_30)) (
  tab_cons (eS (st_iinc h (by decide +kernel) dX3_reclose_31)) (
  tab_cons (eS (st_goto h dX3_reclose_34 (by decide))) (
  tab_cons (eS (st_aloadn h rfl dX3_reclose_37)) (
  tab_cons (eS (st_get h (ci := 3) (k := 5) rfl giX3 (by decide) rfl gw_37 dX3_reclose_38)) (
  tab_cons (eS (st_iloadn h rfl dX3_reclose_41)) (
  tab_cons (eO (so_iaload h dX3_reclose_42)) (
  tab_cons (eS (st_aloadn h rfl dX3_reclose_43)) (
  tab_cons (eS (st_get h (ci := 2) (k := 4) rfl giX2 (by decide) rfl gw_109 dX3_reclose_44)) (
  tab_cons (eS (st_iloadn h rfl dX3_reclose_47)) (
  tab_cons (eO (so_iaload h dX3_reclose_48)) (
  tab_cons (eB (sb_icmp_le h dX3_reclose_49 (by decide))) (
  tab_cons (eO (so_callN h (fun _ q => q.2.1) gw_26 gw_27 gw_28 ⟨by decide +kernel, by decide +kernel, by decide +kernel⟩ ⟨by decide +kernel, by decide +kernel⟩ dX3_reclose_52)) (
  tab_nil))))))))))))))))))))))))))))))
def tX3_reclose_1 : Tb := [(55, .inr (.inr (.inl (16, 56, 0, m0)))), (56, .inl (f_aload 0, 57)), (57, .inl (f_iload 3, 58)), (58, .inr (.inr (.inl (13, 61, 2, mX3_openingTime)))), (61, .inl (f_cd 4602678819172646912, 64)), (64, .inr (.inr (.inl (7, 65, 0, m0)))), (65, .inl (f_dstore 6 4, 67)), (67, .inl (f_aload 2, 68)), (68, .inl (f_ci (3), 69)), (69, .inl (f_iload 3, 70)), (70, .inl (f_dload 4, 72)), (72, .inr (.inr (.inl (13, 75, 4, mX0_put)))), (75, .inl (f_aload 1, 76)), (76, .inl (f_dup, 77)), (77, .inl (f_get 2 6, 80)), (80, .inl (f_ci (1), 81)), (81, .inl (f_iload 3, 82)), (82, .inl (f_ishl, 83)), (83, .inl (f_ci (-1), 84)), (84, .inl (f_ixor, 85)), (85, .inl (f_iand, 86)), (86, .inl (f_putI 2 6, 89)), (89, .inl (f_dload 4, 91)), (91, .inr (.inr (.inl (16, 92, 0, m0))))]
set_option maxRecDepth 10000 in
theorem kX3_reclose_1 {X : Ctx} (h : sCx X mX3_reclose) : tab X mX3_reclose tX3_reclose_1 :=
  tab_cons (eO (so_dreturn h dX3_reclose_55)) (
  tab_cons (eS (st_aloadn h rfl dX3_reclose_56)) (
  tab_cons (eS (st_iloadn h rfl dX3_reclose_57)) (
  tab_cons (eO (so_callV h gw_73 gw_74 gw_75 gw_60 gw_76 ⟨by decide +kernel, by decide +kernel, by decide +kernel, by decide +kernel⟩ ⟨by decide +kernel, by decide +kernel⟩ dX3_reclose_58)) (
  tab_cons (eS (st_ldc2d h gw_110 dX3_reclose_61)) (
  tab_cons (eO (so_dadd h dX3_reclose_64)) (
  tab_cons (eS (st_dstore h dX3_reclose_65)) (
  tab_cons (eS (st_aloadn h rfl dX3_reclose_67)) (
  tab_cons (eS (st_iconst h (by decide +kernel) dX3_reclose_68)) (
  tab_cons (eS (st_iloadn h rfl dX3_reclose_69)) (
  tab_cons (eS (st_dload h dX3_reclose_70)) (
  tab_cons (eO (so_callV h gw_96 gw_97 gw_98 gw_46 gw_99 ⟨by decide +kernel, by decide +kernel, by decide +kernel, by decide +kernel⟩ ⟨by decide +kernel, by decide +kernel⟩ dX3_reclose_72)) (
  tab_cons (eS (st_aloadn h rfl dX3_reclose_75)) (
  tab_cons (eS (st_dup h dX3_reclose_76)) (
  tab_cons (eS (st_get h (ci := 2) (k := 6) rfl giX2 (by decide) rfl gw_56 dX3_reclose_77)) (
  tab_cons (eS (st_iconst h (by decide +kernel) dX3_reclose_80)) (
  tab_cons (eS (st_iloadn h rfl dX3_reclose_81)) (
  tab_cons (eS (st_ishl h dX3_reclose_82)) (
  tab_cons (eS (st_iconst h (by decide +kernel) dX3_reclose_83)) (
  tab_cons (eS (st_ixor h dX3_reclose_84)) (
  tab_cons (eS (st_iand h dX3_reclose_85)) (
  tab_cons (eS (st_putI h (ci := 2) (k := 6) tyX2 tyX2_ok nmX2 rfl giX2 (by decide) rfl rfl (by decide +kernel) gw_56 dX3_reclose_86)) (
  tab_cons (eS (st_dload h dX3_reclose_89)) (
  tab_cons (eO (so_dreturn h dX3_reclose_91)) (
  tab_nil))))))))))))))))))))))))
def tX3_reclose : Tb := tX3_reclose_0 ++ (tX3_reclose_1)
theorem kX3_reclose {X : Ctx} (h : sCx X mX3_reclose) : tab X mX3_reclose tX3_reclose := tab_app (kX3_reclose_0 h) (kX3_reclose_1 h)
theorem dX4_copyFrom_0 : decode cX4_copyFrom 0 = .ok (.aload_n 0, 1) := by decide +kernel
theorem dX4_copyFrom_1 : decode cX4_copyFrom 1 = .ok (.getfield 12, 3) := by decide +kernel
theorem dX4_copyFrom_4 : decode cX4_copyFrom 4 = .ok (.aload_n 1, 1) := by decide +kernel
theorem dX4_copyFrom_5 : decode cX4_copyFrom 5 = .ok (.getfield 12, 3) := by decide +kernel
theorem dX4_copyFrom_8 : decode cX4_copyFrom 8 = .ok (.invokevirtual 38, 3) := by decide +kernel
theorem dX4_copyFrom_11 : decode cX4_copyFrom 11 = .ok (.aload_n 0, 1) := by decide +kernel
theorem dX4_copyFrom_12 : decode cX4_copyFrom 12 = .ok (.getfield 21, 3) := by decide +kernel
theorem dX4_copyFrom_15 : decode cX4_copyFrom 15 = .ok (.aload_n 1, 1) := by decide +kernel
theorem dX4_copyFrom_16 : decode cX4_copyFrom 16 = .ok (.getfield 21, 3) := by decide +kernel
theorem dX4_copyFrom_19 : decode cX4_copyFrom 19 = .ok (.invokevirtual 42, 3) := by decide +kernel
theorem dX4_copyFrom_22 : decode cX4_copyFrom 22 = .ok (.aload_n 0, 1) := by decide +kernel
theorem dX4_copyFrom_23 : decode cX4_copyFrom 23 = .ok (.getfield 28, 3) := by decide +kernel
theorem dX4_copyFrom_26 : decode cX4_copyFrom 26 = .ok (.aload_n 1, 1) := by decide +kernel
theorem dX4_copyFrom_27 : decode cX4_copyFrom 27 = .ok (.getfield 28, 3) := by decide +kernel
theorem dX4_copyFrom_30 : decode cX4_copyFrom 30 = .ok (.invokevirtual 45, 3) := by decide +kernel
theorem dX4_copyFrom_33 : decode cX4_copyFrom 33 = .ok (.aload_n 0, 1) := by decide +kernel
theorem dX4_copyFrom_34 : decode cX4_copyFrom 34 = .ok (.aload_n 1, 1) := by decide +kernel
theorem dX4_copyFrom_35 : decode cX4_copyFrom 35 = .ok (.getfield 34, 3) := by decide +kernel
theorem dX4_copyFrom_38 : decode cX4_copyFrom 38 = .ok (.putfield 34, 3) := by decide +kernel
theorem dX4_copyFrom_41 : decode cX4_copyFrom 41 = .ok (.return_, 1) := by decide +kernel
def tX4_copyFrom_0 : Tb := [(0, .inl (f_aload 0, 1)), (1, .inl (f_get 4 0, 4)), (4, .inl (f_aload 1, 5)), (5, .inl (f_get 4 0, 8)), (8, .inr (.inr (.inl (13, 11, 2, mX1_copyFrom)))), (11, .inl (f_aload 0, 12)), (12, .inl (f_get 4 1, 15)), (15, .inl (f_aload 1, 16)), (16, .inl (f_get 4 1, 19)), (19, .inr (.inr (.inl (13, 22, 2, mX2_copyFrom)))), (22, .inl (f_aload 0, 23)), (23, .inl (f_get 4 2, 26)), (26, .inl (f_aload 1, 27)), (27, .inl (f_get 4 2, 30)), (30, .inr (.inr (.inl (13, 33, 2, mX0_copyFrom)))), (33, .inl (f_aload 0, 34)), (34, .inl (f_aload 1, 35)), (35, .inl (f_get 4 3, 38)), (38, .inl (f_putD 4 3, 41)), (41, .inr (.inr (.inl (18, 42, 0, m0))))]
set_option maxRecDepth 10000 in
theorem kX4_copyFrom_0 {X : Ctx} (h : sCx X mX4_copyFrom) : tab X mX4_copyFrom tX4_copyFrom_0 :=
  tab_cons (eS (st_aloadn h rfl dX4_copyFrom_0)) (
  tab_cons (eS (st_get h (ci := 4) (k := 0) rfl giX4 (by decide) rfl gw_111 dX4_copyFrom_1)) (
  tab_cons (eS (st_aloadn h rfl dX4_copyFrom_4)) (
  tab_cons (eS (st_get h (ci := 4) (k := 0) rfl giX4 (by decide) rfl gw_111 dX4_copyFrom_5)) (
  tab_cons (eO (so_callV h gw_112 gw_113 gw_114 gw_53 gw_115 ⟨by decide +kernel, by decide +kernel, by decide +kernel, by decide +kernel⟩ ⟨by decide +kernel, by decide +kernel⟩ dX4_copyFrom_8)) (
  tab_cons (eS (st_aloadn h rfl dX4_copyFrom_11)) (
  tab_cons (eS (st_get h (ci := 4) (k := 1) rfl giX4 (by decide) rfl gw_116 dX4_copyFrom_12)) (
  tab_cons (eS (st_aloadn h rfl dX4_copyFrom_15)) (
  tab_cons (eS (st_get h (ci := 4) (k := 1) rfl giX4 (by decide) rfl gw_116 dX4_copyFrom_16)) (
  tab_cons (eO (so_callV h gw_117 gw_118 gw_119 gw_32 gw_120 ⟨by decide +kernel, by decide +kernel, by decide +kernel, by decide +kernel⟩ ⟨by decide +kernel, by decide +kernel⟩ dX4_copyFrom_19)) (
  tab_cons (eS (st_aloadn h rfl dX4_copyFrom_22)) (
  tab_cons (eS (st_get h (ci := 4) (k := 2) rfl giX4 (by decide) rfl gw_121 dX4_copyFrom_23)) (
  tab_cons (eS (st_aloadn h rfl dX4_copyFrom_26)) (
  tab_cons (eS (st_get h (ci := 4) (k := 2) rfl giX4 (by decide) rfl gw_121 dX4_copyFrom_27)) (
  tab_cons (eO (so_callV h gw_122 gw_123 gw_124 gw_46 gw_125 ⟨by decide +kernel, by decide +kernel, by decide +kernel, by decide +kernel⟩ ⟨by decide +kernel, by decide +kernel⟩ dX4_copyFrom_30)) (
  tab_cons (eS (st_aloadn h rfl dX4_copyFrom_33)) (
  tab_cons (eS (st_aloadn h rfl dX4_copyFrom_34)) (
  tab_cons (eS (st_get h (ci := 4) (k := 3) rfl giX4 (by decide) rfl gw_126 dX4_copyFrom_35)) (
  tab_cons (eS (st_putD h (ci := 4) (k := 3) tyX4 tyX4_ok nmX4 rfl giX4 (by decide) rfl rfl (by decide +kernel) gw_126 dX4_copyFrom_38)) (
  tab_cons (eO (so_return h dX4_copyFrom_41)) (
  tab_nil))))))))))))))))))))
def tX4_copyFrom : Tb := tX4_copyFrom_0
theorem kX4_copyFrom {X : Ctx} (h : sCx X mX4_copyFrom) : tab X mX4_copyFrom tX4_copyFrom := kX4_copyFrom_0 h
theorem dX4_marginAt_0 : decode cX4_marginAt 0 = .ok (.aload_n 0, 1) := by decide +kernel
theorem dX4_marginAt_1 : decode cX4_marginAt 1 = .ok (.getfield 12, 3) := by decide +kernel
theorem dX4_marginAt_4 : decode cX4_marginAt 4 = .ok (.iload_n 1, 1) := by decide +kernel
theorem dX4_marginAt_5 : decode cX4_marginAt 5 = .ok (.iload_n 2, 1) := by decide +kernel
theorem dX4_marginAt_6 : decode cX4_marginAt 6 = .ok (.invokevirtual 48, 3) := by decide +kernel
theorem dX4_marginAt_9 : decode cX4_marginAt 9 = .ok (.dstore_n 3, 1) := by decide +kernel
theorem dX4_marginAt_10 : decode cX4_marginAt 10 = .ok (.aload_n 0, 1) := by decide +kernel
theorem dX4_marginAt_11 : decode cX4_marginAt 11 = .ok (.getfield 21, 3) := by decide +kernel
theorem dX4_marginAt_14 : decode cX4_marginAt 14 = .ok (.aload_n 0, 1) := by decide +kernel
theorem dX4_marginAt_15 : decode cX4_marginAt 15 = .ok (.getfield 12, 3) := by decide +kernel
theorem dX4_marginAt_18 : decode cX4_marginAt 18 = .ok (.iload_n 1, 1) := by decide +kernel
theorem dX4_marginAt_19 : decode cX4_marginAt 19 = .ok (.invokevirtual 52, 3) := by decide +kernel
theorem dX4_marginAt_22 : decode cX4_marginAt 22 = .ok (.dload_n 3, 1) := by decide +kernel
theorem dX4_marginAt_23 : decode cX4_marginAt 23 = .ok (.invokevirtual 56, 3) := by decide +kernel
theorem dX4_marginAt_26 : decode cX4_marginAt 26 = .ok (.dstore 5, 2) := by decide +kernel
theorem dX4_marginAt_28 : decode cX4_marginAt 28 = .ok (.dload 5, 2) := by decide +kernel
theorem dX4_marginAt_30 : decode cX4_marginAt 30 = .ok (.invokestatic 60, 3) := by decide +kernel
theorem dX4_marginAt_33 : decode cX4_marginAt 33 = .ok (.dcmp .l, 1) := by decide +kernel
theorem dX4_marginAt_34 : decode cX4_marginAt 34 = .ok (.ifCond .lt 7, 3) := by decide +kernel
theorem dX4_marginAt_37 : decode cX4_marginAt 37 = .ok (.invokestatic 60, 3) := by decide +kernel
theorem dX4_marginAt_40 : decode cX4_marginAt 40 = .ok (.dreturn, 1) := by decide +kernel
theorem dX4_marginAt_41 : decode cX4_marginAt 41 = .ok (.dload 5, 2) := by decide +kernel
theorem dX4_marginAt_43 : decode cX4_marginAt 43 = .ok (.aload_n 0, 1) := by decide +kernel
theorem dX4_marginAt_44 : decode cX4_marginAt 44 = .ok (.getfield 21, 3) := by decide +kernel
theorem dX4_marginAt_47 : decode cX4_marginAt 47 = .ok (.iload_n 1, 1) := by decide +kernel
theorem dX4_marginAt_48 : decode cX4_marginAt 48 = .ok (.dload_n 3, 1) := by decide +kernel
theorem dX4_marginAt_49 : decode cX4_marginAt 49 = .ok (.invokevirtual 56, 3) := by decide +kernel
theorem dX4_marginAt_52 : decode cX4_marginAt 52 = .ok (.dsub, 1) := by decide +kernel
theorem dX4_marginAt_53 : decode cX4_marginAt 53 = .ok (.dreturn, 1) := by decide +kernel
def tX4_marginAt_0 : Tb := [(0, .inl (f_aload 0, 1)), (1, .inl (f_get 4 0, 4)), (4, .inl (f_iload 1, 5)), (5, .inl (f_iload 2, 6)), (6, .inr (.inr (.inl (13, 9, 3, mX1_currentAt)))), (9, .inl (f_dstore 7 3, 10)), (10, .inl (f_aload 0, 11)), (11, .inl (f_get 4 1, 14)), (14, .inl (f_aload 0, 15)), (15, .inl (f_get 4 0, 18)), (18, .inl (f_iload 1, 19)), (19, .inr (.inr (.inl (13, 22, 2, mX1_lineBefore)))), (22, .inl (f_dload 3, 23)), (23, .inr (.inr (.inl (13, 26, 3, mX2_timeFor)))), (26, .inl (f_dstore 7 5, 28)), (28, .inl (f_dload 5, 30)), (30, .inr (.inr (.inl (14, 33, 0, mX6_infinity)))), (33, .inl (f_dcmpl, 34)), (34, .inr (.inl (b_if_lt, 41, 37))), (37, .inr (.inr (.inl (14, 40, 0, mX6_infinity)))), (40, .inr (.inr (.inl (16, 41, 0, m0)))), (41, .inl (f_dload 5, 43)), (43, .inl (f_aload 0, 44)), (44, .inl (f_get 4 1, 47)), (47, .inl (f_iload 1, 48)), (48, .inl (f_dload 3, 49)), (49, .inr (.inr (.inl (13, 52, 3, mX2_timeFor)))), (52, .inr (.inr (.inl (8, 53, 0, m0)))), (53, .inr (.inr (.inl (16, 54, 0, m0))))]
set_option maxRecDepth 10000 in
theorem kX4_marginAt_0 {X : Ctx} (h : sCx X mX4_marginAt) : tab X mX4_marginAt tX4_marginAt_0 :=
  tab_cons (eS (st_aloadn h rfl dX4_marginAt_0)) (
  tab_cons (eS (st_get h (ci := 4) (k := 0) rfl giX4 (by decide) rfl gw_111 dX4_marginAt_1)) (
  tab_cons (eS (st_iloadn h rfl dX4_marginAt_4)) (
  tab_cons (eS (st_iloadn h rfl dX4_marginAt_5)) (
  tab_cons (eO (so_callV h gw_127 gw_51 gw_52 gw_53 gw_54 ⟨by decide +kernel, by decide +kernel, by decide +kernel, by decide +kernel⟩ ⟨by decide +kernel, by decide +kernel⟩ dX4_marginAt_6)) (
  tab_cons (eS (st_dstoren h rfl dX4_marginAt_9)) (
  tab_cons (eS (st_aloadn h rfl dX4_marginAt_10)) (
  tab_cons (eS (st_get h (ci := 4) (k := 1) rfl giX4 (by decide) rfl gw_116 dX4_marginAt_11)) (
  tab_cons (eS (st_aloadn h rfl dX4_marginAt_14)) (
  tab_cons (eS (st_get h (ci := 4) (k := 0) rfl giX4 (by decide) rfl gw_111 dX4_marginAt_15)) (
  tab_cons (eS (st_iloadn h rfl dX4_marginAt_18)) (
  tab_cons (eO (so_callV h gw_128 gw_129 gw_130 gw_53 gw_131 ⟨by decide +kernel, by decide +kernel, by decide +kernel, by decide +kernel⟩ ⟨by decide +kernel, by decide +kernel⟩ dX4_marginAt_19)) (
  tab_cons (eS (st_dloadn h rfl dX4_marginAt_22)) (
  tab_cons (eO (so_callV h gw_132 gw_87 gw_88 gw_32 gw_89 ⟨by decide +kernel, by decide +kernel, by decide +kernel, by decide +kernel⟩ ⟨by decide +kernel, by decide +kernel⟩ dX4_marginAt_23)) (
  tab_cons (eS (st_dstore h dX4_marginAt_26)) (
  tab_cons (eS (st_dload h dX4_marginAt_28)) (
  tab_cons (eO (so_callN h (fun _ q => q.2.2) gw_26 gw_27 gw_28 ⟨by decide +kernel, by decide +kernel, by decide +kernel⟩ ⟨by decide +kernel, by decide +kernel⟩ dX4_marginAt_30)) (
  tab_cons (eS (st_dcmpl h dX4_marginAt_33)) (
  tab_cons (eB (sb_if_lt h dX4_marginAt_34 (by decide))) (
  tab_cons (eO (so_callN h (fun _ q => q.2.2) gw_26 gw_27 gw_28 ⟨by decide +kernel, by decide +kernel, by decide +kernel⟩ ⟨by decide +kernel, by decide +kernel⟩ dX4_marginAt_37)) (
  tab_cons (eO (so_dreturn h dX4_marginAt_40)) (
  tab_cons (eS (st_dload h dX4_marginAt_41)) (
  tab_cons (eS (st_aloadn h rfl dX4_marginAt_43)) (
  tab_cons (eS (st_get h (ci := 4) (k := 1) rfl giX4 (by decide) rfl gw_116 dX4_marginAt_44)) (
  tab_cons (eS (st_iloadn h rfl dX4_marginAt_47)) (
  tab_cons (eS (st_dloadn h rfl dX4_marginAt_48)) (
  tab_cons (eO (so_callV h gw_132 gw_87 gw_88 gw_32 gw_89 ⟨by decide +kernel, by decide +kernel, by decide +kernel, by decide +kernel⟩ ⟨by decide +kernel, by decide +kernel⟩ dX4_marginAt_49)) (
  tab_cons (eO (so_dsub h dX4_marginAt_52)) (
  tab_cons (eO (so_dreturn h dX4_marginAt_53)) (
  tab_nil)))))))))))))))))))))))))))))
def tX4_marginAt : Tb := tX4_marginAt_0
theorem kX4_marginAt {X : Ctx} (h : sCx X mX4_marginAt) : tab X mX4_marginAt tX4_marginAt := kX4_marginAt_0 h
theorem dX4_worstMargin_0 : decode cX4_worstMargin 0 = .ok (.aload_n 0, 1) := by decide +kernel
theorem dX4_worstMargin_1 : decode cX4_worstMargin 1 = .ok (.getfield 12, 3) := by decide +kernel
theorem dX4_worstMargin_4 : decode cX4_worstMargin 4 = .ok (.iload_n 1, 1) := by decide +kernel
theorem dX4_worstMargin_5 : decode cX4_worstMargin 5 = .ok (.invokevirtual 52, 3) := by decide +kernel
theorem dX4_worstMargin_8 : decode cX4_worstMargin 8 = .ok (.iconst (-1), 1) := by decide +kernel
theorem dX4_worstMargin_9 : decode cX4_worstMargin 9 = .ok (.if_icmp .ne 7, 3) := by decide +kernel
theorem dX4_worstMargin_12 : decode cX4_worstMargin 12 = .ok (.invokestatic 60, 3) := by decide +kernel
theorem dX4_worstMargin_15 : decode cX4_worstMargin 15 = .ok (.dreturn, 1) := by decide +kernel
theorem dX4_worstMargin_16 : decode cX4_worstMargin 16 = .ok (.aload_n 0, 1) := by decide +kernel
theorem dX4_worstMargin_17 : decode cX4_worstMargin 17 = .ok (.iload_n 1, 1) := by decide +kernel
theorem dX4_worstMargin_18 : decode cX4_worstMargin 18 = .ok (.iconst 0, 1) := by decide +kernel
theorem dX4_worstMargin_19 : decode cX4_worstMargin 19 = .ok (.invokevirtual 64, 3) := by decide +kernel
theorem dX4_worstMargin_22 : decode cX4_worstMargin 22 = .ok (.dstore_n 2, 1) := by decide +kernel
theorem dX4_worstMargin_23 : decode cX4_worstMargin 23 = .ok (.aload_n 0, 1) := by decide +kernel
theorem dX4_worstMargin_24 : decode cX4_worstMargin 24 = .ok (.iload_n 1, 1) := by decide +kernel
theorem dX4_worstMargin_25 : decode cX4_worstMargin 25 = .ok (.bipush 100, 2) := by decide +kernel
theorem dX4_worstMargin_27 : decode cX4_worstMargin 27 = .ok (.invokevirtual 64, 3) := by decide +kernel
theorem dX4_worstMargin_30 : decode cX4_worstMargin 30 = .ok (.dstore 4, 2) := by decide +kernel
theorem dX4_worstMargin_32 : decode cX4_worstMargin 32 = .ok (.dload 4, 2) := by decide +kernel
theorem dX4_worstMargin_34 : decode cX4_worstMargin 34 = .ok (.dload_n 2, 1) := by decide +kernel
theorem dX4_worstMargin_35 : decode cX4_worstMargin 35 = .ok (.dcmp .g, 1) := by decide +kernel
theorem dX4_worstMargin_36 : decode cX4_worstMargin 36 = .ok (.ifCond .ge 8, 3) := by decide +kernel
theorem dX4_worstMargin_39 : decode cX4_worstMargin 39 = .ok (.dload 4, 2) := by decide +kernel
theorem dX4_worstMargin_41 : decode cX4_worstMargin 41 = .ok (.goto 4, 3) := by decide +kernel
theorem dX4_worstMargin_44 : decode cX4_worstMargin 44 = .ok (.dload_n 2, 1) := by decide +kernel
theorem dX4_worstMargin_45 : decode cX4_worstMargin 45 = .ok (.dreturn, 1) := by decide +kernel
def tX4_worstMargin_0 : Tb := [(0, .inl (f_aload 0, 1)), (1, .inl (f_get 4 0, 4)), (4, .inl (f_iload 1, 5)), (5, .inr (.inr (.inl (13, 8, 2, mX1_lineBefore)))), (8, .inl (f_ci (-1), 9)), (9, .inr (.inl (b_icmp_eq, 12, 16))), (12, .inr (.inr (.inl (14, 15, 0, mX6_infinity)))), (15, .inr (.inr (.inl (16, 16, 0, m0)))), (16, .inl (f_aload 0, 17)), (17, .inl (f_iload 1, 18)), (18, .inl (f_ci (0), 19)), (19, .inr (.inr (.inl (13, 22, 3, mX4_marginAt)))), (22, .inl (f_dstore 6 2, 23)), (23, .inl (f_aload 0, 24)), (24, .inl (f_iload 1, 25)), (25, .inl (f_ci (100), 27)), (27, .inr (.inr (.inl (13, 30, 3, mX4_marginAt)))), (30, .inl (f_dstore 6 4, 32)), (32, .inl (f_dload 4, 34)), (34, .inl (f_dload 2, 35)), (35, .inl (f_dcmpg, 36)), (36, .inr (.inl (b_if_ge, 44, 39))), (39, .inl (f_dload 4, 41)), (41, .inl (f_id, 45)), (44, .inl (f_dload 2, 45)), (45, .inr (.inr (.inl (16, 46, 0, m0))))]
set_option maxRecDepth 10000 in
theorem kX4_worstMargin_0 {X : Ctx} (h : sCx X mX4_worstMargin) : tab X mX4_worstMargin tX4_worstMargin_0 :=
  tab_cons (eS (st_aloadn h rfl dX4_worstMargin_0)) (
  tab_cons (eS (st_get h (ci := 4) (k := 0) rfl giX4 (by decide) rfl gw_111 dX4_worstMargin_1)) (
  tab_cons (eS (st_iloadn h rfl dX4_worstMargin_4)) (
  tab_cons (eO (so_callV h gw_128 gw_129 gw_130 gw_53 gw_131 ⟨by decide +kernel, by decide +kernel, by decide +kernel, by decide +kernel⟩ ⟨by decide +kernel, by decide +kernel⟩ dX4_worstMargin_5)) (
  tab_cons (eS (st_iconst h (by decide +kernel) dX4_worstMargin_8)) (
  tab_cons (eB (sb_icmp_ne h dX4_worstMargin_9 (by decide))) (
  tab_cons (eO (so_callN h (fun _ q => q.2.2) gw_26 gw_27 gw_28 ⟨by decide +kernel, by decide +kernel, by decide +kernel⟩ ⟨by decide +kernel, by decide +kernel⟩ dX4_worstMargin_12)) (
  tab_cons (eO (so_dreturn h dX4_worstMargin_15)) (
  tab_cons (eS (st_aloadn h rfl dX4_worstMargin_16)) (
  tab_cons (eS (st_iloadn h rfl dX4_worstMargin_17)) (
  tab_cons (eS (st_iconst h (by decide +kernel) dX4_worstMargin_18)) (
  tab_cons (eO (so_callV h gw_133 gw_134 gw_135 gw_136 gw_137 ⟨by decide +kernel, by decide +kernel, by decide +kernel, by decide +kernel⟩ ⟨by decide +kernel, by decide +kernel⟩ dX4_worstMargin_19)) (
  tab_cons (eS (st_dstoren h rfl dX4_worstMargin_22)) (
  tab_cons (eS (st_aloadn h rfl dX4_worstMargin_23)) (
  tab_cons (eS (st_iloadn h rfl dX4_worstMargin_24)) (
  tab_cons (eS (st_bipush h (by decide +kernel) dX4_worstMargin_25)) (
  tab_cons (eO (so_callV h gw_133 gw_134 gw_135 gw_136 gw_137 ⟨by decide +kernel, by decide +kernel, by decide +kernel, by decide +kernel⟩ ⟨by decide +kernel, by decide +kernel⟩ dX4_worstMargin_27)) (
  tab_cons (eS (st_dstore h dX4_worstMargin_30)) (
  tab_cons (eS (st_dload h dX4_worstMargin_32)) (
  tab_cons (eS (st_dloadn h rfl dX4_worstMargin_34)) (
  tab_cons (eS (st_dcmpg h dX4_worstMargin_35)) (
  tab_cons (eB (sb_if_ge h dX4_worstMargin_36 (by decide))) (
  tab_cons (eS (st_dload h dX4_worstMargin_39)) (
  tab_cons (eS (st_goto h dX4_worstMargin_41 (by decide))) (
  tab_cons (eS (st_dloadn h rfl dX4_worstMargin_44)) (
  tab_cons (eO (so_dreturn h dX4_worstMargin_45)) (
  tab_nil))))))))))))))))))))))))))
def tX4_worstMargin : Tb := tX4_worstMargin_0
theorem kX4_worstMargin {X : Ctx} (h : sCx X mX4_worstMargin) : tab X mX4_worstMargin tX4_worstMargin := kX4_worstMargin_0 h
theorem dX4_countViolations_0 : decode cX4_countViolations 0 = .ok (.iconst 0, 1) := by decide +kernel
theorem dX4_countViolations_1 : decode cX4_countViolations 1 = .ok (.istore_n 1, 1) := by decide +kernel
theorem dX4_countViolations_2 : decode cX4_countViolations 2 = .ok (.iconst 0, 1) := by decide +kernel
theorem dX4_countViolations_3 : decode cX4_countViolations 3 = .ok (.istore_n 2, 1) := by decide +kernel
theorem dX4_countViolations_4 : decode cX4_countViolations 4 = .ok (.iload_n 2, 1) := by decide +kernel
theorem dX4_countViolations_5 : decode cX4_countViolations 5 = .ok (.aload_n 0, 1) := by decide +kernel
theorem dX4_countViolations_6 : decode cX4_countViolations 6 = .ok (.getfield 12, 3) := by decide +kernel
theorem dX4_countViolations_9 : decode cX4_countViolations 9 = .ok (.getfield 67, 3) := by decide +kernel
theorem dX4_countViolations_12 : decode cX4_countViolations 12 = .ok (.if_icmp .ge 25, 3) := by decide +kernel
theorem dX4_countViolations_15 : decode cX4_countViolations 15 = .ok (.aload_n 0, 1) := by decide +kernel
theorem dX4_countViolations_16 : decode cX4_countViolations 16 = .ok (.iload_n 2, 1) := by decide +kernel
theorem dX4_countViolations_17 : decode cX4_countViolations 17 = .ok (.invokevirtual 71, 3) := by decide +kernel
theorem dX4_countViolations_20 : decode cX4_countViolations 20 = .ok (.aload_n 0, 1) := by decide +kernel
theorem dX4_countViolations_21 : decode cX4_countViolations 21 = .ok (.getfield 34, 3) := by decide +kernel
theorem dX4_countViolations_24 : decode cX4_countViolations 24 = .ok (.dcmp .g, 1) := by decide +kernel
theorem dX4_countViolations_25 : decode cX4_countViolations 25 = .ok (.ifCond .ge 6, 3) := by decide +kernel
theorem dX4_countViolations_28 : decode cX4_countViolations 28 = .ok (.iinc 1 1, 3) := by decide +kernel
theorem dX4_countViolations_31 : decode cX4_countViolations 31 = .ok (.iinc 2 1, 3) := by decide +kernel
theorem dX4_countViolations_34 : decode cX4_countViolations 34 = .ok (.goto (-30), 3) := by decide +kernel
theorem dX4_countViolations_37 : decode cX4_countViolations 37 = .ok (.iload_n 1, 1) := by decide +kernel
theorem dX4_countViolations_38 : decode cX4_countViolations 38 = .ok (.ireturn, 1) := by decide +kernel
def tX4_countViolations_0 : Tb := [(0, .inl (f_ci (0), 1)), (1, .inl (f_istore 3 1, 2)), (2, .inl (f_ci (0), 3)), (3, .inl (f_istore 3 2, 4)), (4, .inl (f_iload 2, 5)), (5, .inl (f_aload 0, 6)), (6, .inl (f_get 4 0, 9)), (9, .inl (f_get 1 2, 12)), (12, .inr (.inl (b_icmp_ge, 37, 15))), (15, .inl (f_aload 0, 16)), (16, .inl (f_iload 2, 17)), (17, .inr (.inr (.inl (13, 20, 2, mX4_worstMargin)))), (20, .inl (f_aload 0, 21)), (21, .inl (f_get 4 3, 24)), (24, .inl (f_dcmpg, 25)), (25, .inr (.inl (b_if_ge, 31, 28))), (28, .inl (f_iinc 3 1 (1), 31)), (31, .inl (f_iinc 3 2 (1), 34)), (34, .inl (f_id, 4)), (37, .inl (f_iload 1, 38)), (38, .inr (.inr (.inl (15, 39, 0, m0))))]
set_option maxRecDepth 10000 in
theorem kX4_countViolations_0 {X : Ctx} (h : sCx X mX4_countViolations) : tab X mX4_countViolations tX4_countViolations_0 :=
  tab_cons (eS (st_iconst h (by decide +kernel) dX4_countViolations_0)) (
  tab_cons (eS (st_istoren h rfl dX4_countViolations_1)) (
  tab_cons (eS (st_iconst h (by decide +kernel) dX4_countViolations_2)) (
  tab_cons (eS (st_istoren h rfl dX4_countViolations_3)) (
  tab_cons (eS (st_iloadn h rfl dX4_countViolations_4)) (
  tab_cons (eS (st_aloadn h rfl dX4_countViolations_5)) (
  tab_cons (eS (st_get h (ci := 4) (k := 0) rfl giX4 (by decide) rfl gw_111 dX4_countViolations_6)) (
  tab_cons (eS (st_get h (ci := 1) (k := 2) rfl giX1 (by decide) rfl gw_138 dX4_countViolations_9)) (
  tab_cons (eB (sb_icmp_ge h dX4_countViolations_12 (by decide))) (
  tab_cons (eS (st_aloadn h rfl dX4_countViolations_15)) (
  tab_cons (eS (st_iloadn h rfl dX4_countViolations_16)) (
  tab_cons (eO (so_callV h gw_139 gw_140 gw_141 gw_136 gw_142 ⟨by decide +kernel, by decide +kernel, by decide +kernel, by decide +kernel⟩ ⟨by decide +kernel, by decide +kernel⟩ dX4_countViolations_17)) (
  tab_cons (eS (st_aloadn h rfl dX4_countViolations_20)) (
  tab_cons (eS (st_get h (ci := 4) (k := 3) rfl giX4 (by decide) rfl gw_126 dX4_countViolations_21)) (
  tab_cons (eS (st_dcmpg h dX4_countViolations_24)) (
  tab_cons (eB (sb_if_ge h dX4_countViolations_25 (by decide))) (
  tab_cons (eS (st_iinc h (by decide +kernel) dX4_countViolations_28)) (
  tab_cons (eS (st_iinc h (by decide +kernel) dX4_countViolations_31)) (
  tab_cons (eS (st_goto h dX4_countViolations_34 (by decide))) (
  tab_cons (eS (st_iloadn h rfl dX4_countViolations_37)) (
  tab_cons (eO (so_ireturn h dX4_countViolations_38)) (
  tab_nil)))))))))))))))))))))
def tX4_countViolations : Tb := tX4_countViolations_0
theorem kX4_countViolations {X : Ctx} (h : sCx X mX4_countViolations) : tab X mX4_countViolations tX4_countViolations := kX4_countViolations_0 h
theorem dX4_violationOfRank_0 : decode cX4_violationOfRank 0 = .ok (.iconst 0, 1) := by decide +kernel
theorem dX4_violationOfRank_1 : decode cX4_violationOfRank 1 = .ok (.istore_n 2, 1) := by decide +kernel
theorem dX4_violationOfRank_2 : decode cX4_violationOfRank 2 = .ok (.iload_n 2, 1) := by decide +kernel
theorem dX4_violationOfRank_3 : decode cX4_violationOfRank 3 = .ok (.aload_n 0, 1) := by decide +kernel
theorem dX4_violationOfRank_4 : decode cX4_violationOfRank 4 = .ok (.getfield 12, 3) := by decide +kernel
theorem dX4_violationOfRank_7 : decode cX4_violationOfRank 7 = .ok (.getfield 67, 3) := by decide +kernel
theorem dX4_violationOfRank_10 : decode cX4_violationOfRank 10 = .ok (.if_icmp .ge 33, 3) := by decide +kernel
theorem dX4_violationOfRank_13 : decode cX4_violationOfRank 13 = .ok (.aload_n 0, 1) := by decide +kernel
theorem dX4_violationOfRank_14 : decode cX4_violationOfRank 14 = .ok (.iload_n 2, 1) := by decide +kernel
theorem dX4_violationOfRank_15 : decode cX4_violationOfRank 15 = .ok (.invokevirtual 71, 3) := by decide +kernel
theorem dX4_violationOfRank_18 : decode cX4_violationOfRank 18 = .ok (.aload_n 0, 1) := by decide +kernel
theorem dX4_violationOfRank_19 : decode cX4_violationOfRank 19 = .ok (.getfield 34, 3) := by decide +kernel
theorem dX4_violationOfRank_22 : decode cX4_violationOfRank 22 = .ok (.dcmp .g, 1) := by decide +kernel
theorem dX4_violationOfRank_23 : decode cX4_violationOfRank 23 = .ok (.ifCond .ge 14, 3) := by decide +kernel
theorem dX4_violationOfRank_26 : decode cX4_violationOfRank 26 = .ok (.aload_n 0, 1) := by decide +kernel
theorem dX4_violationOfRank_27 : decode cX4_violationOfRank 27 = .ok (.iload_n 2, 1) := by decide +kernel
theorem dX4_violationOfRank_28 : decode cX4_violationOfRank 28 = .ok (.invokevirtual 75, 3) := by decide +kernel
theorem dX4_violationOfRank_31 : decode cX4_violationOfRank 31 = .ok (.iload_n 1, 1) := by decide +kernel
theorem dX4_violationOfRank_32 : decode cX4_violationOfRank 32 = .ok (.if_icmp .ne 5, 3) := by decide +kernel
theorem dX4_violationOfRank_35 : decode cX4_violationOfRank 35 = .ok (.iload_n 2, 1) := by decide +kernel
theorem dX4_violationOfRank_36 : decode cX4_violationOfRank 36 = .ok (.ireturn, 1) := by decide +kernel
theorem dX4_violationOfRank_37 : decode cX4_violationOfRank 37 = .ok (.iinc 2 1, 3) := by decide +kernel
theorem dX4_violationOfRank_40 : decode cX4_violationOfRank 40 = .ok (.goto (-38), 3) := by decide +kernel
theorem dX4_violationOfRank_43 : decode cX4_violationOfRank 43 = .ok (.iconst (-1), 1) := by decide +kernel
theorem dX4_violationOfRank_44 : decode cX4_violationOfRank 44 = .ok (.ireturn, 1) := by decide +kernel
def tX4_violationOfRank_0 : Tb := [(0, .inl (f_ci (0), 1)), (1, .inl (f_istore 3 2, 2)), (2, .inl (f_iload 2, 3)), (3, .inl (f_aload 0, 4)), (4, .inl (f_get 4 0, 7)), (7, .inl (f_get 1 2, 10)), (10, .inr (.inl (b_icmp_ge, 43, 13))), (13, .inl (f_aload 0, 14)), (14, .inl (f_iload 2, 15)), (15, .inr (.inr (.inl (13, 18, 2, mX4_worstMargin)))), (18, .inl (f_aload 0, 19)), (19, .inl (f_get 4 3, 22)), (22, .inl (f_dcmpg, 23)), (23, .inr (.inl (b_if_ge, 37, 26))), (26, .inl (f_aload 0, 27)), (27, .inl (f_iload 2, 28)), (28, .inr (.inr (.inl (13, 31, 2, mX4_relaysWorseThan)))), (31, .inl (f_iload 1, 32)), (32, .inr (.inl (b_icmp_eq, 35, 37))), (35, .inl (f_iload 2, 36)), (36, .inr (.inr (.inl (15, 37, 0, m0)))), (37, .inl (f_iinc 3 2 (1), 40)), (40, .inl (f_id, 2)), (43, .inl (f_ci (-1), 44)), (44, .inr (.inr (.inl (15, 45, 0, m0))))]
set_option maxRecDepth 10000 in
theorem kX4_violationOfRank_0 {X : Ctx} (h : sCx X mX4_violationOfRank) : tab X mX4_violationOfRank tX4_violationOfRank_0 :=
  tab_cons (eS (st_iconst h (by decide +kernel) dX4_violationOfRank_0)) (
  tab_cons (eS (st_istoren h rfl dX4_violationOfRank_1)) (
  tab_cons (eS (st_iloadn h rfl dX4_violationOfRank_2)) (
  tab_cons (eS (st_aloadn h rfl dX4_violationOfRank_3)) (
  tab_cons (eS (st_get h (ci := 4) (k := 0) rfl giX4 (by decide) rfl gw_111 dX4_violationOfRank_4)) (
  tab_cons (eS (st_get h (ci := 1) (k := 2) rfl giX1 (by decide) rfl gw_138 dX4_violationOfRank_7)) (
  tab_cons (eB (sb_icmp_ge h dX4_violationOfRank_10 (by decide))) (
  tab_cons (eS (st_aloadn h rfl dX4_violationOfRank_13)) (
  tab_cons (eS (st_iloadn h rfl dX4_violationOfRank_14)) (
  tab_cons (eO (so_callV h gw_139 gw_140 gw_141 gw_136 gw_142 ⟨by decide +kernel, by decide +kernel, by decide +kernel, by decide +kernel⟩ ⟨by decide +kernel, by decide +kernel⟩ dX4_violationOfRank_15)) (
  tab_cons (eS (st_aloadn h rfl dX4_violationOfRank_18)) (
  tab_cons (eS (st_get h (ci := 4) (k := 3) rfl giX4 (by decide) rfl gw_126 dX4_violationOfRank_19)) (
  tab_cons (eS (st_dcmpg h dX4_violationOfRank_22)) (
  tab_cons (eB (sb_if_ge h dX4_violationOfRank_23 (by decide))) (
  tab_cons (eS (st_aloadn h rfl dX4_violationOfRank_26)) (
  tab_cons (eS (st_iloadn h rfl dX4_violationOfRank_27)) (
  tab_cons (eO (so_callV h gw_143 gw_144 gw_145 gw_136 gw_146 ⟨by decide +kernel, by decide +kernel, by decide +kernel, by decide +kernel⟩ ⟨by decide +kernel, by decide +kernel⟩ dX4_violationOfRank_28)) (
  tab_cons (eS (st_iloadn h rfl dX4_violationOfRank_31)) (
  tab_cons (eB (sb_icmp_ne h dX4_violationOfRank_32 (by decide))) (
  tab_cons (eS (st_iloadn h rfl dX4_violationOfRank_35)) (
  tab_cons (eO (so_ireturn h dX4_violationOfRank_36)) (
  tab_cons (eS (st_iinc h (by decide +kernel) dX4_violationOfRank_37)) (
  tab_cons (eS (st_goto h dX4_violationOfRank_40 (by decide))) (
  tab_cons (eS (st_iconst h (by decide +kernel) dX4_violationOfRank_43)) (
  tab_cons (eO (so_ireturn h dX4_violationOfRank_44)) (
  tab_nil)))))))))))))))))))))))))
def tX4_violationOfRank : Tb := tX4_violationOfRank_0
theorem kX4_violationOfRank {X : Ctx} (h : sCx X mX4_violationOfRank) : tab X mX4_violationOfRank tX4_violationOfRank := kX4_violationOfRank_0 h
theorem dX4_relaysWorseThan_0 : decode cX4_relaysWorseThan 0 = .ok (.aload_n 0, 1) := by decide +kernel
theorem dX4_relaysWorseThan_1 : decode cX4_relaysWorseThan 1 = .ok (.iload_n 1, 1) := by decide +kernel
theorem dX4_relaysWorseThan_2 : decode cX4_relaysWorseThan 2 = .ok (.invokevirtual 71, 3) := by decide +kernel
theorem dX4_relaysWorseThan_5 : decode cX4_relaysWorseThan 5 = .ok (.dstore_n 2, 1) := by decide +kernel
theorem dX4_relaysWorseThan_6 : decode cX4_relaysWorseThan 6 = .ok (.iconst 0, 1) := by decide +kernel
theorem dX4_relaysWorseThan_7 : decode cX4_relaysWorseThan 7 = .ok (.istore 4, 2) := by decide +kernel
theorem dX4_relaysWorseThan_9 : decode cX4_relaysWorseThan 9 = .ok (.iconst 0, 1) := by decide +kernel
theorem dX4_relaysWorseThan_10 : decode cX4_relaysWorseThan 10 = .ok (.istore 5, 2) := by decide +kernel
theorem dX4_relaysWorseThan_12 : decode cX4_relaysWorseThan 12 = .ok (.iload 5, 2) := by decide +kernel
theorem dX4_relaysWorseThan_14 : decode cX4_relaysWorseThan 14 = .ok (.aload_n 0, 1) := by decide +kernel
theorem dX4_relaysWorseThan_15 : decode cX4_relaysWorseThan 15 = .ok (.getfield 12, 3) := by decide +kernel
theorem dX4_relaysWorseThan_18 : decode cX4_relaysWorseThan 18 = .ok (.getfield 67, 3) := by decide +kernel
theorem dX4_relaysWorseThan_21 : decode cX4_relaysWorseThan 21 = .ok (.if_icmp .ge 40, 3) := by decide +kernel
theorem dX4_relaysWorseThan_24 : decode cX4_relaysWorseThan 24 = .ok (.aload_n 0, 1) := by decide +kernel
theorem dX4_relaysWorseThan_25 : decode cX4_relaysWorseThan 25 = .ok (.iload 5, 2) := by decide +kernel
theorem dX4_relaysWorseThan_27 : decode cX4_relaysWorseThan 27 = .ok (.invokevirtual 71, 3) := by decide +kernel
theorem dX4_relaysWorseThan_30 : decode cX4_relaysWorseThan 30 = .ok (.dstore 6, 2) := by decide +kernel
theorem dX4_relaysWorseThan_32 : decode cX4_relaysWorseThan 32 = .ok (.dload 6, 2) := by decide +kernel
theorem dX4_relaysWorseThan_34 : decode cX4_relaysWorseThan 34 = .ok (.dload_n 2, 1) := by decide +kernel
theorem dX4_relaysWorseThan_35 : decode cX4_relaysWorseThan 35 = .ok (.dcmp .g, 1) := by decide +kernel
theorem dX4_relaysWorseThan_36 : decode cX4_relaysWorseThan 36 = .ok (.ifCond .lt 16, 3) := by decide +kernel
theorem dX4_relaysWorseThan_39 : decode cX4_relaysWorseThan 39 = .ok (.dload 6, 2) := by decide +kernel
theorem dX4_relaysWorseThan_41 : decode cX4_relaysWorseThan 41 = .ok (.dload_n 2, 1) := by decide +kernel
theorem dX4_relaysWorseThan_42 : decode cX4_relaysWorseThan 42 = .ok (.dcmp .l, 1) := by decide +kernel
theorem dX4_relaysWorseThan_43 : decode cX4_relaysWorseThan 43 = .ok (.ifCond .ne 12, 3) := by decide +kernel
theorem dX4_relaysWorseThan_46 : decode cX4_relaysWorseThan 46 = .ok (.iload 5, 2) := by decide +kernel
theorem dX4_relaysWorseThan_48 : decode cX4_relaysWorseThan 48 = .ok (.iload_n 1, 1) := by decide +kernel
theorem dX4_relaysWorseThan_49 : decode cX4_relaysWorseThan 49 = .ok (.if_icmp .ge 6, 3) := by decide +kernel
theorem dX4_relaysWorseThan_52 : decode cX4_relaysWorseThan 52 = .ok (.iinc 4 1, 3) := by decide +kernel
theorem dX4_relaysWorseThan_55 : decode cX4_relaysWorseThan 55 = .ok (.iinc 5 1, 3) := by decide +kernel
theorem dX4_relaysWorseThan_58 : decode cX4_relaysWorseThan 58 = .ok (.goto (-46), 3) := by decide +kernel
theorem dX4_relaysWorseThan_61 : decode cX4_relaysWorseThan 61 = .ok (.iload 4, 2) := by decide +kernel
theorem dX4_relaysWorseThan_63 : decode cX4_relaysWorseThan 63 = .ok (.ireturn, 1) := by decide +kernel
def tX4_relaysWorseThan_0 : Tb := [(0, .inl (f_aload 0, 1)), (1, .inl (f_iload 1, 2)), (2, .inr (.inr (.inl (13, 5, 2, mX4_worstMargin)))), (5, .inl (f_dstore 8 2, 6)), (6, .inl (f_ci (0), 7)), (7, .inl (f_istore 8 4, 9)), (9, .inl (f_ci (0), 10)), (10, .inl (f_istore 8 5, 12)), (12, .inl (f_iload 5, 14)), (14, .inl (f_aload 0, 15)), (15, .inl (f_get 4 0, 18)), (18, .inl (f_get 1 2, 21)), (21, .inr (.inl (b_icmp_ge, 61, 24))), (24, .inl (f_aload 0, 25)), (25, .inl (f_iload 5, 27)), (27, .inr (.inr (.inl (13, 30, 2, mX4_worstMargin)))), (30, .inl (f_dstore 8 6, 32)), (32, .inl (f_dload 6, 34)), (34, .inl (f_dload 2, 35)), (35, .inl (f_dcmpg, 36)), (36, .inr (.inl (b_if_lt, 52, 39))), (39, .inl (f_dload 6, 41)), (41, .inl (f_dload 2, 42)), (42, .inl (f_dcmpl, 43)), (43, .inr (.inl (b_if_eq, 46, 55))), (46, .inl (f_iload 5, 48)), (48, .inl (f_iload 1, 49)), (49, .inr (.inl (b_icmp_ge, 55, 52))), (52, .inl (f_iinc 8 4 (1), 55)), (55, .inl (f_iinc 8 5 (1), 58))]
set_option maxRecDepth 10000 in
theorem kX4_relaysWorseThan_0 {X : Ctx} (h : sCx X mX4_relaysWorseThan) : tab X mX4_relaysWorseThan tX4_relaysWorseThan_0 :=
  tab_cons (eS (st_aloadn h rfl dX4_relaysWorseThan_0)) (
  tab_cons (eS (st_iloadn h rfl dX4_relaysWorseThan_1)) (
  tab_cons (eO (so_callV h gw_139 gw_140 gw_141 gw_136 gw_142 ⟨by decide +kernel, by decide +kernel, by decide +kernel, by decide +kernel⟩ ⟨by decide +kernel, by decide +kernel⟩ dX4_relaysWorseThan_2)) (
  tab_cons (eS (st_dstoren h rfl dX4_relaysWorseThan_5)) (
  tab_cons (eS (st_iconst h (by decide +kernel) dX4_relaysWorseThan_6)) (
  tab_cons (eS (st_istore h dX4_relaysWorseThan_7)) (
  tab_cons (eS (st_iconst h (by decide +kernel) dX4_relaysWorseThan_9)) (
  tab_cons (eS (st_istore h dX4_relaysWorseThan_10)) (
  tab_cons (eS (st_iload h dX4_relaysWorseThan_12)) (
  tab_cons (eS (st_aloadn h rfl dX4_relaysWorseThan_14)) (
  tab_cons (eS (st_get h (ci := 4) (k := 0) rfl giX4 (by decide) rfl gw_111 dX4_relaysWorseThan_15)) (
  tab_cons (eS (st_get h (ci := 1) (k := 2) rfl giX1 (by decide) rfl gw_138 dX4_relaysWorseThan_18)) (
  tab_cons (eB (sb_icmp_ge h dX4_relaysWorseThan_21 (by decide))) (
  tab_cons (eS (st_aloadn h rfl dX4_relaysWorseThan_24)) (
  tab_cons (eS (st_iload h dX4_relaysWorseThan_25)) (
  tab_cons (eO (so_callV h gw_139 gw_140 gw_141 gw_136 gw_142 ⟨by decide +kernel, by decide +kernel, by decide +kernel, by decide +kernel⟩ ⟨by decide +kernel, by decide +kernel⟩ dX4_relaysWorseThan_27)) (
  tab_cons (eS (st_dstore h dX4_relaysWorseThan_30)) (
  tab_cons (eS (st_dload h dX4_relaysWorseThan_32)) (
  tab_cons (eS (st_dloadn h rfl dX4_relaysWorseThan_34)) (
  tab_cons (eS (st_dcmpg h dX4_relaysWorseThan_35)) (
  tab_cons (eB (sb_if_lt h dX4_relaysWorseThan_36 (by decide))) (
  tab_cons (eS (st_dload h dX4_relaysWorseThan_39)) (
  tab_cons (eS (st_dloadn h rfl dX4_relaysWorseThan_41)) (
  tab_cons (eS (st_dcmpl h dX4_relaysWorseThan_42)) (
  tab_cons (eB (sb_if_ne h dX4_relaysWorseThan_43 (by decide))) (
  tab_cons (eS (st_iload h dX4_relaysWorseThan_46)) (
  tab_cons (eS (st_iloadn h rfl dX4_relaysWorseThan_48)) (
  tab_cons (eB (sb_icmp_ge h dX4_relaysWorseThan_49 (by decide))) (
  tab_cons (eS (st_iinc h (by decide +kernel) dX4_relaysWorseThan_52)) (
  tab_cons (eS (st_iinc h (by decide +kernel) dX4_relaysWorseThan_55)) (
  tab_nil))))))))))))))))))))))))))))))
def tX4_relaysWorseThan_1 : Tb := [(58, .inl (f_id, 12)), (61, .inl (f_iload 4, 63)), (63, .inr (.inr (.inl (15, 64, 0, m0))))]
set_option maxRecDepth 10000 in
theorem kX4_relaysWorseThan_1 {X : Ctx} (h : sCx X mX4_relaysWorseThan) : tab X mX4_relaysWorseThan tX4_relaysWorseThan_1 :=
  tab_cons (eS (st_goto h dX4_relaysWorseThan_58 (by decide))) (
  tab_cons (eS (st_iload h dX4_relaysWorseThan_61)) (
  tab_cons (eO (so_ireturn h dX4_relaysWorseThan_63)) (
  tab_nil)))
def tX4_relaysWorseThan : Tb := tX4_relaysWorseThan_0 ++ (tX4_relaysWorseThan_1)
theorem kX4_relaysWorseThan {X : Ctx} (h : sCx X mX4_relaysWorseThan) : tab X mX4_relaysWorseThan tX4_relaysWorseThan := tab_app (kX4_relaysWorseThan_0 h) (kX4_relaysWorseThan_1 h)
theorem dX4_gradeSteps_0 : decode cX4_gradeSteps 0 = .ok (.iconst 1, 1) := by decide +kernel
theorem dX4_gradeSteps_1 : decode cX4_gradeSteps 1 = .ok (.istore_n 2, 1) := by decide +kernel
theorem dX4_gradeSteps_2 : decode cX4_gradeSteps 2 = .ok (.iload_n 2, 1) := by decide +kernel
theorem dX4_gradeSteps_3 : decode cX4_gradeSteps 3 = .ok (.bipush 20, 2) := by decide +kernel
theorem dX4_gradeSteps_5 : decode cX4_gradeSteps 5 = .ok (.if_icmp .gt 29, 3) := by decide +kernel
theorem dX4_gradeSteps_8 : decode cX4_gradeSteps 8 = .ok (.aload_n 0, 1) := by decide +kernel
theorem dX4_gradeSteps_9 : decode cX4_gradeSteps 9 = .ok (.getfield 21, 3) := by decide +kernel
theorem dX4_gradeSteps_12 : decode cX4_gradeSteps 12 = .ok (.getfield 78, 3) := by decide +kernel
theorem dX4_gradeSteps_15 : decode cX4_gradeSteps 15 = .ok (.iload_n 1, 1) := by decide +kernel
theorem dX4_gradeSteps_16 : decode cX4_gradeSteps 16 = .ok (.iload_n 2, 1) := by decide +kernel
theorem dX4_gradeSteps_17 : decode cX4_gradeSteps 17 = .ok (.iastore, 1) := by decide +kernel
theorem dX4_gradeSteps_18 : decode cX4_gradeSteps 18 = .ok (.aload_n 0, 1) := by decide +kernel
theorem dX4_gradeSteps_19 : decode cX4_gradeSteps 19 = .ok (.iload_n 1, 1) := by decide +kernel
theorem dX4_gradeSteps_20 : decode cX4_gradeSteps 20 = .ok (.invokevirtual 82, 3) := by decide +kernel
theorem dX4_gradeSteps_23 : decode cX4_gradeSteps 23 = .ok (.ifCond .eq 5, 3) := by decide +kernel
theorem dX4_gradeSteps_26 : decode cX4_gradeSteps 26 = .ok (.iconst 1, 1) := by decide +kernel
theorem dX4_gradeSteps_27 : decode cX4_gradeSteps 27 = .ok (.ireturn, 1) := by decide +kernel
theorem dX4_gradeSteps_28 : decode cX4_gradeSteps 28 = .ok (.iinc 2 1, 3) := by decide +kernel
theorem dX4_gradeSteps_31 : decode cX4_gradeSteps 31 = .ok (.goto (-29), 3) := by decide +kernel
theorem dX4_gradeSteps_34 : decode cX4_gradeSteps 34 = .ok (.iconst 0, 1) := by decide +kernel
theorem dX4_gradeSteps_35 : decode cX4_gradeSteps 35 = .ok (.ireturn, 1) := by decide +kernel
def tX4_gradeSteps_0 : Tb := [(0, .inl (f_ci (1), 1)), (1, .inl (f_istore 3 2, 2)), (2, .inl (f_iload 2, 3)), (3, .inl (f_ci (20), 5)), (5, .inr (.inl (b_icmp_gt, 34, 8))), (8, .inl (f_aload 0, 9)), (9, .inl (f_get 4 1, 12)), (12, .inl (f_get 2 2, 15)), (15, .inl (f_iload 1, 16)), (16, .inl (f_iload 2, 17)), (17, .inr (.inr (.inl (4, 18, 0, m0)))), (18, .inl (f_aload 0, 19)), (19, .inl (f_iload 1, 20)), (20, .inr (.inr (.inl (13, 23, 2, mX4_keepsMargins)))), (23, .inr (.inl (b_if_eq, 28, 26))), (26, .inl (f_ci (1), 27)), (27, .inr (.inr (.inl (15, 28, 0, m0)))), (28, .inl (f_iinc 3 2 (1), 31)), (31, .inl (f_id, 2)), (34, .inl (f_ci (0), 35)), (35, .inr (.inr (.inl (15, 36, 0, m0))))]
set_option maxRecDepth 10000 in
theorem kX4_gradeSteps_0 {X : Ctx} (h : sCx X mX4_gradeSteps) : tab X mX4_gradeSteps tX4_gradeSteps_0 :=
  tab_cons (eS (st_iconst h (by decide +kernel) dX4_gradeSteps_0)) (
  tab_cons (eS (st_istoren h rfl dX4_gradeSteps_1)) (
  tab_cons (eS (st_iloadn h rfl dX4_gradeSteps_2)) (
  tab_cons (eS (st_bipush h (by decide +kernel) dX4_gradeSteps_3)) (
  tab_cons (eB (sb_icmp_gt h dX4_gradeSteps_5 (by decide))) (
  tab_cons (eS (st_aloadn h rfl dX4_gradeSteps_8)) (
  tab_cons (eS (st_get h (ci := 4) (k := 1) rfl giX4 (by decide) rfl gw_116 dX4_gradeSteps_9)) (
  tab_cons (eS (st_get h (ci := 2) (k := 2) rfl giX2 (by decide) rfl gw_147 dX4_gradeSteps_12)) (
  tab_cons (eS (st_iloadn h rfl dX4_gradeSteps_15)) (
  tab_cons (eS (st_iloadn h rfl dX4_gradeSteps_16)) (
  tab_cons (eO (so_iastore h dX4_gradeSteps_17)) (
  tab_cons (eS (st_aloadn h rfl dX4_gradeSteps_18)) (
  tab_cons (eS (st_iloadn h rfl dX4_gradeSteps_19)) (
  tab_cons (eO (so_callV h gw_148 gw_149 gw_150 gw_136 gw_151 ⟨by decide +kernel, by decide +kernel, by decide +kernel, by decide +kernel⟩ ⟨by decide +kernel, by decide +kernel⟩ dX4_gradeSteps_20)) (
  tab_cons (eB (sb_if_eq h dX4_gradeSteps_23 (by decide))) (
  tab_cons (eS (st_iconst h (by decide +kernel) dX4_gradeSteps_26)) (
  tab_cons (eO (so_ireturn h dX4_gradeSteps_27)) (
  tab_cons (eS (st_iinc h (by decide +kernel) dX4_gradeSteps_28)) (
  tab_cons (eS (st_goto h dX4_gradeSteps_31 (by decide))) (
  tab_cons (eS (st_iconst h (by decide +kernel) dX4_gradeSteps_34)) (
  tab_cons (eO (so_ireturn h dX4_gradeSteps_35)) (
  tab_nil)))))))))))))))))))))
def tX4_gradeSteps : Tb := tX4_gradeSteps_0
theorem kX4_gradeSteps {X : Ctx} (h : sCx X mX4_gradeSteps) : tab X mX4_gradeSteps tX4_gradeSteps := kX4_gradeSteps_0 h
theorem dX4_keepsMargins_0 : decode cX4_keepsMargins 0 = .ok (.iload_n 1, 1) := by decide +kernel
theorem dX4_keepsMargins_1 : decode cX4_keepsMargins 1 = .ok (.iconst 1, 1) := by decide +kernel
theorem dX4_keepsMargins_2 : decode cX4_keepsMargins 2 = .ok (.iadd, 1) := by decide +kernel
theorem dX4_keepsMargins_3 : decode cX4_keepsMargins 3 = .ok (.istore_n 2, 1) := by decide +kernel
theorem dX4_keepsMargins_4 : decode cX4_keepsMargins 4 = .ok (.iload_n 2, 1) := by decide +kernel
theorem dX4_keepsMargins_5 : decode cX4_keepsMargins 5 = .ok (.aload_n 0, 1) := by decide +kernel
theorem dX4_keepsMargins_6 : decode cX4_keepsMargins 6 = .ok (.getfield 12, 3) := by decide +kernel
theorem dX4_keepsMargins_9 : decode cX4_keepsMargins 9 = .ok (.getfield 67, 3) := by decide +kernel
theorem dX4_keepsMargins_12 : decode cX4_keepsMargins 12 = .ok (.if_icmp .ge 36, 3) := by decide +kernel
theorem dX4_keepsMargins_15 : decode cX4_keepsMargins 15 = .ok (.aload_n 0, 1) := by decide +kernel
theorem dX4_keepsMargins_16 : decode cX4_keepsMargins 16 = .ok (.getfield 12, 3) := by decide +kernel
theorem dX4_keepsMargins_19 : decode cX4_keepsMargins 19 = .ok (.iload_n 2, 1) := by decide +kernel
theorem dX4_keepsMargins_20 : decode cX4_keepsMargins 20 = .ok (.invokevirtual 52, 3) := by decide +kernel
theorem dX4_keepsMargins_23 : decode cX4_keepsMargins 23 = .ok (.iload_n 1, 1) := by decide +kernel
theorem dX4_keepsMargins_24 : decode cX4_keepsMargins 24 = .ok (.if_icmp .ne 18, 3) := by decide +kernel
theorem dX4_keepsMargins_27 : decode cX4_keepsMargins 27 = .ok (.aload_n 0, 1) := by decide +kernel
theorem dX4_keepsMargins_28 : decode cX4_keepsMargins 28 = .ok (.iload_n 2, 1) := by decide +kernel
theorem dX4_keepsMargins_29 : decode cX4_keepsMargins 29 = .ok (.invokevirtual 71, 3) := by decide +kernel
theorem dX4_keepsMargins_32 : decode cX4_keepsMargins 32 = .ok (.aload_n 0, 1) := by decide +kernel
theorem dX4_keepsMargins_33 : decode cX4_keepsMargins 33 = .ok (.getfield 34, 3) := by decide +kernel
theorem dX4_keepsMargins_36 : decode cX4_keepsMargins 36 = .ok (.dcmp .g, 1) := by decide +kernel
theorem dX4_keepsMargins_37 : decode cX4_keepsMargins 37 = .ok (.ifCond .ge 5, 3) := by decide +kernel
theorem dX4_keepsMargins_40 : decode cX4_keepsMargins 40 = .ok (.iconst 0, 1) := by decide +kernel
theorem dX4_keepsMargins_41 : decode cX4_keepsMargins 41 = .ok (.ireturn, 1) := by decide +kernel
theorem dX4_keepsMargins_42 : decode cX4_keepsMargins 42 = .ok (.iinc 2 1, 3) := by decide +kernel
theorem dX4_keepsMargins_45 : decode cX4_keepsMargins 45 = .ok (.goto (-41), 3) := by decide +kernel
theorem dX4_keepsMargins_48 : decode cX4_keepsMargins 48 = .ok (.iconst 1, 1) := by decide +kernel
theorem dX4_keepsMargins_49 : decode cX4_keepsMargins 49 = .ok (.ireturn, 1) := by decide +kernel
def tX4_keepsMargins_0 : Tb := [(0, .inl (f_iload 1, 1)), (1, .inl (f_ci (1), 2)), (2, .inl (f_iadd, 3)), (3, .inl (f_istore 3 2, 4)), (4, .inl (f_iload 2, 5)), (5, .inl (f_aload 0, 6)), (6, .inl (f_get 4 0, 9)), (9, .inl (f_get 1 2, 12)), (12, .inr (.inl (b_icmp_ge, 48, 15))), (15, .inl (f_aload 0, 16)), (16, .inl (f_get 4 0, 19)), (19, .inl (f_iload 2, 20)), (20, .inr (.inr (.inl (13, 23, 2, mX1_lineBefore)))), (23, .inl (f_iload 1, 24)), (24, .inr (.inl (b_icmp_eq, 27, 42))), (27, .inl (f_aload 0, 28)), (28, .inl (f_iload 2, 29)), (29, .inr (.inr (.inl (13, 32, 2, mX4_worstMargin)))), (32, .inl (f_aload 0, 33)), (33, .inl (f_get 4 3, 36)), (36, .inl (f_dcmpg, 37)), (37, .inr (.inl (b_if_ge, 42, 40))), (40, .inl (f_ci (0), 41)), (41, .inr (.inr (.inl (15, 42, 0, m0)))), (42, .inl (f_iinc 3 2 (1), 45)), (45, .inl (f_id, 4)), (48, .inl (f_ci (1), 49)), (49, .inr (.inr (.inl (15, 50, 0, m0))))]
set_option maxRecDepth 10000 in
theorem kX4_keepsMargins_0 {X : Ctx} (h : sCx X mX4_keepsMargins) : tab X mX4_keepsMargins tX4_keepsMargins_0 :=
  tab_cons (eS (st_iloadn h rfl dX4_keepsMargins_0)) (
  tab_cons (eS (st_iconst h (by decide +kernel) dX4_keepsMargins_1)) (
  tab_cons (eS (st_iadd h dX4_keepsMargins_2)) (
  tab_cons (eS (st_istoren h rfl dX4_keepsMargins_3)) (
  tab_cons (eS (st_iloadn h rfl dX4_keepsMargins_4)) (
  tab_cons (eS (st_aloadn h rfl dX4_keepsMargins_5)) (
  tab_cons (eS (st_get h (ci := 4) (k := 0) rfl giX4 (by decide) rfl gw_111 dX4_keepsMargins_6)) (
  tab_cons (eS (st_get h (ci := 1) (k := 2) rfl giX1 (by decide) rfl gw_138 dX4_keepsMargins_9)) (
  tab_cons (eB (sb_icmp_ge h dX4_keepsMargins_12 (by decide))) (
  tab_cons (eS (st_aloadn h rfl dX4_keepsMargins_15)) (
  tab_cons (eS (st_get h (ci := 4) (k := 0) rfl giX4 (by decide) rfl gw_111 dX4_keepsMargins_16)) (
  tab_cons (eS (st_iloadn h rfl dX4_keepsMargins_19)) (
  tab_cons (eO (so_callV h gw_128 gw_129 gw_130 gw_53 gw_131 ⟨by decide +kernel, by decide +kernel, by decide +kernel, by decide +kernel⟩ ⟨by decide +kernel, by decide +kernel⟩ dX4_keepsMargins_20)) (
  tab_cons (eS (st_iloadn h rfl dX4_keepsMargins_23)) (
  tab_cons (eB (sb_icmp_ne h dX4_keepsMargins_24 (by decide))) (
  tab_cons (eS (st_aloadn h rfl dX4_keepsMargins_27)) (
  tab_cons (eS (st_iloadn h rfl dX4_keepsMargins_28)) (
  tab_cons (eO (so_callV h gw_139 gw_140 gw_141 gw_136 gw_142 ⟨by decide +kernel, by decide +kernel, by decide +kernel, by decide +kernel⟩ ⟨by decide +kernel, by decide +kernel⟩ dX4_keepsMargins_29)) (
  tab_cons (eS (st_aloadn h rfl dX4_keepsMargins_32)) (
  tab_cons (eS (st_get h (ci := 4) (k := 3) rfl giX4 (by decide) rfl gw_126 dX4_keepsMargins_33)) (
  tab_cons (eS (st_dcmpg h dX4_keepsMargins_36)) (
  tab_cons (eB (sb_if_ge h dX4_keepsMargins_37 (by decide))) (
  tab_cons (eS (st_iconst h (by decide +kernel) dX4_keepsMargins_40)) (
  tab_cons (eO (so_ireturn h dX4_keepsMargins_41)) (
  tab_cons (eS (st_iinc h (by decide +kernel) dX4_keepsMargins_42)) (
  tab_cons (eS (st_goto h dX4_keepsMargins_45 (by decide))) (
  tab_cons (eS (st_iconst h (by decide +kernel) dX4_keepsMargins_48)) (
  tab_cons (eO (so_ireturn h dX4_keepsMargins_49)) (
  tab_nil))))))))))))))))))))))))))))
def tX4_keepsMargins : Tb := tX4_keepsMargins_0
theorem kX4_keepsMargins {X : Ctx} (h : sCx X mX4_keepsMargins) : tab X mX4_keepsMargins tX4_keepsMargins := kX4_keepsMargins_0 h
theorem dX5_push_0 : decode cX5_push 0 = .ok (.aload_n 0, 1) := by decide +kernel
theorem dX5_push_1 : decode cX5_push 1 = .ok (.getfield 11, 3) := by decide +kernel
theorem dX5_push_4 : decode cX5_push 4 = .ok (.aload_n 0, 1) := by decide +kernel
theorem dX5_push_5 : decode cX5_push 5 = .ok (.getfield 18, 3) := by decide +kernel
theorem dX5_push_8 : decode cX5_push 8 = .ok (.aaload, 1) := by decide +kernel
theorem dX5_push_9 : decode cX5_push 9 = .ok (.aload_n 1, 1) := by decide +kernel
theorem dX5_push_10 : decode cX5_push 10 = .ok (.invokevirtual 22, 3) := by decide +kernel
theorem dX5_push_13 : decode cX5_push 13 = .ok (.aload_n 0, 1) := by decide +kernel
theorem dX5_push_14 : decode cX5_push 14 = .ok (.aload_n 0, 1) := by decide +kernel
theorem dX5_push_15 : decode cX5_push 15 = .ok (.getfield 18, 3) := by decide +kernel
theorem dX5_push_18 : decode cX5_push 18 = .ok (.iconst 1, 1) := by decide +kernel
theorem dX5_push_19 : decode cX5_push 19 = .ok (.iadd, 1) := by decide +kernel
theorem dX5_push_20 : decode cX5_push 20 = .ok (.iconst 4, 1) := by decide +kernel
theorem dX5_push_21 : decode cX5_push 21 = .ok (.irem, 1) := by decide +kernel
theorem dX5_push_22 : decode cX5_push 22 = .ok (.putfield 18, 3) := by decide +kernel
theorem dX5_push_25 : decode cX5_push 25 = .ok (.aload_n 0, 1) := by decide +kernel
theorem dX5_push_26 : decode cX5_push 26 = .ok (.aload_n 0, 1) := by decide +kernel
theorem dX5_push_27 : decode cX5_push 27 = .ok (.getfield 26, 3) := by decide +kernel
theorem dX5_push_30 : decode cX5_push 30 = .ok (.iconst 1, 1) := by decide +kernel
theorem dX5_push_31 : decode cX5_push 31 = .ok (.iadd, 1) := by decide +kernel
theorem dX5_push_32 : decode cX5_push 32 = .ok (.iconst 4, 1) := by decide +kernel
theorem dX5_push_33 : decode cX5_push 33 = .ok (.invokestatic 29, 3) := by decide +kernel
theorem dX5_push_36 : decode cX5_push 36 = .ok (.putfield 26, 3) := by decide +kernel
theorem dX5_push_39 : decode cX5_push 39 = .ok (.return_, 1) := by decide +kernel
def tX5_push_0 : Tb := [(0, .inl (f_aload 0, 1)), (1, .inl (f_get 5 2, 4)), (4, .inl (f_aload 0, 5)), (5, .inl (f_get 5 1, 8)), (8, .inr (.inr (.inl (3, 9, 0, m0)))), (9, .inl (f_aload 1, 10)), (10, .inr (.inr (.inl (13, 13, 2, mX4_copyFrom)))), (13, .inl (f_aload 0, 14)), (14, .inl (f_aload 0, 15)), (15, .inl (f_get 5 1, 18)), (18, .inl (f_ci (1), 19)), (19, .inl (f_iadd, 20)), (20, .inl (f_ci (4), 21)), (21, .inr (.inr (.inl (12, 22, 0, m0)))), (22, .inl (f_putI 5 1, 25)), (25, .inl (f_aload 0, 26)), (26, .inl (f_aload 0, 27)), (27, .inl (f_get 5 0, 30)), (30, .inl (f_ci (1), 31)), (31, .inl (f_iadd, 32)), (32, .inl (f_ci (4), 33)), (33, .inr (.inr (.inl (21, 36, 0, m0)))), (36, .inl (f_putI 5 0, 39)), (39, .inr (.inr (.inl (18, 40, 0, m0))))]
set_option maxRecDepth 10000 in
theorem kX5_push_0 {X : Ctx} (h : sCx X mX5_push) : tab X mX5_push tX5_push_0 :=
  tab_cons (eS (st_aloadn h rfl dX5_push_0)) (
  tab_cons (eS (st_get h (ci := 5) (k := 2) rfl giX5 (by decide) rfl gw_152 dX5_push_1)) (
  tab_cons (eS (st_aloadn h rfl dX5_push_4)) (
  tab_cons (eS (st_get h (ci := 5) (k := 1) rfl giX5 (by decide) rfl gw_153 dX5_push_5)) (
  tab_cons (eO (so_aaload h dX5_push_8)) (
  tab_cons (eS (st_aloadn h rfl dX5_push_9)) (
  tab_cons (eO (so_callV h gw_154 gw_155 gw_156 gw_136 gw_157 ⟨by decide +kernel, by decide +kernel, by decide +kernel, by decide +kernel⟩ ⟨by decide +kernel, by decide +kernel⟩ dX5_push_10)) (
  tab_cons (eS (st_aloadn h rfl dX5_push_13)) (
  tab_cons (eS (st_aloadn h rfl dX5_push_14)) (
  tab_cons (eS (st_get h (ci := 5) (k := 1) rfl giX5 (by decide) rfl gw_153 dX5_push_15)) (
  tab_cons (eS (st_iconst h (by decide +kernel) dX5_push_18)) (
  tab_cons (eS (st_iadd h dX5_push_19)) (
  tab_cons (eS (st_iconst h (by decide +kernel) dX5_push_20)) (
  tab_cons (eO (so_irem h dX5_push_21)) (
  tab_cons (eS (st_putI h (ci := 5) (k := 1) tyX5 tyX5_ok nmX5 rfl giX5 (by decide) rfl rfl (by decide +kernel) gw_153 dX5_push_22)) (
  tab_cons (eS (st_aloadn h rfl dX5_push_25)) (
  tab_cons (eS (st_aloadn h rfl dX5_push_26)) (
  tab_cons (eS (st_get h (ci := 5) (k := 0) rfl giX5 (by decide) rfl gw_158 dX5_push_27)) (
  tab_cons (eS (st_iconst h (by decide +kernel) dX5_push_30)) (
  tab_cons (eS (st_iadd h dX5_push_31)) (
  tab_cons (eS (st_iconst h (by decide +kernel) dX5_push_32)) (
  tab_cons (eO (so_mmin h gw_159 gw_160 gw_107 gw_161 (by decide +kernel) dX5_push_33)) (
  tab_cons (eS (st_putI h (ci := 5) (k := 0) tyX5 tyX5_ok nmX5 rfl giX5 (by decide) rfl rfl (by decide +kernel) gw_158 dX5_push_36)) (
  tab_cons (eO (so_return h dX5_push_39)) (
  tab_nil))))))))))))))))))))))))
def tX5_push : Tb := tX5_push_0
theorem kX5_push {X : Ctx} (h : sCx X mX5_push) : tab X mX5_push tX5_push := kX5_push_0 h
theorem dX5_popInto_0 : decode cX5_popInto 0 = .ok (.aload_n 0, 1) := by decide +kernel
theorem dX5_popInto_1 : decode cX5_popInto 1 = .ok (.aload_n 0, 1) := by decide +kernel
theorem dX5_popInto_2 : decode cX5_popInto 2 = .ok (.getfield 18, 3) := by decide +kernel
theorem dX5_popInto_5 : decode cX5_popInto 5 = .ok (.iconst 4, 1) := by decide +kernel
theorem dX5_popInto_6 : decode cX5_popInto 6 = .ok (.iadd, 1) := by decide +kernel
theorem dX5_popInto_7 : decode cX5_popInto 7 = .ok (.iconst 1, 1) := by decide +kernel
theorem dX5_popInto_8 : decode cX5_popInto 8 = .ok (.isub, 1) := by decide +kernel
theorem dX5_popInto_9 : decode cX5_popInto 9 = .ok (.iconst 4, 1) := by decide +kernel
theorem dX5_popInto_10 : decode cX5_popInto 10 = .ok (.irem, 1) := by decide +kernel
theorem dX5_popInto_11 : decode cX5_popInto 11 = .ok (.putfield 18, 3) := by decide +kernel
theorem dX5_popInto_14 : decode cX5_popInto 14 = .ok (.aload_n 1, 1) := by decide +kernel
theorem dX5_popInto_15 : decode cX5_popInto 15 = .ok (.aload_n 0, 1) := by decide +kernel
theorem dX5_popInto_16 : decode cX5_popInto 16 = .ok (.getfield 11, 3) := by decide +kernel
theorem dX5_popInto_19 : decode cX5_popInto 19 = .ok (.aload_n 0, 1) := by decide +kernel
theorem dX5_popInto_20 : decode cX5_popInto 20 = .ok (.getfield 18, 3) := by decide +kernel
theorem dX5_popInto_23 : decode cX5_popInto 23 = .ok (.aaload, 1) := by decide +kernel
theorem dX5_popInto_24 : decode cX5_popInto 24 = .ok (.invokevirtual 22, 3) := by decide +kernel
theorem dX5_popInto_27 : decode cX5_popInto 27 = .ok (.aload_n 0, 1) := by decide +kernel
theorem dX5_popInto_28 : decode cX5_popInto 28 = .ok (.dup, 1) := by decide +kernel
theorem dX5_popInto_29 : decode cX5_popInto 29 = .ok (.getfield 26, 3) := by decide +kernel
theorem dX5_popInto_32 : decode cX5_popInto 32 = .ok (.iconst 1, 1) := by decide +kernel
theorem dX5_popInto_33 : decode cX5_popInto 33 = .ok (.isub, 1) := by decide +kernel
theorem dX5_popInto_34 : decode cX5_popInto 34 = .ok (.putfield 26, 3) := by decide +kernel
theorem dX5_popInto_37 : decode cX5_popInto 37 = .ok (.return_, 1) := by decide +kernel
def tX5_popInto_0 : Tb := [(0, .inl (f_aload 0, 1)), (1, .inl (f_aload 0, 2)), (2, .inl (f_get 5 1, 5)), (5, .inl (f_ci (4), 6)), (6, .inl (f_iadd, 7)), (7, .inl (f_ci (1), 8)), (8, .inl (f_isub, 9)), (9, .inl (f_ci (4), 10)), (10, .inr (.inr (.inl (12, 11, 0, m0)))), (11, .inl (f_putI 5 1, 14)), (14, .inl (f_aload 1, 15)), (15, .inl (f_aload 0, 16)), (16, .inl (f_get 5 2, 19)), (19, .inl (f_aload 0, 20)), (20, .inl (f_get 5 1, 23)), (23, .inr (.inr (.inl (3, 24, 0, m0)))), (24, .inr (.inr (.inl (13, 27, 2, mX4_copyFrom)))), (27, .inl (f_aload 0, 28)), (28, .inl (f_dup, 29)), (29, .inl (f_get 5 0, 32)), (32, .inl (f_ci (1), 33)), (33, .inl (f_isub, 34)), (34, .inl (f_putI 5 0, 37)), (37, .inr (.inr (.inl (18, 38, 0, m0))))]
set_option maxRecDepth 10000 in
theorem kX5_popInto_0 {X : Ctx} (h : sCx X mX5_popInto) : tab X mX5_popInto tX5_popInto_0 :=
  tab_cons (eS (st_aloadn h rfl dX5_popInto_0)) (
  tab_cons (eS (st_aloadn h rfl dX5_popInto_1)) (
  tab_cons (eS (st_get h (ci := 5) (k := 1) rfl giX5 (by decide) rfl gw_153 dX5_popInto_2)) (
  tab_cons (eS (st_iconst h (by decide +kernel) dX5_popInto_5)) (
  tab_cons (eS (st_iadd h dX5_popInto_6)) (
  tab_cons (eS (st_iconst h (by decide +kernel) dX5_popInto_7)) (
  tab_cons (eS (st_isub h dX5_popInto_8)) (
  tab_cons (eS (st_iconst h (by decide +kernel) dX5_popInto_9)) (
  tab_cons (eO (so_irem h dX5_popInto_10)) (
  tab_cons (eS (st_putI h (ci := 5) (k := 1) tyX5 tyX5_ok nmX5 rfl giX5 (by decide) rfl rfl (by decide +kernel) gw_153 dX5_popInto_11)) (
  tab_cons (eS (st_aloadn h rfl dX5_popInto_14)) (
  tab_cons (eS (st_aloadn h rfl dX5_popInto_15)) (
  tab_cons (eS (st_get h (ci := 5) (k := 2) rfl giX5 (by decide) rfl gw_152 dX5_popInto_16)) (
  tab_cons (eS (st_aloadn h rfl dX5_popInto_19)) (
  tab_cons (eS (st_get h (ci := 5) (k := 1) rfl giX5 (by decide) rfl gw_153 dX5_popInto_20)) (
  tab_cons (eO (so_aaload h dX5_popInto_23)) (
  tab_cons (eO (so_callV h gw_154 gw_155 gw_156 gw_136 gw_157 ⟨by decide +kernel, by decide +kernel, by decide +kernel, by decide +kernel⟩ ⟨by decide +kernel, by decide +kernel⟩ dX5_popInto_24)) (
  tab_cons (eS (st_aloadn h rfl dX5_popInto_27)) (
  tab_cons (eS (st_dup h dX5_popInto_28)) (
  tab_cons (eS (st_get h (ci := 5) (k := 0) rfl giX5 (by decide) rfl gw_158 dX5_popInto_29)) (
  tab_cons (eS (st_iconst h (by decide +kernel) dX5_popInto_32)) (
  tab_cons (eS (st_isub h dX5_popInto_33)) (
  tab_cons (eS (st_putI h (ci := 5) (k := 0) tyX5 tyX5_ok nmX5 rfl giX5 (by decide) rfl rfl (by decide +kernel) gw_158 dX5_popInto_34)) (
  tab_cons (eO (so_return h dX5_popInto_37)) (
  tab_nil))))))))))))))))))))))))
def tX5_popInto : Tb := tX5_popInto_0
theorem kX5_popInto {X : Ctx} (h : sCx X mX5_popInto) : tab X mX5_popInto tX5_popInto := kX5_popInto_0 h
theorem dJxe99ae_isNaN_b9ae7_0 : decode cJxe99ae_isNaN_b9ae7 0 = .ok (.dload_n 0, 1) := by decide +kernel
theorem dJxe99ae_isNaN_b9ae7_1 : decode cJxe99ae_isNaN_b9ae7 1 = .ok (.dload_n 0, 1) := by decide +kernel
theorem dJxe99ae_isNaN_b9ae7_2 : decode cJxe99ae_isNaN_b9ae7 2 = .ok (.dcmp .l, 1) := by decide +kernel
theorem dJxe99ae_isNaN_b9ae7_3 : decode cJxe99ae_isNaN_b9ae7 3 = .ok (.ifCond .eq 7, 3) := by decide +kernel
theorem dJxe99ae_isNaN_b9ae7_6 : decode cJxe99ae_isNaN_b9ae7 6 = .ok (.iconst 1, 1) := by decide +kernel
theorem dJxe99ae_isNaN_b9ae7_7 : decode cJxe99ae_isNaN_b9ae7 7 = .ok (.goto 4, 3) := by decide +kernel
theorem dJxe99ae_isNaN_b9ae7_10 : decode cJxe99ae_isNaN_b9ae7 10 = .ok (.iconst 0, 1) := by decide +kernel
theorem dJxe99ae_isNaN_b9ae7_11 : decode cJxe99ae_isNaN_b9ae7 11 = .ok (.ireturn, 1) := by decide +kernel
def tJxe99ae_isNaN_b9ae7_0 : Tb := [(0, .inl (f_dload 0, 1)), (1, .inl (f_dload 0, 2)), (2, .inl (f_dcmpl, 3)), (3, .inr (.inl (b_if_eq, 10, 6))), (6, .inl (f_ci (1), 7)), (7, .inl (f_id, 11)), (10, .inl (f_ci (0), 11)), (11, .inr (.inr (.inl (15, 12, 0, m0))))]
set_option maxRecDepth 10000 in
theorem kJxe99ae_isNaN_b9ae7_0 {X : Ctx} (h : sCx X mJxe99ae_isNaN_b9ae7) : tab X mJxe99ae_isNaN_b9ae7 tJxe99ae_isNaN_b9ae7_0 :=
  tab_cons (eS (st_dloadn h rfl dJxe99ae_isNaN_b9ae7_0)) (
  tab_cons (eS (st_dloadn h rfl dJxe99ae_isNaN_b9ae7_1)) (
  tab_cons (eS (st_dcmpl h dJxe99ae_isNaN_b9ae7_2)) (
  tab_cons (eB (sb_if_eq h dJxe99ae_isNaN_b9ae7_3 (by decide))) (
  tab_cons (eS (st_iconst h (by decide +kernel) dJxe99ae_isNaN_b9ae7_6)) (
  tab_cons (eS (st_goto h dJxe99ae_isNaN_b9ae7_7 (by decide))) (
  tab_cons (eS (st_iconst h (by decide +kernel) dJxe99ae_isNaN_b9ae7_10)) (
  tab_cons (eO (so_ireturn h dJxe99ae_isNaN_b9ae7_11)) (
  tab_nil))))))))
def tJxe99ae_isNaN_b9ae7 : Tb := tJxe99ae_isNaN_b9ae7_0
theorem kJxe99ae_isNaN_b9ae7 {X : Ctx} (h : sCx X mJxe99ae_isNaN_b9ae7) : tab X mJxe99ae_isNaN_b9ae7 tJxe99ae_isNaN_b9ae7 := kJxe99ae_isNaN_b9ae7_0 h
theorem dJxe99ae_doubleToLongBits_ccdee_0 : decode cJxe99ae_doubleToLongBits_ccdee 0 = .ok (.dload_n 0, 1) := by decide +kernel
theorem dJxe99ae_doubleToLongBits_ccdee_1 : decode cJxe99ae_doubleToLongBits_ccdee 1 = .ok (.invokestatic 122, 3) := by decide +kernel
theorem dJxe99ae_doubleToLongBits_ccdee_4 : decode cJxe99ae_doubleToLongBits_ccdee 4 = .ok (.ifCond .ne 8, 3) := by decide +kernel
theorem dJxe99ae_doubleToLongBits_ccdee_7 : decode cJxe99ae_doubleToLongBits_ccdee 7 = .ok (.dload_n 0, 1) := by decide +kernel
theorem dJxe99ae_doubleToLongBits_ccdee_8 : decode cJxe99ae_doubleToLongBits_ccdee 8 = .ok (.invokestatic 134, 3) := by decide +kernel
theorem dJxe99ae_doubleToLongBits_ccdee_11 : decode cJxe99ae_doubleToLongBits_ccdee 11 = .ok (.lreturn, 1) := by decide +kernel
theorem dJxe99ae_doubleToLongBits_ccdee_12 : decode cJxe99ae_doubleToLongBits_ccdee 12 = .ok (.ldc2_w 137, 3) := by decide +kernel
theorem dJxe99ae_doubleToLongBits_ccdee_15 : decode cJxe99ae_doubleToLongBits_ccdee 15 = .ok (.lreturn, 1) := by decide +kernel
def tJxe99ae_doubleToLongBits_ccdee_0 : Tb := [(0, .inl (f_dload 0, 1)), (1, .inr (.inr (.inl (14, 4, 1, mJxe99ae_isNaN_b9ae7)))), (4, .inr (.inl (b_if_eq, 7, 12))), (7, .inl (f_dload 0, 8)), (8, .inr (.inr (.inl (22, 11, 0, m0)))), (11, .inr (.inr (.inl (17, 12, 0, m0)))), (12, .inl (f_cl (9221120237041090560), 15)), (15, .inr (.inr (.inl (17, 16, 0, m0))))]
set_option maxRecDepth 10000 in
theorem kJxe99ae_doubleToLongBits_ccdee_0 {X : Ctx} (h : sCx X mJxe99ae_doubleToLongBits_ccdee) : tab X mJxe99ae_doubleToLongBits_ccdee tJxe99ae_doubleToLongBits_ccdee_0 :=
  tab_cons (eS (st_dloadn h rfl dJxe99ae_doubleToLongBits_ccdee_0)) (
  tab_cons (eO (so_callS h gw_435 gw_436 gw_426 gw_437 ⟨by decide +kernel, by decide +kernel, by decide +kernel⟩ ⟨by decide +kernel, by decide +kernel⟩ dJxe99ae_doubleToLongBits_ccdee_1)) (
  tab_cons (eB (sb_if_ne h dJxe99ae_doubleToLongBits_ccdee_4 (by decide))) (
  tab_cons (eS (st_dloadn h rfl dJxe99ae_doubleToLongBits_ccdee_7)) (
  tab_cons (eO (so_raw h gw_438 gw_439 gw_440 gw_426 (by decide +kernel) dJxe99ae_doubleToLongBits_ccdee_8)) (
  tab_cons (eO (so_lreturn h dJxe99ae_doubleToLongBits_ccdee_11)) (
  tab_cons (eS (st_ldc2l h gw_441 dJxe99ae_doubleToLongBits_ccdee_12)) (
  tab_cons (eO (so_lreturn h dJxe99ae_doubleToLongBits_ccdee_15)) (
  tab_nil))))))))
def tJxe99ae_doubleToLongBits_ccdee : Tb := tJxe99ae_doubleToLongBits_ccdee_0
theorem kJxe99ae_doubleToLongBits_ccdee {X : Ctx} (h : sCx X mJxe99ae_doubleToLongBits_ccdee) : tab X mJxe99ae_doubleToLongBits_ccdee tJxe99ae_doubleToLongBits_ccdee := kJxe99ae_doubleToLongBits_ccdee_0 h
theorem dJ6_bitCount_0f7a4_0 : decode cJ6_bitCount_0f7a4 0 = .ok (.iload_n 0, 1) := by decide +kernel
theorem dJ6_bitCount_0f7a4_1 : decode cJ6_bitCount_0f7a4 1 = .ok (.iload_n 0, 1) := by decide +kernel
theorem dJ6_bitCount_0f7a4_2 : decode cJ6_bitCount_0f7a4 2 = .ok (.iconst 1, 1) := by decide +kernel
theorem dJ6_bitCount_0f7a4_3 : decode cJ6_bitCount_0f7a4 3 = .ok (.iushr, 1) := by decide +kernel
theorem dJ6_bitCount_0f7a4_4 : decode cJ6_bitCount_0f7a4 4 = .ok (.ldc_w 265, 3) := by decide +kernel
theorem dJ6_bitCount_0f7a4_7 : decode cJ6_bitCount_0f7a4 7 = .ok (.iand, 1) := by decide +kernel
theorem dJ6_bitCount_0f7a4_8 : decode cJ6_bitCount_0f7a4 8 = .ok (.isub, 1) := by decide +kernel
theorem dJ6_bitCount_0f7a4_9 : decode cJ6_bitCount_0f7a4 9 = .ok (.istore_n 0, 1) := by decide +kernel
theorem dJ6_bitCount_0f7a4_10 : decode cJ6_bitCount_0f7a4 10 = .ok (.iload_n 0, 1) := by decide +kernel
theorem dJ6_bitCount_0f7a4_11 : decode cJ6_bitCount_0f7a4 11 = .ok (.ldc_w 266, 3) := by decide +kernel
theorem dJ6_bitCount_0f7a4_14 : decode cJ6_bitCount_0f7a4 14 = .ok (.iand, 1) := by decide +kernel
theorem dJ6_bitCount_0f7a4_15 : decode cJ6_bitCount_0f7a4 15 = .ok (.iload_n 0, 1) := by decide +kernel
theorem dJ6_bitCount_0f7a4_16 : decode cJ6_bitCount_0f7a4 16 = .ok (.iconst 2, 1) := by decide +kernel
theorem dJ6_bitCount_0f7a4_17 : decode cJ6_bitCount_0f7a4 17 = .ok (.iushr, 1) := by decide +kernel
theorem dJ6_bitCount_0f7a4_18 : decode cJ6_bitCount_0f7a4 18 = .ok (.ldc_w 266, 3) := by decide +kernel
theorem dJ6_bitCount_0f7a4_21 : decode cJ6_bitCount_0f7a4 21 = .ok (.iand, 1) := by decide +kernel
theorem dJ6_bitCount_0f7a4_22 : decode cJ6_bitCount_0f7a4 22 = .ok (.iadd, 1) := by decide +kernel
theorem dJ6_bitCount_0f7a4_23 : decode cJ6_bitCount_0f7a4 23 = .ok (.istore_n 0, 1) := by decide +kernel
theorem dJ6_bitCount_0f7a4_24 : decode cJ6_bitCount_0f7a4 24 = .ok (.iload_n 0, 1) := by decide +kernel
theorem dJ6_bitCount_0f7a4_25 : decode cJ6_bitCount_0f7a4 25 = .ok (.iload_n 0, 1) := by decide +kernel
theorem dJ6_bitCount_0f7a4_26 : decode cJ6_bitCount_0f7a4 26 = .ok (.iconst 4, 1) := by decide +kernel
theorem dJ6_bitCount_0f7a4_27 : decode cJ6_bitCount_0f7a4 27 = .ok (.iushr, 1) := by decide +kernel
theorem dJ6_bitCount_0f7a4_28 : decode cJ6_bitCount_0f7a4 28 = .ok (.iadd, 1) := by decide +kernel
theorem dJ6_bitCount_0f7a4_29 : decode cJ6_bitCount_0f7a4 29 = .ok (.ldc_w 267, 3) := by decide +kernel
theorem dJ6_bitCount_0f7a4_32 : decode cJ6_bitCount_0f7a4 32 = .ok (.iand, 1) := by decide +kernel
theorem dJ6_bitCount_0f7a4_33 : decode cJ6_bitCount_0f7a4 33 = .ok (.istore_n 0, 1) := by decide +kernel
theorem dJ6_bitCount_0f7a4_34 : decode cJ6_bitCount_0f7a4 34 = .ok (.iload_n 0, 1) := by decide +kernel
theorem dJ6_bitCount_0f7a4_35 : decode cJ6_bitCount_0f7a4 35 = .ok (.iload_n 0, 1) := by decide +kernel
theorem dJ6_bitCount_0f7a4_36 : decode cJ6_bitCount_0f7a4 36 = .ok (.bipush 8, 2) := by decide +kernel
theorem dJ6_bitCount_0f7a4_38 : decode cJ6_bitCount_0f7a4 38 = .ok (.iushr, 1) := by decide +kernel
theorem dJ6_bitCount_0f7a4_39 : decode cJ6_bitCount_0f7a4 39 = .ok (.iadd, 1) := by decide +kernel
theorem dJ6_bitCount_0f7a4_40 : decode cJ6_bitCount_0f7a4 40 = .ok (.istore_n 0, 1) := by decide +kernel
theorem dJ6_bitCount_0f7a4_41 : decode cJ6_bitCount_0f7a4 41 = .ok (.iload_n 0, 1) := by decide +kernel
theorem dJ6_bitCount_0f7a4_42 : decode cJ6_bitCount_0f7a4 42 = .ok (.iload_n 0, 1) := by decide +kernel
theorem dJ6_bitCount_0f7a4_43 : decode cJ6_bitCount_0f7a4 43 = .ok (.bipush 16, 2) := by decide +kernel
theorem dJ6_bitCount_0f7a4_45 : decode cJ6_bitCount_0f7a4 45 = .ok (.iushr, 1) := by decide +kernel
theorem dJ6_bitCount_0f7a4_46 : decode cJ6_bitCount_0f7a4 46 = .ok (.iadd, 1) := by decide +kernel
theorem dJ6_bitCount_0f7a4_47 : decode cJ6_bitCount_0f7a4 47 = .ok (.istore_n 0, 1) := by decide +kernel
theorem dJ6_bitCount_0f7a4_48 : decode cJ6_bitCount_0f7a4 48 = .ok (.iload_n 0, 1) := by decide +kernel
theorem dJ6_bitCount_0f7a4_49 : decode cJ6_bitCount_0f7a4 49 = .ok (.bipush 63, 2) := by decide +kernel
theorem dJ6_bitCount_0f7a4_51 : decode cJ6_bitCount_0f7a4 51 = .ok (.iand, 1) := by decide +kernel
theorem dJ6_bitCount_0f7a4_52 : decode cJ6_bitCount_0f7a4 52 = .ok (.ireturn, 1) := by decide +kernel
def tJ6_bitCount_0f7a4_0 : Tb := [(0, .inl (f_iload 0, 1)), (1, .inl (f_iload 0, 2)), (2, .inl (f_ci (1), 3)), (3, .inl (f_iushr, 4)), (4, .inl (f_ci (1431655765), 7)), (7, .inl (f_iand, 8)), (8, .inl (f_isub, 9)), (9, .inl (f_istore 1 0, 10)), (10, .inl (f_iload 0, 11)), (11, .inl (f_ci (858993459), 14)), (14, .inl (f_iand, 15)), (15, .inl (f_iload 0, 16)), (16, .inl (f_ci (2), 17)), (17, .inl (f_iushr, 18)), (18, .inl (f_ci (858993459), 21)), (21, .inl (f_iand, 22)), (22, .inl (f_iadd, 23)), (23, .inl (f_istore 1 0, 24)), (24, .inl (f_iload 0, 25)), (25, .inl (f_iload 0, 26)), (26, .inl (f_ci (4), 27)), (27, .inl (f_iushr, 28)), (28, .inl (f_iadd, 29)), (29, .inl (f_ci (252645135), 32)), (32, .inl (f_iand, 33)), (33, .inl (f_istore 1 0, 34)), (34, .inl (f_iload 0, 35)), (35, .inl (f_iload 0, 36)), (36, .inl (f_ci (8), 38)), (38, .inl (f_iushr, 39))]
set_option maxRecDepth 10000 in
theorem kJ6_bitCount_0f7a4_0 {X : Ctx} (h : sCx X mJ6_bitCount_0f7a4) : tab X mJ6_bitCount_0f7a4 tJ6_bitCount_0f7a4_0 :=
  tab_cons (eS (st_iloadn h rfl dJ6_bitCount_0f7a4_0)) (
  tab_cons (eS (st_iloadn h rfl dJ6_bitCount_0f7a4_1)) (
  tab_cons (eS (st_iconst h (by decide +kernel) dJ6_bitCount_0f7a4_2)) (
  tab_cons (eS (st_iushr h dJ6_bitCount_0f7a4_3)) (
  tab_cons (eS (st_ldcw h gw_442 dJ6_bitCount_0f7a4_4)) (
  tab_cons (eS (st_iand h dJ6_bitCount_0f7a4_7)) (
  tab_cons (eS (st_isub h dJ6_bitCount_0f7a4_8)) (
  tab_cons (eS (st_istoren h rfl dJ6_bitCount_0f7a4_9)) (
  tab_cons (eS (st_iloadn h rfl dJ6_bitCount_0f7a4_10)) (
  tab_cons (eS (st_ldcw h gw_443 dJ6_bitCount_0f7a4_11)) (
  tab_cons (eS (st_iand h dJ6_bitCount_0f7a4_14)) (
  tab_cons (eS (st_iloadn h rfl dJ6_bitCount_0f7a4_15)) (
  tab_cons (eS (st_iconst h (by decide +kernel) dJ6_bitCount_0f7a4_16)) (
  tab_cons (eS (st_iushr h dJ6_bitCount_0f7a4_17)) (
  tab_cons (eS (st_ldcw h gw_443 dJ6_bitCount_0f7a4_18)) (
  tab_cons (eS (st_iand h dJ6_bitCount_0f7a4_21)) (
  tab_cons (eS (st_iadd h dJ6_bitCount_0f7a4_22)) (
  tab_cons (eS (st_istoren h rfl dJ6_bitCount_0f7a4_23)) (
  tab_cons (eS (st_iloadn h rfl dJ6_bitCount_0f7a4_24)) (
  tab_cons (eS (st_iloadn h rfl dJ6_bitCount_0f7a4_25)) (
  tab_cons (eS (st_iconst h (by decide +kernel) dJ6_bitCount_0f7a4_26)) (
  tab_cons (eS (st_iushr h dJ6_bitCount_0f7a4_27)) (
  tab_cons (eS (st_iadd h dJ6_bitCount_0f7a4_28)) (
  tab_cons (eS (st_ldcw h gw_444 dJ6_bitCount_0f7a4_29)) (
  tab_cons (eS (st_iand h dJ6_bitCount_0f7a4_32)) (
  tab_cons (eS (st_istoren h rfl dJ6_bitCount_0f7a4_33)) (
  tab_cons (eS (st_iloadn h rfl dJ6_bitCount_0f7a4_34)) (
  tab_cons (eS (st_iloadn h rfl dJ6_bitCount_0f7a4_35)) (
  tab_cons (eS (st_bipush h (by decide +kernel) dJ6_bitCount_0f7a4_36)) (
  tab_cons (eS (st_iushr h dJ6_bitCount_0f7a4_38)) (
  tab_nil))))))))))))))))))))))))))))))
def tJ6_bitCount_0f7a4_1 : Tb := [(39, .inl (f_iadd, 40)), (40, .inl (f_istore 1 0, 41)), (41, .inl (f_iload 0, 42)), (42, .inl (f_iload 0, 43)), (43, .inl (f_ci (16), 45)), (45, .inl (f_iushr, 46)), (46, .inl (f_iadd, 47)), (47, .inl (f_istore 1 0, 48)), (48, .inl (f_iload 0, 49)), (49, .inl (f_ci (63), 51)), (51, .inl (f_iand, 52)), (52, .inr (.inr (.inl (15, 53, 0, m0))))]
set_option maxRecDepth 10000 in
theorem kJ6_bitCount_0f7a4_1 {X : Ctx} (h : sCx X mJ6_bitCount_0f7a4) : tab X mJ6_bitCount_0f7a4 tJ6_bitCount_0f7a4_1 :=
  tab_cons (eS (st_iadd h dJ6_bitCount_0f7a4_39)) (
  tab_cons (eS (st_istoren h rfl dJ6_bitCount_0f7a4_40)) (
  tab_cons (eS (st_iloadn h rfl dJ6_bitCount_0f7a4_41)) (
  tab_cons (eS (st_iloadn h rfl dJ6_bitCount_0f7a4_42)) (
  tab_cons (eS (st_bipush h (by decide +kernel) dJ6_bitCount_0f7a4_43)) (
  tab_cons (eS (st_iushr h dJ6_bitCount_0f7a4_45)) (
  tab_cons (eS (st_iadd h dJ6_bitCount_0f7a4_46)) (
  tab_cons (eS (st_istoren h rfl dJ6_bitCount_0f7a4_47)) (
  tab_cons (eS (st_iloadn h rfl dJ6_bitCount_0f7a4_48)) (
  tab_cons (eS (st_bipush h (by decide +kernel) dJ6_bitCount_0f7a4_49)) (
  tab_cons (eS (st_iand h dJ6_bitCount_0f7a4_51)) (
  tab_cons (eO (so_ireturn h dJ6_bitCount_0f7a4_52)) (
  tab_nil))))))))))))
def tJ6_bitCount_0f7a4 : Tb := tJ6_bitCount_0f7a4_0 ++ (tJ6_bitCount_0f7a4_1)
theorem kJ6_bitCount_0f7a4 {X : Ctx} (h : sCx X mJ6_bitCount_0f7a4) : tab X mJ6_bitCount_0f7a4 tJ6_bitCount_0f7a4 := tab_app (kJ6_bitCount_0f7a4_0 h) (kJ6_bitCount_0f7a4_1 h)
theorem dJ9_max_7cf53_0 : decode cJ9_max_7cf53 0 = .ok (.iload_n 0, 1) := by decide +kernel
theorem dJ9_max_7cf53_1 : decode cJ9_max_7cf53 1 = .ok (.iload_n 1, 1) := by decide +kernel
theorem dJ9_max_7cf53_2 : decode cJ9_max_7cf53 2 = .ok (.if_icmp .lt 7, 3) := by decide +kernel
theorem dJ9_max_7cf53_5 : decode cJ9_max_7cf53 5 = .ok (.iload_n 0, 1) := by decide +kernel
theorem dJ9_max_7cf53_6 : decode cJ9_max_7cf53 6 = .ok (.goto 4, 3) := by decide +kernel
theorem dJ9_max_7cf53_9 : decode cJ9_max_7cf53 9 = .ok (.iload_n 1, 1) := by decide +kernel
theorem dJ9_max_7cf53_10 : decode cJ9_max_7cf53 10 = .ok (.ireturn, 1) := by decide +kernel
def tJ9_max_7cf53_0 : Tb := [(0, .inl (f_iload 0, 1)), (1, .inl (f_iload 1, 2)), (2, .inr (.inl (b_icmp_lt, 9, 5))), (5, .inl (f_iload 0, 6)), (6, .inl (f_id, 10)), (9, .inl (f_iload 1, 10)), (10, .inr (.inr (.inl (15, 11, 0, m0))))]
set_option maxRecDepth 10000 in
theorem kJ9_max_7cf53_0 {X : Ctx} (h : sCx X mJ9_max_7cf53) : tab X mJ9_max_7cf53 tJ9_max_7cf53_0 :=
  tab_cons (eS (st_iloadn h rfl dJ9_max_7cf53_0)) (
  tab_cons (eS (st_iloadn h rfl dJ9_max_7cf53_1)) (
  tab_cons (eB (sb_icmp_lt h dJ9_max_7cf53_2 (by decide))) (
  tab_cons (eS (st_iloadn h rfl dJ9_max_7cf53_5)) (
  tab_cons (eS (st_goto h dJ9_max_7cf53_6 (by decide))) (
  tab_cons (eS (st_iloadn h rfl dJ9_max_7cf53_9)) (
  tab_cons (eO (so_ireturn h dJ9_max_7cf53_10)) (
  tab_nil)))))))
def tJ9_max_7cf53 : Tb := tJ9_max_7cf53_0
theorem kJ9_max_7cf53 {X : Ctx} (h : sCx X mJ9_max_7cf53) : tab X mJ9_max_7cf53 tJ9_max_7cf53 := kJ9_max_7cf53_0 h
theorem dJ9_min_7cf53_0 : decode cJ9_min_7cf53 0 = .ok (.iload_n 0, 1) := by decide +kernel
theorem dJ9_min_7cf53_1 : decode cJ9_min_7cf53 1 = .ok (.iload_n 1, 1) := by decide +kernel
theorem dJ9_min_7cf53_2 : decode cJ9_min_7cf53 2 = .ok (.if_icmp .gt 7, 3) := by decide +kernel
theorem dJ9_min_7cf53_5 : decode cJ9_min_7cf53 5 = .ok (.iload_n 0, 1) := by decide +kernel
theorem dJ9_min_7cf53_6 : decode cJ9_min_7cf53 6 = .ok (.goto 4, 3) := by decide +kernel
theorem dJ9_min_7cf53_9 : decode cJ9_min_7cf53 9 = .ok (.iload_n 1, 1) := by decide +kernel
theorem dJ9_min_7cf53_10 : decode cJ9_min_7cf53 10 = .ok (.ireturn, 1) := by decide +kernel
def tJ9_min_7cf53_0 : Tb := [(0, .inl (f_iload 0, 1)), (1, .inl (f_iload 1, 2)), (2, .inr (.inl (b_icmp_gt, 9, 5))), (5, .inl (f_iload 0, 6)), (6, .inl (f_id, 10)), (9, .inl (f_iload 1, 10)), (10, .inr (.inr (.inl (15, 11, 0, m0))))]
set_option maxRecDepth 10000 in
theorem kJ9_min_7cf53_0 {X : Ctx} (h : sCx X mJ9_min_7cf53) : tab X mJ9_min_7cf53 tJ9_min_7cf53_0 :=
  tab_cons (eS (st_iloadn h rfl dJ9_min_7cf53_0)) (
  tab_cons (eS (st_iloadn h rfl dJ9_min_7cf53_1)) (
  tab_cons (eB (sb_icmp_gt h dJ9_min_7cf53_2 (by decide))) (
  tab_cons (eS (st_iloadn h rfl dJ9_min_7cf53_5)) (
  tab_cons (eS (st_goto h dJ9_min_7cf53_6 (by decide))) (
  tab_cons (eS (st_iloadn h rfl dJ9_min_7cf53_9)) (
  tab_cons (eO (so_ireturn h dJ9_min_7cf53_10)) (
  tab_nil)))))))
def tJ9_min_7cf53 : Tb := tJ9_min_7cf53_0
theorem kJ9_min_7cf53 {X : Ctx} (h : sCx X mJ9_min_7cf53) : tab X mJ9_min_7cf53 tJ9_min_7cf53 := kJ9_min_7cf53_0 h
theorem dJ7_fill_53178_0 : decode cJ7_fill_53178 0 = .ok (.iconst 0, 1) := by decide +kernel
theorem dJ7_fill_53178_1 : decode cJ7_fill_53178 1 = .ok (.istore_n 2, 1) := by decide +kernel
theorem dJ7_fill_53178_2 : decode cJ7_fill_53178 2 = .ok (.aload_n 0, 1) := by decide +kernel
theorem dJ7_fill_53178_3 : decode cJ7_fill_53178 3 = .ok (.arraylength, 1) := by decide +kernel
theorem dJ7_fill_53178_4 : decode cJ7_fill_53178 4 = .ok (.istore_n 3, 1) := by decide +kernel
theorem dJ7_fill_53178_5 : decode cJ7_fill_53178 5 = .ok (.iload_n 2, 1) := by decide +kernel
theorem dJ7_fill_53178_6 : decode cJ7_fill_53178 6 = .ok (.iload_n 3, 1) := by decide +kernel
theorem dJ7_fill_53178_7 : decode cJ7_fill_53178 7 = .ok (.if_icmp .ge 13, 3) := by decide +kernel
theorem dJ7_fill_53178_10 : decode cJ7_fill_53178 10 = .ok (.aload_n 0, 1) := by decide +kernel
theorem dJ7_fill_53178_11 : decode cJ7_fill_53178 11 = .ok (.iload_n 2, 1) := by decide +kernel
theorem dJ7_fill_53178_12 : decode cJ7_fill_53178 12 = .ok (.iload_n 1, 1) := by decide +kernel
theorem dJ7_fill_53178_13 : decode cJ7_fill_53178 13 = .ok (.iastore, 1) := by decide +kernel
theorem dJ7_fill_53178_14 : decode cJ7_fill_53178 14 = .ok (.iinc 2 1, 3) := by decide +kernel
theorem dJ7_fill_53178_17 : decode cJ7_fill_53178 17 = .ok (.goto (-12), 3) := by decide +kernel
theorem dJ7_fill_53178_20 : decode cJ7_fill_53178 20 = .ok (.return_, 1) := by decide +kernel
def tJ7_fill_53178_0 : Tb := [(0, .inl (f_ci (0), 1)), (1, .inl (f_istore 4 2, 2)), (2, .inl (f_aload 0, 3)), (3, .inl (f_alen, 4)), (4, .inl (f_istore 4 3, 5)), (5, .inl (f_iload 2, 6)), (6, .inl (f_iload 3, 7)), (7, .inr (.inl (b_icmp_ge, 20, 10))), (10, .inl (f_aload 0, 11)), (11, .inl (f_iload 2, 12)), (12, .inl (f_iload 1, 13)), (13, .inr (.inr (.inl (4, 14, 0, m0)))), (14, .inl (f_iinc 4 2 (1), 17)), (17, .inl (f_id, 5)), (20, .inr (.inr (.inl (18, 21, 0, m0))))]
set_option maxRecDepth 10000 in
theorem kJ7_fill_53178_0 {X : Ctx} (h : sCx X mJ7_fill_53178) : tab X mJ7_fill_53178 tJ7_fill_53178_0 :=
  tab_cons (eS (st_iconst h (by decide +kernel) dJ7_fill_53178_0)) (
  tab_cons (eS (st_istoren h rfl dJ7_fill_53178_1)) (
  tab_cons (eS (st_aloadn h rfl dJ7_fill_53178_2)) (
  tab_cons (eS (st_alen h dJ7_fill_53178_3)) (
  tab_cons (eS (st_istoren h rfl dJ7_fill_53178_4)) (
  tab_cons (eS (st_iloadn h rfl dJ7_fill_53178_5)) (
  tab_cons (eS (st_iloadn h rfl dJ7_fill_53178_6)) (
  tab_cons (eB (sb_icmp_ge h dJ7_fill_53178_7 (by decide))) (
  tab_cons (eS (st_aloadn h rfl dJ7_fill_53178_10)) (
  tab_cons (eS (st_iloadn h rfl dJ7_fill_53178_11)) (
  tab_cons (eS (st_iloadn h rfl dJ7_fill_53178_12)) (
  tab_cons (eO (so_iastore h dJ7_fill_53178_13)) (
  tab_cons (eS (st_iinc h (by decide +kernel) dJ7_fill_53178_14)) (
  tab_cons (eS (st_goto h dJ7_fill_53178_17 (by decide))) (
  tab_cons (eO (so_return h dJ7_fill_53178_20)) (
  tab_nil)))))))))))))))
def tJ7_fill_53178 : Tb := tJ7_fill_53178_0
theorem kJ7_fill_53178 {X : Ctx} (h : sCx X mJ7_fill_53178) : tab X mJ7_fill_53178 tJ7_fill_53178 := kJ7_fill_53178_0 h
