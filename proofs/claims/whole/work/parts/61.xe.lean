/-! the law's body, in tables -/
theorem dL_law_899 : decode cL_law 899 = .ok (.aload_n 1, 1) := by decide +kernel
theorem dL_law_900 : decode cL_law 900 = .ok (.aload_n 0, 1) := by decide +kernel
theorem dL_law_901 : decode cL_law 901 = .ok (.iload 5, 2) := by decide +kernel
theorem dL_law_903 : decode cL_law 903 = .ok (.iconst 1, 1) := by decide +kernel
theorem dL_law_904 : decode cL_law 904 = .ok (.iadd, 1) := by decide +kernel
theorem dL_law_905 : decode cL_law 905 = .ok (.iaload, 1) := by decide +kernel
theorem dL_law_906 : decode cL_law 906 = .ok (.aload_n 3, 1) := by decide +kernel
theorem dL_law_907 : decode cL_law 907 = .ok (.invokestatic 138, 3) := by decide +kernel
theorem dL_law_910 : decode cL_law 910 = .ok (.istore 6, 2) := by decide +kernel
theorem dL_law_912 : decode cL_law 912 = .ok (.aload_n 2, 1) := by decide +kernel
theorem dL_law_913 : decode cL_law 913 = .ok (.aload_n 0, 1) := by decide +kernel
theorem dL_law_914 : decode cL_law 914 = .ok (.iload 5, 2) := by decide +kernel
theorem dL_law_916 : decode cL_law 916 = .ok (.iconst 1, 1) := by decide +kernel
theorem dL_law_917 : decode cL_law 917 = .ok (.iadd, 1) := by decide +kernel
theorem dL_law_918 : decode cL_law 918 = .ok (.iaload, 1) := by decide +kernel
theorem dL_law_919 : decode cL_law 919 = .ok (.invokevirtual 140, 3) := by decide +kernel
theorem dL_law_922 : decode cL_law 922 = .ok (.istore 7, 2) := by decide +kernel
theorem dL_law_924 : decode cL_law 924 = .ok (.aload_n 2, 1) := by decide +kernel
theorem dL_law_925 : decode cL_law 925 = .ok (.invokevirtual 105, 3) := by decide +kernel
theorem dL_law_928 : decode cL_law 928 = .ok (.iload 6, 2) := by decide +kernel
theorem dL_law_930 : decode cL_law 930 = .ok (.if_icmp .eq 5, 3) := by decide +kernel
theorem dL_law_933 : decode cL_law 933 = .ok (.iconst 0, 1) := by decide +kernel
theorem dL_law_934 : decode cL_law 934 = .ok (.ireturn, 1) := by decide +kernel
theorem dL_law_935 : decode cL_law 935 = .ok (.iload 6, 2) := by decide +kernel
theorem dL_law_937 : decode cL_law 937 = .ok (.ifCond .ne 15, 3) := by decide +kernel
theorem dL_law_940 : decode cL_law 940 = .ok (.aload_n 3, 1) := by decide +kernel
theorem dL_law_941 : decode cL_law 941 = .ok (.iconst 0, 1) := by decide +kernel
theorem dL_law_942 : decode cL_law 942 = .ok (.laload, 1) := by decide +kernel
theorem dL_law_943 : decode cL_law 943 = .ok (.iload 7, 2) := by decide +kernel
theorem dL_law_945 : decode cL_law 945 = .ok (.i2l, 1) := by decide +kernel
theorem dL_law_946 : decode cL_law 946 = .ok (.lcmp, 1) := by decide +kernel
theorem dL_law_947 : decode cL_law 947 = .ok (.ifCond .eq 5, 3) := by decide +kernel
theorem dL_law_950 : decode cL_law 950 = .ok (.iconst 0, 1) := by decide +kernel
theorem dL_law_951 : decode cL_law 951 = .ok (.ireturn, 1) := by decide +kernel
theorem dL_law_952 : decode cL_law 952 = .ok (.goto 979, 3) := by decide +kernel
def tL_law_c9 : Tb := [(899, .inl (f_aload 1, 900)), (900, .inl (f_aload 0, 901)), (901, .inl (f_iload 5, 903)), (903, .inl (f_ci (1), 904)), (904, .inl (f_iadd, 905)), (905, .inr (.inr (.inl (0, 906, 0, m0)))), (906, .inl (f_aload 3, 907)), (910, .inl (f_istore 10 6, 912)), (912, .inl (f_aload 2, 913)), (913, .inl (f_aload 0, 914)), (914, .inl (f_iload 5, 916)), (916, .inl (f_ci (1), 917)), (917, .inl (f_iadd, 918)), (918, .inr (.inr (.inl (0, 919, 0, m0)))), (919, .inr (.inr (.inl (13, 922, 2, mX7_pickup)))), (922, .inl (f_istore 10 7, 924)), (924, .inl (f_aload 2, 925)), (925, .inr (.inr (.inl (13, 928, 1, mX7_thrown)))), (928, .inl (f_iload 6, 930)), (930, .inr (.inl (b_icmp_eq, 935, 933))), (933, .inl (f_ci (0), 934)), (934, .inr (.inr (.inl (15, 935, 0, m0)))), (935, .inl (f_iload 6, 937)), (937, .inr (.inl (b_if_eq, 940, 952))), (940, .inl (f_aload 3, 941)), (941, .inl (f_ci (0), 942)), (942, .inr (.inr (.inl (2, 943, 0, m0)))), (943, .inl (f_iload 7, 945)), (945, .inl (f_i2l, 946)), (946, .inl (f_lcmp, 947)), (947, .inr (.inl (b_if_eq, 952, 950))), (950, .inl (f_ci (0), 951)), (951, .inr (.inr (.inl (15, 952, 0, m0)))), (952, .inl (f_id, 1931))]
set_option maxRecDepth 10000 in
theorem kL_law_c9 {X : Ctx} (h : sCx X mL_law) : tab X mL_law tL_law_c9 :=
  tab_cons (eS (st_aloadn h rfl dL_law_899)) (
  tab_cons (eS (st_aloadn h rfl dL_law_900)) (
  tab_cons (eS (st_iload h dL_law_901)) (
  tab_cons (eS (st_iconst h (by decide +kernel) dL_law_903)) (
  tab_cons (eS (st_iadd h dL_law_904)) (
  tab_cons (eO (so_iaload h dL_law_905)) (
  tab_cons (eS (st_aloadn h rfl dL_law_906)) (
  tab_cons (eS (st_istore h dL_law_910)) (
  tab_cons (eS (st_aloadn h rfl dL_law_912)) (
  tab_cons (eS (st_aloadn h rfl dL_law_913)) (
  tab_cons (eS (st_iload h dL_law_914)) (
  tab_cons (eS (st_iconst h (by decide +kernel) dL_law_916)) (
  tab_cons (eS (st_iadd h dL_law_917)) (
  tab_cons (eO (so_iaload h dL_law_918)) (
  tab_cons (eO (so_callV h gl_134 gl_135 gl_136 gw_295 gl_137 ⟨by decide +kernel, by decide +kernel, by decide +kernel, by decide +kernel⟩ ⟨by decide +kernel, by decide +kernel⟩ dL_law_919)) (
  tab_cons (eS (st_istore h dL_law_922)) (
  tab_cons (eS (st_aloadn h rfl dL_law_924)) (
  tab_cons (eO (so_callV h gl_98 gl_99 gl_100 gw_295 gl_101 ⟨by decide +kernel, by decide +kernel, by decide +kernel, by decide +kernel⟩ ⟨by decide +kernel, by decide +kernel⟩ dL_law_925)) (
  tab_cons (eS (st_iload h dL_law_928)) (
  tab_cons (eB (sb_icmp_eq h dL_law_930 (by decide))) (
  tab_cons (eS (st_iconst h (by decide +kernel) dL_law_933)) (
  tab_cons (eO (so_ireturn h dL_law_934)) (
  tab_cons (eS (st_iload h dL_law_935)) (
  tab_cons (eB (sb_if_ne h dL_law_937 (by decide))) (
  tab_cons (eS (st_aloadn h rfl dL_law_940)) (
  tab_cons (eS (st_iconst h (by decide +kernel) dL_law_941)) (
  tab_cons (eO (so_laload h dL_law_942)) (
  tab_cons (eS (st_iload h dL_law_943)) (
  tab_cons (eS (st_i2l h dL_law_945)) (
  tab_cons (eS (st_lcmp h dL_law_946)) (
  tab_cons (eB (sb_if_eq h dL_law_947 (by decide))) (
  tab_cons (eS (st_iconst h (by decide +kernel) dL_law_950)) (
  tab_cons (eO (so_ireturn h dL_law_951)) (
  tab_cons (eS (st_goto h dL_law_952 (by decide))) (
  tab_nil))))))))))))))))))))))))))))))))))
theorem dL_law_955 : decode cL_law 955 = .ok (.aload_n 1, 1) := by decide +kernel
theorem dL_law_956 : decode cL_law 956 = .ok (.aload_n 0, 1) := by decide +kernel
theorem dL_law_957 : decode cL_law 957 = .ok (.iload 5, 2) := by decide +kernel
theorem dL_law_959 : decode cL_law 959 = .ok (.iconst 1, 1) := by decide +kernel
theorem dL_law_960 : decode cL_law 960 = .ok (.iadd, 1) := by decide +kernel
theorem dL_law_961 : decode cL_law 961 = .ok (.iaload, 1) := by decide +kernel
theorem dL_law_962 : decode cL_law 962 = .ok (.aload_n 3, 1) := by decide +kernel
theorem dL_law_963 : decode cL_law 963 = .ok (.invokestatic 141, 3) := by decide +kernel
theorem dL_law_966 : decode cL_law 966 = .ok (.istore 6, 2) := by decide +kernel
theorem dL_law_968 : decode cL_law 968 = .ok (.aload_n 2, 1) := by decide +kernel
theorem dL_law_969 : decode cL_law 969 = .ok (.aload_n 0, 1) := by decide +kernel
theorem dL_law_970 : decode cL_law 970 = .ok (.iload 5, 2) := by decide +kernel
theorem dL_law_972 : decode cL_law 972 = .ok (.iconst 1, 1) := by decide +kernel
theorem dL_law_973 : decode cL_law 973 = .ok (.iadd, 1) := by decide +kernel
theorem dL_law_974 : decode cL_law 974 = .ok (.iaload, 1) := by decide +kernel
theorem dL_law_975 : decode cL_law 975 = .ok (.invokevirtual 143, 3) := by decide +kernel
theorem dL_law_978 : decode cL_law 978 = .ok (.istore 7, 2) := by decide +kernel
theorem dL_law_980 : decode cL_law 980 = .ok (.aload_n 2, 1) := by decide +kernel
theorem dL_law_981 : decode cL_law 981 = .ok (.invokevirtual 105, 3) := by decide +kernel
theorem dL_law_984 : decode cL_law 984 = .ok (.iload 6, 2) := by decide +kernel
theorem dL_law_986 : decode cL_law 986 = .ok (.if_icmp .eq 5, 3) := by decide +kernel
theorem dL_law_989 : decode cL_law 989 = .ok (.iconst 0, 1) := by decide +kernel
theorem dL_law_990 : decode cL_law 990 = .ok (.ireturn, 1) := by decide +kernel
theorem dL_law_991 : decode cL_law 991 = .ok (.iload 6, 2) := by decide +kernel
theorem dL_law_993 : decode cL_law 993 = .ok (.ifCond .ne 15, 3) := by decide +kernel
theorem dL_law_996 : decode cL_law 996 = .ok (.aload_n 3, 1) := by decide +kernel
theorem dL_law_997 : decode cL_law 997 = .ok (.iconst 0, 1) := by decide +kernel
theorem dL_law_998 : decode cL_law 998 = .ok (.laload, 1) := by decide +kernel
theorem dL_law_999 : decode cL_law 999 = .ok (.iload 7, 2) := by decide +kernel
theorem dL_law_1001 : decode cL_law 1001 = .ok (.i2l, 1) := by decide +kernel
theorem dL_law_1002 : decode cL_law 1002 = .ok (.lcmp, 1) := by decide +kernel
theorem dL_law_1003 : decode cL_law 1003 = .ok (.ifCond .eq 5, 3) := by decide +kernel
theorem dL_law_1006 : decode cL_law 1006 = .ok (.iconst 0, 1) := by decide +kernel
theorem dL_law_1007 : decode cL_law 1007 = .ok (.ireturn, 1) := by decide +kernel
theorem dL_law_1008 : decode cL_law 1008 = .ok (.goto 923, 3) := by decide +kernel
def tL_law_c10 : Tb := [(955, .inl (f_aload 1, 956)), (956, .inl (f_aload 0, 957)), (957, .inl (f_iload 5, 959)), (959, .inl (f_ci (1), 960)), (960, .inl (f_iadd, 961)), (961, .inr (.inr (.inl (0, 962, 0, m0)))), (962, .inl (f_aload 3, 963)), (966, .inl (f_istore 10 6, 968)), (968, .inl (f_aload 2, 969)), (969, .inl (f_aload 0, 970)), (970, .inl (f_iload 5, 972)), (972, .inl (f_ci (1), 973)), (973, .inl (f_iadd, 974)), (974, .inr (.inr (.inl (0, 975, 0, m0)))), (975, .inr (.inr (.inl (13, 978, 2, mX7_steps)))), (978, .inl (f_istore 10 7, 980)), (980, .inl (f_aload 2, 981)), (981, .inr (.inr (.inl (13, 984, 1, mX7_thrown)))), (984, .inl (f_iload 6, 986)), (986, .inr (.inl (b_icmp_eq, 991, 989))), (989, .inl (f_ci (0), 990)), (990, .inr (.inr (.inl (15, 991, 0, m0)))), (991, .inl (f_iload 6, 993)), (993, .inr (.inl (b_if_eq, 996, 1008))), (996, .inl (f_aload 3, 997)), (997, .inl (f_ci (0), 998)), (998, .inr (.inr (.inl (2, 999, 0, m0)))), (999, .inl (f_iload 7, 1001)), (1001, .inl (f_i2l, 1002)), (1002, .inl (f_lcmp, 1003)), (1003, .inr (.inl (b_if_eq, 1008, 1006))), (1006, .inl (f_ci (0), 1007)), (1007, .inr (.inr (.inl (15, 1008, 0, m0)))), (1008, .inl (f_id, 1931))]
set_option maxRecDepth 10000 in
theorem kL_law_c10 {X : Ctx} (h : sCx X mL_law) : tab X mL_law tL_law_c10 :=
  tab_cons (eS (st_aloadn h rfl dL_law_955)) (
  tab_cons (eS (st_aloadn h rfl dL_law_956)) (
  tab_cons (eS (st_iload h dL_law_957)) (
  tab_cons (eS (st_iconst h (by decide +kernel) dL_law_959)) (
  tab_cons (eS (st_iadd h dL_law_960)) (
  tab_cons (eO (so_iaload h dL_law_961)) (
  tab_cons (eS (st_aloadn h rfl dL_law_962)) (
  tab_cons (eS (st_istore h dL_law_966)) (
  tab_cons (eS (st_aloadn h rfl dL_law_968)) (
  tab_cons (eS (st_aloadn h rfl dL_law_969)) (
  tab_cons (eS (st_iload h dL_law_970)) (
  tab_cons (eS (st_iconst h (by decide +kernel) dL_law_972)) (
  tab_cons (eS (st_iadd h dL_law_973)) (
  tab_cons (eO (so_iaload h dL_law_974)) (
  tab_cons (eO (so_callV h gl_138 gl_139 gl_140 gw_295 gl_141 ⟨by decide +kernel, by decide +kernel, by decide +kernel, by decide +kernel⟩ ⟨by decide +kernel, by decide +kernel⟩ dL_law_975)) (
  tab_cons (eS (st_istore h dL_law_978)) (
  tab_cons (eS (st_aloadn h rfl dL_law_980)) (
  tab_cons (eO (so_callV h gl_98 gl_99 gl_100 gw_295 gl_101 ⟨by decide +kernel, by decide +kernel, by decide +kernel, by decide +kernel⟩ ⟨by decide +kernel, by decide +kernel⟩ dL_law_981)) (
  tab_cons (eS (st_iload h dL_law_984)) (
  tab_cons (eB (sb_icmp_eq h dL_law_986 (by decide))) (
  tab_cons (eS (st_iconst h (by decide +kernel) dL_law_989)) (
  tab_cons (eO (so_ireturn h dL_law_990)) (
  tab_cons (eS (st_iload h dL_law_991)) (
  tab_cons (eB (sb_if_ne h dL_law_993 (by decide))) (
  tab_cons (eS (st_aloadn h rfl dL_law_996)) (
  tab_cons (eS (st_iconst h (by decide +kernel) dL_law_997)) (
  tab_cons (eO (so_laload h dL_law_998)) (
  tab_cons (eS (st_iload h dL_law_999)) (
  tab_cons (eS (st_i2l h dL_law_1001)) (
  tab_cons (eS (st_lcmp h dL_law_1002)) (
  tab_cons (eB (sb_if_eq h dL_law_1003 (by decide))) (
  tab_cons (eS (st_iconst h (by decide +kernel) dL_law_1006)) (
  tab_cons (eO (so_ireturn h dL_law_1007)) (
  tab_cons (eS (st_goto h dL_law_1008 (by decide))) (
  tab_nil))))))))))))))))))))))))))))))))))
theorem dL_law_1011 : decode cL_law 1011 = .ok (.aload_n 1, 1) := by decide +kernel
theorem dL_law_1012 : decode cL_law 1012 = .ok (.aload_n 0, 1) := by decide +kernel
theorem dL_law_1013 : decode cL_law 1013 = .ok (.iload 5, 2) := by decide +kernel
theorem dL_law_1015 : decode cL_law 1015 = .ok (.iconst 1, 1) := by decide +kernel
theorem dL_law_1016 : decode cL_law 1016 = .ok (.iadd, 1) := by decide +kernel
theorem dL_law_1017 : decode cL_law 1017 = .ok (.iaload, 1) := by decide +kernel
theorem dL_law_1018 : decode cL_law 1018 = .ok (.aload_n 3, 1) := by decide +kernel
theorem dL_law_1019 : decode cL_law 1019 = .ok (.invokestatic 144, 3) := by decide +kernel
theorem dL_law_1022 : decode cL_law 1022 = .ok (.istore 6, 2) := by decide +kernel
theorem dL_law_1024 : decode cL_law 1024 = .ok (.aload_n 2, 1) := by decide +kernel
theorem dL_law_1025 : decode cL_law 1025 = .ok (.aload_n 0, 1) := by decide +kernel
theorem dL_law_1026 : decode cL_law 1026 = .ok (.iload 5, 2) := by decide +kernel
theorem dL_law_1028 : decode cL_law 1028 = .ok (.iconst 1, 1) := by decide +kernel
theorem dL_law_1029 : decode cL_law 1029 = .ok (.iadd, 1) := by decide +kernel
theorem dL_law_1030 : decode cL_law 1030 = .ok (.iaload, 1) := by decide +kernel
theorem dL_law_1031 : decode cL_law 1031 = .ok (.invokevirtual 146, 3) := by decide +kernel
theorem dL_law_1034 : decode cL_law 1034 = .ok (.istore 7, 2) := by decide +kernel
theorem dL_law_1036 : decode cL_law 1036 = .ok (.aload_n 2, 1) := by decide +kernel
theorem dL_law_1037 : decode cL_law 1037 = .ok (.invokevirtual 105, 3) := by decide +kernel
theorem dL_law_1040 : decode cL_law 1040 = .ok (.iload 6, 2) := by decide +kernel
theorem dL_law_1042 : decode cL_law 1042 = .ok (.if_icmp .eq 5, 3) := by decide +kernel
theorem dL_law_1045 : decode cL_law 1045 = .ok (.iconst 0, 1) := by decide +kernel
theorem dL_law_1046 : decode cL_law 1046 = .ok (.ireturn, 1) := by decide +kernel
theorem dL_law_1047 : decode cL_law 1047 = .ok (.iload 6, 2) := by decide +kernel
theorem dL_law_1049 : decode cL_law 1049 = .ok (.ifCond .ne 15, 3) := by decide +kernel
theorem dL_law_1052 : decode cL_law 1052 = .ok (.aload_n 3, 1) := by decide +kernel
theorem dL_law_1053 : decode cL_law 1053 = .ok (.iconst 0, 1) := by decide +kernel
theorem dL_law_1054 : decode cL_law 1054 = .ok (.laload, 1) := by decide +kernel
theorem dL_law_1055 : decode cL_law 1055 = .ok (.iload 7, 2) := by decide +kernel
theorem dL_law_1057 : decode cL_law 1057 = .ok (.i2l, 1) := by decide +kernel
theorem dL_law_1058 : decode cL_law 1058 = .ok (.lcmp, 1) := by decide +kernel
theorem dL_law_1059 : decode cL_law 1059 = .ok (.ifCond .eq 5, 3) := by decide +kernel
theorem dL_law_1062 : decode cL_law 1062 = .ok (.iconst 0, 1) := by decide +kernel
theorem dL_law_1063 : decode cL_law 1063 = .ok (.ireturn, 1) := by decide +kernel
theorem dL_law_1064 : decode cL_law 1064 = .ok (.goto 867, 3) := by decide +kernel
def tL_law_c11 : Tb := [(1011, .inl (f_aload 1, 1012)), (1012, .inl (f_aload 0, 1013)), (1013, .inl (f_iload 5, 1015)), (1015, .inl (f_ci (1), 1016)), (1016, .inl (f_iadd, 1017)), (1017, .inr (.inr (.inl (0, 1018, 0, m0)))), (1018, .inl (f_aload 3, 1019)), (1022, .inl (f_istore 10 6, 1024)), (1024, .inl (f_aload 2, 1025)), (1025, .inl (f_aload 0, 1026)), (1026, .inl (f_iload 5, 1028)), (1028, .inl (f_ci (1), 1029)), (1029, .inl (f_iadd, 1030)), (1030, .inr (.inr (.inl (0, 1031, 0, m0)))), (1031, .inr (.inr (.inl (13, 1034, 2, mX7_upstream)))), (1034, .inl (f_istore 10 7, 1036)), (1036, .inl (f_aload 2, 1037)), (1037, .inr (.inr (.inl (13, 1040, 1, mX7_thrown)))), (1040, .inl (f_iload 6, 1042)), (1042, .inr (.inl (b_icmp_eq, 1047, 1045))), (1045, .inl (f_ci (0), 1046)), (1046, .inr (.inr (.inl (15, 1047, 0, m0)))), (1047, .inl (f_iload 6, 1049)), (1049, .inr (.inl (b_if_eq, 1052, 1064))), (1052, .inl (f_aload 3, 1053)), (1053, .inl (f_ci (0), 1054)), (1054, .inr (.inr (.inl (2, 1055, 0, m0)))), (1055, .inl (f_iload 7, 1057)), (1057, .inl (f_i2l, 1058)), (1058, .inl (f_lcmp, 1059)), (1059, .inr (.inl (b_if_eq, 1064, 1062))), (1062, .inl (f_ci (0), 1063)), (1063, .inr (.inr (.inl (15, 1064, 0, m0)))), (1064, .inl (f_id, 1931))]
set_option maxRecDepth 10000 in
theorem kL_law_c11 {X : Ctx} (h : sCx X mL_law) : tab X mL_law tL_law_c11 :=
  tab_cons (eS (st_aloadn h rfl dL_law_1011)) (
  tab_cons (eS (st_aloadn h rfl dL_law_1012)) (
  tab_cons (eS (st_iload h dL_law_1013)) (
  tab_cons (eS (st_iconst h (by decide +kernel) dL_law_1015)) (
  tab_cons (eS (st_iadd h dL_law_1016)) (
  tab_cons (eO (so_iaload h dL_law_1017)) (
  tab_cons (eS (st_aloadn h rfl dL_law_1018)) (
  tab_cons (eS (st_istore h dL_law_1022)) (
  tab_cons (eS (st_aloadn h rfl dL_law_1024)) (
  tab_cons (eS (st_aloadn h rfl dL_law_1025)) (
  tab_cons (eS (st_iload h dL_law_1026)) (
  tab_cons (eS (st_iconst h (by decide +kernel) dL_law_1028)) (
  tab_cons (eS (st_iadd h dL_law_1029)) (
  tab_cons (eO (so_iaload h dL_law_1030)) (
  tab_cons (eO (so_callV h gl_142 gl_143 gl_144 gw_295 gl_145 ⟨by decide +kernel, by decide +kernel, by decide +kernel, by decide +kernel⟩ ⟨by decide +kernel, by decide +kernel⟩ dL_law_1031)) (
  tab_cons (eS (st_istore h dL_law_1034)) (
  tab_cons (eS (st_aloadn h rfl dL_law_1036)) (
  tab_cons (eO (so_callV h gl_98 gl_99 gl_100 gw_295 gl_101 ⟨by decide +kernel, by decide +kernel, by decide +kernel, by decide +kernel⟩ ⟨by decide +kernel, by decide +kernel⟩ dL_law_1037)) (
  tab_cons (eS (st_iload h dL_law_1040)) (
  tab_cons (eB (sb_icmp_eq h dL_law_1042 (by decide))) (
  tab_cons (eS (st_iconst h (by decide +kernel) dL_law_1045)) (
  tab_cons (eO (so_ireturn h dL_law_1046)) (
  tab_cons (eS (st_iload h dL_law_1047)) (
  tab_cons (eB (sb_if_ne h dL_law_1049 (by decide))) (
  tab_cons (eS (st_aloadn h rfl dL_law_1052)) (
  tab_cons (eS (st_iconst h (by decide +kernel) dL_law_1053)) (
  tab_cons (eO (so_laload h dL_law_1054)) (
  tab_cons (eS (st_iload h dL_law_1055)) (
  tab_cons (eS (st_i2l h dL_law_1057)) (
  tab_cons (eS (st_lcmp h dL_law_1058)) (
  tab_cons (eB (sb_if_eq h dL_law_1059 (by decide))) (
  tab_cons (eS (st_iconst h (by decide +kernel) dL_law_1062)) (
  tab_cons (eO (so_ireturn h dL_law_1063)) (
  tab_cons (eS (st_goto h dL_law_1064 (by decide))) (
  tab_nil))))))))))))))))))))))))))))))))))
theorem dL_law_1067 : decode cL_law 1067 = .ok (.aload_n 1, 1) := by decide +kernel
theorem dL_law_1068 : decode cL_law 1068 = .ok (.aload_n 0, 1) := by decide +kernel
theorem dL_law_1069 : decode cL_law 1069 = .ok (.iload 5, 2) := by decide +kernel
theorem dL_law_1071 : decode cL_law 1071 = .ok (.iconst 1, 1) := by decide +kernel
theorem dL_law_1072 : decode cL_law 1072 = .ok (.iadd, 1) := by decide +kernel
theorem dL_law_1073 : decode cL_law 1073 = .ok (.iaload, 1) := by decide +kernel
theorem dL_law_1074 : decode cL_law 1074 = .ok (.aload_n 0, 1) := by decide +kernel
theorem dL_law_1075 : decode cL_law 1075 = .ok (.iload 5, 2) := by decide +kernel
theorem dL_law_1077 : decode cL_law 1077 = .ok (.iconst 2, 1) := by decide +kernel
theorem dL_law_1078 : decode cL_law 1078 = .ok (.iadd, 1) := by decide +kernel
theorem dL_law_1079 : decode cL_law 1079 = .ok (.iaload, 1) := by decide +kernel
theorem dL_law_1080 : decode cL_law 1080 = .ok (.i2d, 1) := by decide +kernel
theorem dL_law_1081 : decode cL_law 1081 = .ok (.ldc2_w 97, 3) := by decide +kernel
theorem dL_law_1084 : decode cL_law 1084 = .ok (.dmul, 1) := by decide +kernel
theorem dL_law_1085 : decode cL_law 1085 = .ok (.aload 4, 2) := by decide +kernel
theorem dL_law_1087 : decode cL_law 1087 = .ok (.invokestatic 147, 3) := by decide +kernel
theorem dL_law_1090 : decode cL_law 1090 = .ok (.istore 6, 2) := by decide +kernel
theorem dL_law_1092 : decode cL_law 1092 = .ok (.aload_n 2, 1) := by decide +kernel
theorem dL_law_1093 : decode cL_law 1093 = .ok (.aload_n 0, 1) := by decide +kernel
theorem dL_law_1094 : decode cL_law 1094 = .ok (.iload 5, 2) := by decide +kernel
theorem dL_law_1096 : decode cL_law 1096 = .ok (.iconst 1, 1) := by decide +kernel
theorem dL_law_1097 : decode cL_law 1097 = .ok (.iadd, 1) := by decide +kernel
theorem dL_law_1098 : decode cL_law 1098 = .ok (.iaload, 1) := by decide +kernel
theorem dL_law_1099 : decode cL_law 1099 = .ok (.aload_n 0, 1) := by decide +kernel
theorem dL_law_1100 : decode cL_law 1100 = .ok (.iload 5, 2) := by decide +kernel
theorem dL_law_1102 : decode cL_law 1102 = .ok (.iconst 2, 1) := by decide +kernel
theorem dL_law_1103 : decode cL_law 1103 = .ok (.iadd, 1) := by decide +kernel
theorem dL_law_1104 : decode cL_law 1104 = .ok (.iaload, 1) := by decide +kernel
theorem dL_law_1105 : decode cL_law 1105 = .ok (.i2d, 1) := by decide +kernel
theorem dL_law_1106 : decode cL_law 1106 = .ok (.ldc2_w 97, 3) := by decide +kernel
theorem dL_law_1109 : decode cL_law 1109 = .ok (.dmul, 1) := by decide +kernel
theorem dL_law_1110 : decode cL_law 1110 = .ok (.invokevirtual 150, 3) := by decide +kernel
theorem dL_law_1113 : decode cL_law 1113 = .ok (.dstore 7, 2) := by decide +kernel
theorem dL_law_1115 : decode cL_law 1115 = .ok (.aload_n 2, 1) := by decide +kernel
theorem dL_law_1116 : decode cL_law 1116 = .ok (.invokevirtual 105, 3) := by decide +kernel
theorem dL_law_1119 : decode cL_law 1119 = .ok (.iload 6, 2) := by decide +kernel
theorem dL_law_1121 : decode cL_law 1121 = .ok (.if_icmp .eq 5, 3) := by decide +kernel
theorem dL_law_1124 : decode cL_law 1124 = .ok (.iconst 0, 1) := by decide +kernel
theorem dL_law_1125 : decode cL_law 1125 = .ok (.ireturn, 1) := by decide +kernel
theorem dL_law_1126 : decode cL_law 1126 = .ok (.iload 6, 2) := by decide +kernel
theorem dL_law_1128 : decode cL_law 1128 = .ok (.ifCond .ne 35, 3) := by decide +kernel
theorem dL_law_1131 : decode cL_law 1131 = .ok (.aload 4, 2) := by decide +kernel
theorem dL_law_1133 : decode cL_law 1133 = .ok (.iconst 0, 1) := by decide +kernel
theorem dL_law_1134 : decode cL_law 1134 = .ok (.daload, 1) := by decide +kernel
theorem dL_law_1135 : decode cL_law 1135 = .ok (.dload 7, 2) := by decide +kernel
theorem dL_law_1137 : decode cL_law 1137 = .ok (.dcmp .l, 1) := by decide +kernel
theorem dL_law_1138 : decode cL_law 1138 = .ok (.ifCond .eq 25, 3) := by decide +kernel
theorem dL_law_1141 : decode cL_law 1141 = .ok (.aload 4, 2) := by decide +kernel
theorem dL_law_1143 : decode cL_law 1143 = .ok (.iconst 0, 1) := by decide +kernel
theorem dL_law_1144 : decode cL_law 1144 = .ok (.daload, 1) := by decide +kernel
theorem dL_law_1145 : decode cL_law 1145 = .ok (.aload 4, 2) := by decide +kernel
theorem dL_law_1147 : decode cL_law 1147 = .ok (.iconst 0, 1) := by decide +kernel
theorem dL_law_1148 : decode cL_law 1148 = .ok (.daload, 1) := by decide +kernel
theorem dL_law_1149 : decode cL_law 1149 = .ok (.dcmp .l, 1) := by decide +kernel
theorem dL_law_1150 : decode cL_law 1150 = .ok (.ifCond .eq 11, 3) := by decide +kernel
theorem dL_law_1153 : decode cL_law 1153 = .ok (.dload 7, 2) := by decide +kernel
theorem dL_law_1155 : decode cL_law 1155 = .ok (.dload 7, 2) := by decide +kernel
theorem dL_law_1157 : decode cL_law 1157 = .ok (.dcmp .l, 1) := by decide +kernel
theorem dL_law_1158 : decode cL_law 1158 = .ok (.ifCond .ne 5, 3) := by decide +kernel
theorem dL_law_1161 : decode cL_law 1161 = .ok (.iconst 0, 1) := by decide +kernel
theorem dL_law_1162 : decode cL_law 1162 = .ok (.ireturn, 1) := by decide +kernel
theorem dL_law_1163 : decode cL_law 1163 = .ok (.goto 768, 3) := by decide +kernel
def tL_law_c12 : Tb := [(1067, .inl (f_aload 1, 1068)), (1068, .inl (f_aload 0, 1069)), (1069, .inl (f_iload 5, 1071)), (1071, .inl (f_ci (1), 1072)), (1072, .inl (f_iadd, 1073)), (1073, .inr (.inr (.inl (0, 1074, 0, m0)))), (1074, .inl (f_aload 0, 1075)), (1075, .inl (f_iload 5, 1077)), (1077, .inl (f_ci (2), 1078)), (1078, .inl (f_iadd, 1079)), (1079, .inr (.inr (.inl (0, 1080, 0, m0)))), (1080, .inl (f_i2d, 1081)), (1081, .inl (f_cd 4593671619917905920, 1084)), (1084, .inr (.inr (.inl (9, 1085, 0, m0)))), (1085, .inl (f_aload 4, 1087)), (1090, .inl (f_istore 10 6, 1092)), (1092, .inl (f_aload 2, 1093)), (1093, .inl (f_aload 0, 1094)), (1094, .inl (f_iload 5, 1096)), (1096, .inl (f_ci (1), 1097)), (1097, .inl (f_iadd, 1098)), (1098, .inr (.inr (.inl (0, 1099, 0, m0)))), (1099, .inl (f_aload 0, 1100)), (1100, .inl (f_iload 5, 1102)), (1102, .inl (f_ci (2), 1103)), (1103, .inl (f_iadd, 1104)), (1104, .inr (.inr (.inl (0, 1105, 0, m0)))), (1105, .inl (f_i2d, 1106)), (1106, .inl (f_cd 4593671619917905920, 1109)), (1109, .inr (.inr (.inl (9, 1110, 0, m0)))), (1110, .inr (.inr (.inl (13, 1113, 3, mX7_operatingTime)))), (1113, .inl (f_dstore 10 7, 1115)), (1115, .inl (f_aload 2, 1116)), (1116, .inr (.inr (.inl (13, 1119, 1, mX7_thrown)))), (1119, .inl (f_iload 6, 1121)), (1121, .inr (.inl (b_icmp_eq, 1126, 1124))), (1124, .inl (f_ci (0), 1125)), (1125, .inr (.inr (.inl (15, 1126, 0, m0)))), (1126, .inl (f_iload 6, 1128)), (1128, .inr (.inl (b_if_eq, 1131, 1163))), (1131, .inl (f_aload 4, 1133)), (1133, .inl (f_ci (0), 1134)), (1134, .inr (.inr (.inl (1, 1135, 0, m0)))), (1135, .inl (f_dload 7, 1137)), (1137, .inl (f_dcmpl, 1138)), (1138, .inr (.inl (b_if_eq, 1163, 1141))), (1141, .inl (f_aload 4, 1143)), (1143, .inl (f_ci (0), 1144)), (1144, .inr (.inr (.inl (1, 1145, 0, m0)))), (1145, .inl (f_aload 4, 1147)), (1147, .inl (f_ci (0), 1148)), (1148, .inr (.inr (.inl (1, 1149, 0, m0)))), (1149, .inl (f_dcmpl, 1150)), (1150, .inr (.inl (b_if_eq, 1161, 1153))), (1153, .inl (f_dload 7, 1155)), (1155, .inl (f_dload 7, 1157)), (1157, .inl (f_dcmpl, 1158)), (1158, .inr (.inl (b_if_eq, 1161, 1163))), (1161, .inl (f_ci (0), 1162)), (1162, .inr (.inr (.inl (15, 1163, 0, m0)))), (1163, .inl (f_id, 1931))]
set_option maxRecDepth 10000 in
theorem kL_law_c12 {X : Ctx} (h : sCx X mL_law) : tab X mL_law tL_law_c12 :=
  tab_cons (eS (st_aloadn h rfl dL_law_1067)) (
  tab_cons (eS (st_aloadn h rfl dL_law_1068)) (
  tab_cons (eS (st_iload h dL_law_1069)) (
  tab_cons (eS (st_iconst h (by decide +kernel) dL_law_1071)) (
  tab_cons (eS (st_iadd h dL_law_1072)) (
  tab_cons (eO (so_iaload h dL_law_1073)) (
  tab_cons (eS (st_aloadn h rfl dL_law_1074)) (
  tab_cons (eS (st_iload h dL_law_1075)) (
  tab_cons (eS (st_iconst h (by decide +kernel) dL_law_1077)) (
  tab_cons (eS (st_iadd h dL_law_1078)) (
  tab_cons (eO (so_iaload h dL_law_1079)) (
  tab_cons (eS (st_i2d h dL_law_1080)) (
  tab_cons (eS (st_ldc2d h gl_92 dL_law_1081)) (
  tab_cons (eO (so_dmul h dL_law_1084)) (
  tab_cons (eS (st_aload h dL_law_1085)) (
  tab_cons (eS (st_istore h dL_law_1090)) (
  tab_cons (eS (st_aloadn h rfl dL_law_1092)) (
  tab_cons (eS (st_aloadn h rfl dL_law_1093)) (
  tab_cons (eS (st_iload h dL_law_1094)) (
  tab_cons (eS (st_iconst h (by decide +kernel) dL_law_1096)) (
  tab_cons (eS (st_iadd h dL_law_1097)) (
  tab_cons (eO (so_iaload h dL_law_1098)) (
  tab_cons (eS (st_aloadn h rfl dL_law_1099)) (
  tab_cons (eS (st_iload h dL_law_1100)) (
  tab_cons (eS (st_iconst h (by decide +kernel) dL_law_1102)) (
  tab_cons (eS (st_iadd h dL_law_1103)) (
  tab_cons (eO (so_iaload h dL_law_1104)) (
  tab_cons (eS (st_i2d h dL_law_1105)) (
  tab_cons (eS (st_ldc2d h gl_92 dL_law_1106)) (
  tab_cons (eO (so_dmul h dL_law_1109)) (
  tab_cons (eO (so_callV h gl_146 gl_147 gl_148 gw_295 gl_149 ⟨by decide +kernel, by decide +kernel, by decide +kernel, by decide +kernel⟩ ⟨by decide +kernel, by decide +kernel⟩ dL_law_1110)) (
  tab_cons (eS (st_dstore h dL_law_1113)) (
  tab_cons (eS (st_aloadn h rfl dL_law_1115)) (
  tab_cons (eO (so_callV h gl_98 gl_99 gl_100 gw_295 gl_101 ⟨by decide +kernel, by decide +kernel, by decide +kernel, by decide +kernel⟩ ⟨by decide +kernel, by decide +kernel⟩ dL_law_1116)) (
  tab_cons (eS (st_iload h dL_law_1119)) (
  tab_cons (eB (sb_icmp_eq h dL_law_1121 (by decide))) (
  tab_cons (eS (st_iconst h (by decide +kernel) dL_law_1124)) (
  tab_cons (eO (so_ireturn h dL_law_1125)) (
  tab_cons (eS (st_iload h dL_law_1126)) (
  tab_cons (eB (sb_if_ne h dL_law_1128 (by decide))) (
  tab_cons (eS (st_aload h dL_law_1131)) (
  tab_cons (eS (st_iconst h (by decide +kernel) dL_law_1133)) (
  tab_cons (eO (so_daload h dL_law_1134)) (
  tab_cons (eS (st_dload h dL_law_1135)) (
  tab_cons (eS (st_dcmpl h dL_law_1137)) (
  tab_cons (eB (sb_if_eq h dL_law_1138 (by decide))) (
  tab_cons (eS (st_aload h dL_law_1141)) (
  tab_cons (eS (st_iconst h (by decide +kernel) dL_law_1143)) (
  tab_cons (eO (so_daload h dL_law_1144)) (
  tab_cons (eS (st_aload h dL_law_1145)) (
  tab_cons (eS (st_iconst h (by decide +kernel) dL_law_1147)) (
  tab_cons (eO (so_daload h dL_law_1148)) (
  tab_cons (eS (st_dcmpl h dL_law_1149)) (
  tab_cons (eB (sb_if_eq h dL_law_1150 (by decide))) (
  tab_cons (eS (st_dload h dL_law_1153)) (
  tab_cons (eS (st_dload h dL_law_1155)) (
  tab_cons (eS (st_dcmpl h dL_law_1157)) (
  tab_cons (eB (sb_if_ne h dL_law_1158 (by decide))) (
  tab_cons (eS (st_iconst h (by decide +kernel) dL_law_1161)) (
  tab_cons (eO (so_ireturn h dL_law_1162)) (
  tab_cons (eS (st_goto h dL_law_1163 (by decide))) (
  tab_nil)))))))))))))))))))))))))))))))))))))))))))))))))))))))))))))
theorem dL_law_1166 : decode cL_law 1166 = .ok (.aload_n 1, 1) := by decide +kernel
theorem dL_law_1167 : decode cL_law 1167 = .ok (.aload_n 0, 1) := by decide +kernel
theorem dL_law_1168 : decode cL_law 1168 = .ok (.iload 5, 2) := by decide +kernel
theorem dL_law_1170 : decode cL_law 1170 = .ok (.iconst 1, 1) := by decide +kernel
theorem dL_law_1171 : decode cL_law 1171 = .ok (.iadd, 1) := by decide +kernel
theorem dL_law_1172 : decode cL_law 1172 = .ok (.iaload, 1) := by decide +kernel
theorem dL_law_1173 : decode cL_law 1173 = .ok (.aload 4, 2) := by decide +kernel
theorem dL_law_1175 : decode cL_law 1175 = .ok (.invokestatic 151, 3) := by decide +kernel
theorem dL_law_1178 : decode cL_law 1178 = .ok (.istore 6, 2) := by decide +kernel
theorem dL_law_1180 : decode cL_law 1180 = .ok (.aload_n 2, 1) := by decide +kernel
theorem dL_law_1181 : decode cL_law 1181 = .ok (.aload_n 0, 1) := by decide +kernel
theorem dL_law_1182 : decode cL_law 1182 = .ok (.iload 5, 2) := by decide +kernel
theorem dL_law_1184 : decode cL_law 1184 = .ok (.iconst 1, 1) := by decide +kernel
theorem dL_law_1185 : decode cL_law 1185 = .ok (.iadd, 1) := by decide +kernel
theorem dL_law_1186 : decode cL_law 1186 = .ok (.iaload, 1) := by decide +kernel
theorem dL_law_1187 : decode cL_law 1187 = .ok (.invokevirtual 154, 3) := by decide +kernel
theorem dL_law_1190 : decode cL_law 1190 = .ok (.dstore 7, 2) := by decide +kernel
theorem dL_law_1192 : decode cL_law 1192 = .ok (.aload_n 2, 1) := by decide +kernel
theorem dL_law_1193 : decode cL_law 1193 = .ok (.invokevirtual 105, 3) := by decide +kernel
theorem dL_law_1196 : decode cL_law 1196 = .ok (.iload 6, 2) := by decide +kernel
theorem dL_law_1198 : decode cL_law 1198 = .ok (.if_icmp .eq 5, 3) := by decide +kernel
theorem dL_law_1201 : decode cL_law 1201 = .ok (.iconst 0, 1) := by decide +kernel
theorem dL_law_1202 : decode cL_law 1202 = .ok (.ireturn, 1) := by decide +kernel
theorem dL_law_1203 : decode cL_law 1203 = .ok (.iload 6, 2) := by decide +kernel
theorem dL_law_1205 : decode cL_law 1205 = .ok (.ifCond .ne 35, 3) := by decide +kernel
theorem dL_law_1208 : decode cL_law 1208 = .ok (.aload 4, 2) := by decide +kernel
theorem dL_law_1210 : decode cL_law 1210 = .ok (.iconst 0, 1) := by decide +kernel
theorem dL_law_1211 : decode cL_law 1211 = .ok (.daload, 1) := by decide +kernel
theorem dL_law_1212 : decode cL_law 1212 = .ok (.dload 7, 2) := by decide +kernel
theorem dL_law_1214 : decode cL_law 1214 = .ok (.dcmp .l, 1) := by decide +kernel
theorem dL_law_1215 : decode cL_law 1215 = .ok (.ifCond .eq 25, 3) := by decide +kernel
theorem dL_law_1218 : decode cL_law 1218 = .ok (.aload 4, 2) := by decide +kernel
theorem dL_law_1220 : decode cL_law 1220 = .ok (.iconst 0, 1) := by decide +kernel
theorem dL_law_1221 : decode cL_law 1221 = .ok (.daload, 1) := by decide +kernel
theorem dL_law_1222 : decode cL_law 1222 = .ok (.aload 4, 2) := by decide +kernel
theorem dL_law_1224 : decode cL_law 1224 = .ok (.iconst 0, 1) := by decide +kernel
theorem dL_law_1225 : decode cL_law 1225 = .ok (.daload, 1) := by decide +kernel
theorem dL_law_1226 : decode cL_law 1226 = .ok (.dcmp .l, 1) := by decide +kernel
theorem dL_law_1227 : decode cL_law 1227 = .ok (.ifCond .eq 11, 3) := by decide +kernel
theorem dL_law_1230 : decode cL_law 1230 = .ok (.dload 7, 2) := by decide +kernel
theorem dL_law_1232 : decode cL_law 1232 = .ok (.dload 7, 2) := by decide +kernel
theorem dL_law_1234 : decode cL_law 1234 = .ok (.dcmp .l, 1) := by decide +kernel
theorem dL_law_1235 : decode cL_law 1235 = .ok (.ifCond .ne 5, 3) := by decide +kernel
theorem dL_law_1238 : decode cL_law 1238 = .ok (.iconst 0, 1) := by decide +kernel
theorem dL_law_1239 : decode cL_law 1239 = .ok (.ireturn, 1) := by decide +kernel
theorem dL_law_1240 : decode cL_law 1240 = .ok (.goto 691, 3) := by decide +kernel
def tL_law_c13 : Tb := [(1166, .inl (f_aload 1, 1167)), (1167, .inl (f_aload 0, 1168)), (1168, .inl (f_iload 5, 1170)), (1170, .inl (f_ci (1), 1171)), (1171, .inl (f_iadd, 1172)), (1172, .inr (.inr (.inl (0, 1173, 0, m0)))), (1173, .inl (f_aload 4, 1175)), (1178, .inl (f_istore 10 6, 1180)), (1180, .inl (f_aload 2, 1181)), (1181, .inl (f_aload 0, 1182)), (1182, .inl (f_iload 5, 1184)), (1184, .inl (f_ci (1), 1185)), (1185, .inl (f_iadd, 1186)), (1186, .inr (.inr (.inl (0, 1187, 0, m0)))), (1187, .inr (.inr (.inl (13, 1190, 2, mX7_sensitivity)))), (1190, .inl (f_dstore 10 7, 1192)), (1192, .inl (f_aload 2, 1193)), (1193, .inr (.inr (.inl (13, 1196, 1, mX7_thrown)))), (1196, .inl (f_iload 6, 1198)), (1198, .inr (.inl (b_icmp_eq, 1203, 1201))), (1201, .inl (f_ci (0), 1202)), (1202, .inr (.inr (.inl (15, 1203, 0, m0)))), (1203, .inl (f_iload 6, 1205)), (1205, .inr (.inl (b_if_eq, 1208, 1240))), (1208, .inl (f_aload 4, 1210)), (1210, .inl (f_ci (0), 1211)), (1211, .inr (.inr (.inl (1, 1212, 0, m0)))), (1212, .inl (f_dload 7, 1214)), (1214, .inl (f_dcmpl, 1215)), (1215, .inr (.inl (b_if_eq, 1240, 1218))), (1218, .inl (f_aload 4, 1220)), (1220, .inl (f_ci (0), 1221)), (1221, .inr (.inr (.inl (1, 1222, 0, m0)))), (1222, .inl (f_aload 4, 1224)), (1224, .inl (f_ci (0), 1225)), (1225, .inr (.inr (.inl (1, 1226, 0, m0)))), (1226, .inl (f_dcmpl, 1227)), (1227, .inr (.inl (b_if_eq, 1238, 1230))), (1230, .inl (f_dload 7, 1232)), (1232, .inl (f_dload 7, 1234)), (1234, .inl (f_dcmpl, 1235)), (1235, .inr (.inl (b_if_eq, 1238, 1240))), (1238, .inl (f_ci (0), 1239)), (1239, .inr (.inr (.inl (15, 1240, 0, m0)))), (1240, .inl (f_id, 1931))]
set_option maxRecDepth 10000 in
theorem kL_law_c13 {X : Ctx} (h : sCx X mL_law) : tab X mL_law tL_law_c13 :=
  tab_cons (eS (st_aloadn h rfl dL_law_1166)) (
  tab_cons (eS (st_aloadn h rfl dL_law_1167)) (
  tab_cons (eS (st_iload h dL_law_1168)) (
  tab_cons (eS (st_iconst h (by decide +kernel) dL_law_1170)) (
  tab_cons (eS (st_iadd h dL_law_1171)) (
  tab_cons (eO (so_iaload h dL_law_1172)) (
  tab_cons (eS (st_aload h dL_law_1173)) (
  tab_cons (eS (st_istore h dL_law_1178)) (
  tab_cons (eS (st_aloadn h rfl dL_law_1180)) (
  tab_cons (eS (st_aloadn h rfl dL_law_1181)) (
  tab_cons (eS (st_iload h dL_law_1182)) (
  tab_cons (eS (st_iconst h (by decide +kernel) dL_law_1184)) (
  tab_cons (eS (st_iadd h dL_law_1185)) (
  tab_cons (eO (so_iaload h dL_law_1186)) (
  tab_cons (eO (so_callV h gl_150 gl_151 gl_152 gw_295 gl_153 ⟨by decide +kernel, by decide +kernel, by decide +kernel, by decide +kernel⟩ ⟨by decide +kernel, by decide +kernel⟩ dL_law_1187)) (
  tab_cons (eS (st_dstore h dL_law_1190)) (
  tab_cons (eS (st_aloadn h rfl dL_law_1192)) (
  tab_cons (eO (so_callV h gl_98 gl_99 gl_100 gw_295 gl_101 ⟨by decide +kernel, by decide +kernel, by decide +kernel, by decide +kernel⟩ ⟨by decide +kernel, by decide +kernel⟩ dL_law_1193)) (
  tab_cons (eS (st_iload h dL_law_1196)) (
  tab_cons (eB (sb_icmp_eq h dL_law_1198 (by decide))) (
  tab_cons (eS (st_iconst h (by decide +kernel) dL_law_1201)) (
  tab_cons (eO (so_ireturn h dL_law_1202)) (
  tab_cons (eS (st_iload h dL_law_1203)) (
  tab_cons (eB (sb_if_ne h dL_law_1205 (by decide))) (
  tab_cons (eS (st_aload h dL_law_1208)) (
  tab_cons (eS (st_iconst h (by decide +kernel) dL_law_1210)) (
  tab_cons (eO (so_daload h dL_law_1211)) (
  tab_cons (eS (st_dload h dL_law_1212)) (
  tab_cons (eS (st_dcmpl h dL_law_1214)) (
  tab_cons (eB (sb_if_eq h dL_law_1215 (by decide))) (
  tab_cons (eS (st_aload h dL_law_1218)) (
  tab_cons (eS (st_iconst h (by decide +kernel) dL_law_1220)) (
  tab_cons (eO (so_daload h dL_law_1221)) (
  tab_cons (eS (st_aload h dL_law_1222)) (
  tab_cons (eS (st_iconst h (by decide +kernel) dL_law_1224)) (
  tab_cons (eO (so_daload h dL_law_1225)) (
  tab_cons (eS (st_dcmpl h dL_law_1226)) (
  tab_cons (eB (sb_if_eq h dL_law_1227 (by decide))) (
  tab_cons (eS (st_dload h dL_law_1230)) (
  tab_cons (eS (st_dload h dL_law_1232)) (
  tab_cons (eS (st_dcmpl h dL_law_1234)) (
  tab_cons (eB (sb_if_ne h dL_law_1235 (by decide))) (
  tab_cons (eS (st_iconst h (by decide +kernel) dL_law_1238)) (
  tab_cons (eO (so_ireturn h dL_law_1239)) (
  tab_cons (eS (st_goto h dL_law_1240 (by decide))) (
  tab_nil)))))))))))))))))))))))))))))))))))))))))))))
theorem dL_law_1243 : decode cL_law 1243 = .ok (.aload_n 1, 1) := by decide +kernel
theorem dL_law_1244 : decode cL_law 1244 = .ok (.aload_n 0, 1) := by decide +kernel
theorem dL_law_1245 : decode cL_law 1245 = .ok (.iload 5, 2) := by decide +kernel
theorem dL_law_1247 : decode cL_law 1247 = .ok (.iconst 1, 1) := by decide +kernel
theorem dL_law_1248 : decode cL_law 1248 = .ok (.iadd, 1) := by decide +kernel
theorem dL_law_1249 : decode cL_law 1249 = .ok (.iaload, 1) := by decide +kernel
theorem dL_law_1250 : decode cL_law 1250 = .ok (.i2d, 1) := by decide +kernel
theorem dL_law_1251 : decode cL_law 1251 = .ok (.ldc2_w 97, 3) := by decide +kernel
theorem dL_law_1254 : decode cL_law 1254 = .ok (.dmul, 1) := by decide +kernel
theorem dL_law_1255 : decode cL_law 1255 = .ok (.aload 4, 2) := by decide +kernel
theorem dL_law_1257 : decode cL_law 1257 = .ok (.invokestatic 155, 3) := by decide +kernel
theorem dL_law_1260 : decode cL_law 1260 = .ok (.istore 6, 2) := by decide +kernel
theorem dL_law_1262 : decode cL_law 1262 = .ok (.aload_n 2, 1) := by decide +kernel
theorem dL_law_1263 : decode cL_law 1263 = .ok (.aload_n 0, 1) := by decide +kernel
theorem dL_law_1264 : decode cL_law 1264 = .ok (.iload 5, 2) := by decide +kernel
theorem dL_law_1266 : decode cL_law 1266 = .ok (.iconst 1, 1) := by decide +kernel
theorem dL_law_1267 : decode cL_law 1267 = .ok (.iadd, 1) := by decide +kernel
theorem dL_law_1268 : decode cL_law 1268 = .ok (.iaload, 1) := by decide +kernel
theorem dL_law_1269 : decode cL_law 1269 = .ok (.i2d, 1) := by decide +kernel
theorem dL_law_1270 : decode cL_law 1270 = .ok (.ldc2_w 97, 3) := by decide +kernel
theorem dL_law_1273 : decode cL_law 1273 = .ok (.dmul, 1) := by decide +kernel
theorem dL_law_1274 : decode cL_law 1274 = .ok (.invokevirtual 158, 3) := by decide +kernel
theorem dL_law_1277 : decode cL_law 1277 = .ok (.dstore 7, 2) := by decide +kernel
theorem dL_law_1279 : decode cL_law 1279 = .ok (.aload_n 2, 1) := by decide +kernel
theorem dL_law_1280 : decode cL_law 1280 = .ok (.invokevirtual 105, 3) := by decide +kernel
theorem dL_law_1283 : decode cL_law 1283 = .ok (.iload 6, 2) := by decide +kernel
theorem dL_law_1285 : decode cL_law 1285 = .ok (.if_icmp .eq 5, 3) := by decide +kernel
theorem dL_law_1288 : decode cL_law 1288 = .ok (.iconst 0, 1) := by decide +kernel
theorem dL_law_1289 : decode cL_law 1289 = .ok (.ireturn, 1) := by decide +kernel
theorem dL_law_1290 : decode cL_law 1290 = .ok (.iload 6, 2) := by decide +kernel
theorem dL_law_1292 : decode cL_law 1292 = .ok (.ifCond .ne 35, 3) := by decide +kernel
theorem dL_law_1295 : decode cL_law 1295 = .ok (.aload 4, 2) := by decide +kernel
theorem dL_law_1297 : decode cL_law 1297 = .ok (.iconst 0, 1) := by decide +kernel
theorem dL_law_1298 : decode cL_law 1298 = .ok (.daload, 1) := by decide +kernel
theorem dL_law_1299 : decode cL_law 1299 = .ok (.dload 7, 2) := by decide +kernel
theorem dL_law_1301 : decode cL_law 1301 = .ok (.dcmp .l, 1) := by decide +kernel
theorem dL_law_1302 : decode cL_law 1302 = .ok (.ifCond .eq 25, 3) := by decide +kernel
theorem dL_law_1305 : decode cL_law 1305 = .ok (.aload 4, 2) := by decide +kernel
theorem dL_law_1307 : decode cL_law 1307 = .ok (.iconst 0, 1) := by decide +kernel
theorem dL_law_1308 : decode cL_law 1308 = .ok (.daload, 1) := by decide +kernel
theorem dL_law_1309 : decode cL_law 1309 = .ok (.aload 4, 2) := by decide +kernel
theorem dL_law_1311 : decode cL_law 1311 = .ok (.iconst 0, 1) := by decide +kernel
theorem dL_law_1312 : decode cL_law 1312 = .ok (.daload, 1) := by decide +kernel
theorem dL_law_1313 : decode cL_law 1313 = .ok (.dcmp .l, 1) := by decide +kernel
theorem dL_law_1314 : decode cL_law 1314 = .ok (.ifCond .eq 11, 3) := by decide +kernel
theorem dL_law_1317 : decode cL_law 1317 = .ok (.dload 7, 2) := by decide +kernel
theorem dL_law_1319 : decode cL_law 1319 = .ok (.dload 7, 2) := by decide +kernel
theorem dL_law_1321 : decode cL_law 1321 = .ok (.dcmp .l, 1) := by decide +kernel
theorem dL_law_1322 : decode cL_law 1322 = .ok (.ifCond .ne 5, 3) := by decide +kernel
theorem dL_law_1325 : decode cL_law 1325 = .ok (.iconst 0, 1) := by decide +kernel
theorem dL_law_1326 : decode cL_law 1326 = .ok (.ireturn, 1) := by decide +kernel
theorem dL_law_1327 : decode cL_law 1327 = .ok (.goto 604, 3) := by decide +kernel
def tL_law_c14 : Tb := [(1243, .inl (f_aload 1, 1244)), (1244, .inl (f_aload 0, 1245)), (1245, .inl (f_iload 5, 1247)), (1247, .inl (f_ci (1), 1248)), (1248, .inl (f_iadd, 1249)), (1249, .inr (.inr (.inl (0, 1250, 0, m0)))), (1250, .inl (f_i2d, 1251)), (1251, .inl (f_cd 4593671619917905920, 1254)), (1254, .inr (.inr (.inl (9, 1255, 0, m0)))), (1255, .inl (f_aload 4, 1257)), (1260, .inl (f_istore 10 6, 1262)), (1262, .inl (f_aload 2, 1263)), (1263, .inl (f_aload 0, 1264)), (1264, .inl (f_iload 5, 1266)), (1266, .inl (f_ci (1), 1267)), (1267, .inl (f_iadd, 1268)), (1268, .inr (.inr (.inl (0, 1269, 0, m0)))), (1269, .inl (f_i2d, 1270)), (1270, .inl (f_cd 4593671619917905920, 1273)), (1273, .inr (.inr (.inl (9, 1274, 0, m0)))), (1274, .inr (.inr (.inl (13, 1277, 2, mX7_setMargin)))), (1277, .inl (f_dstore 10 7, 1279)), (1279, .inl (f_aload 2, 1280)), (1280, .inr (.inr (.inl (13, 1283, 1, mX7_thrown)))), (1283, .inl (f_iload 6, 1285)), (1285, .inr (.inl (b_icmp_eq, 1290, 1288))), (1288, .inl (f_ci (0), 1289)), (1289, .inr (.inr (.inl (15, 1290, 0, m0)))), (1290, .inl (f_iload 6, 1292)), (1292, .inr (.inl (b_if_eq, 1295, 1327))), (1295, .inl (f_aload 4, 1297)), (1297, .inl (f_ci (0), 1298)), (1298, .inr (.inr (.inl (1, 1299, 0, m0)))), (1299, .inl (f_dload 7, 1301)), (1301, .inl (f_dcmpl, 1302)), (1302, .inr (.inl (b_if_eq, 1327, 1305))), (1305, .inl (f_aload 4, 1307)), (1307, .inl (f_ci (0), 1308)), (1308, .inr (.inr (.inl (1, 1309, 0, m0)))), (1309, .inl (f_aload 4, 1311)), (1311, .inl (f_ci (0), 1312)), (1312, .inr (.inr (.inl (1, 1313, 0, m0)))), (1313, .inl (f_dcmpl, 1314)), (1314, .inr (.inl (b_if_eq, 1325, 1317))), (1317, .inl (f_dload 7, 1319)), (1319, .inl (f_dload 7, 1321)), (1321, .inl (f_dcmpl, 1322)), (1322, .inr (.inl (b_if_eq, 1325, 1327))), (1325, .inl (f_ci (0), 1326)), (1326, .inr (.inr (.inl (15, 1327, 0, m0)))), (1327, .inl (f_id, 1931))]
set_option maxRecDepth 10000 in
theorem kL_law_c14 {X : Ctx} (h : sCx X mL_law) : tab X mL_law tL_law_c14 :=
  tab_cons (eS (st_aloadn h rfl dL_law_1243)) (
  tab_cons (eS (st_aloadn h rfl dL_law_1244)) (
  tab_cons (eS (st_iload h dL_law_1245)) (
  tab_cons (eS (st_iconst h (by decide +kernel) dL_law_1247)) (
  tab_cons (eS (st_iadd h dL_law_1248)) (
  tab_cons (eO (so_iaload h dL_law_1249)) (
  tab_cons (eS (st_i2d h dL_law_1250)) (
  tab_cons (eS (st_ldc2d h gl_92 dL_law_1251)) (
  tab_cons (eO (so_dmul h dL_law_1254)) (
  tab_cons (eS (st_aload h dL_law_1255)) (
  tab_cons (eS (st_istore h dL_law_1260)) (
  tab_cons (eS (st_aloadn h rfl dL_law_1262)) (
  tab_cons (eS (st_aloadn h rfl dL_law_1263)) (
  tab_cons (eS (st_iload h dL_law_1264)) (
  tab_cons (eS (st_iconst h (by decide +kernel) dL_law_1266)) (
  tab_cons (eS (st_iadd h dL_law_1267)) (
  tab_cons (eO (so_iaload h dL_law_1268)) (
  tab_cons (eS (st_i2d h dL_law_1269)) (
  tab_cons (eS (st_ldc2d h gl_92 dL_law_1270)) (
  tab_cons (eO (so_dmul h dL_law_1273)) (
  tab_cons (eO (so_callV h gl_154 gl_155 gl_156 gw_295 gl_157 ⟨by decide +kernel, by decide +kernel, by decide +kernel, by decide +kernel⟩ ⟨by decide +kernel, by decide +kernel⟩ dL_law_1274)) (
  tab_cons (eS (st_dstore h dL_law_1277)) (
  tab_cons (eS (st_aloadn h rfl dL_law_1279)) (
  tab_cons (eO (so_callV h gl_98 gl_99 gl_100 gw_295 gl_101 ⟨by decide +kernel, by decide +kernel, by decide +kernel, by decide +kernel⟩ ⟨by decide +kernel, by decide +kernel⟩ dL_law_1280)) (
  tab_cons (eS (st_iload h dL_law_1283)) (
  tab_cons (eB (sb_icmp_eq h dL_law_1285 (by decide))) (
  tab_cons (eS (st_iconst h (by decide +kernel) dL_law_1288)) (
  tab_cons (eO (so_ireturn h dL_law_1289)) (
  tab_cons (eS (st_iload h dL_law_1290)) (
  tab_cons (eB (sb_if_ne h dL_law_1292 (by decide))) (
  tab_cons (eS (st_aload h dL_law_1295)) (
  tab_cons (eS (st_iconst h (by decide +kernel) dL_law_1297)) (
  tab_cons (eO (so_daload h dL_law_1298)) (
  tab_cons (eS (st_dload h dL_law_1299)) (
  tab_cons (eS (st_dcmpl h dL_law_1301)) (
  tab_cons (eB (sb_if_eq h dL_law_1302 (by decide))) (
  tab_cons (eS (st_aload h dL_law_1305)) (
  tab_cons (eS (st_iconst h (by decide +kernel) dL_law_1307)) (
  tab_cons (eO (so_daload h dL_law_1308)) (
  tab_cons (eS (st_aload h dL_law_1309)) (
  tab_cons (eS (st_iconst h (by decide +kernel) dL_law_1311)) (
  tab_cons (eO (so_daload h dL_law_1312)) (
  tab_cons (eS (st_dcmpl h dL_law_1313)) (
  tab_cons (eB (sb_if_eq h dL_law_1314 (by decide))) (
  tab_cons (eS (st_dload h dL_law_1317)) (
  tab_cons (eS (st_dload h dL_law_1319)) (
  tab_cons (eS (st_dcmpl h dL_law_1321)) (
  tab_cons (eB (sb_if_ne h dL_law_1322 (by decide))) (
  tab_cons (eS (st_iconst h (by decide +kernel) dL_law_1325)) (
  tab_cons (eO (so_ireturn h dL_law_1326)) (
  tab_cons (eS (st_goto h dL_law_1327 (by decide))) (
  tab_nil)))))))))))))))))))))))))))))))))))))))))))))))))))
theorem dL_law_1330 : decode cL_law 1330 = .ok (.aload_n 1, 1) := by decide +kernel
theorem dL_law_1331 : decode cL_law 1331 = .ok (.aload_n 0, 1) := by decide +kernel
theorem dL_law_1332 : decode cL_law 1332 = .ok (.iload 5, 2) := by decide +kernel
theorem dL_law_1334 : decode cL_law 1334 = .ok (.iconst 1, 1) := by decide +kernel
theorem dL_law_1335 : decode cL_law 1335 = .ok (.iadd, 1) := by decide +kernel
theorem dL_law_1336 : decode cL_law 1336 = .ok (.iaload, 1) := by decide +kernel
theorem dL_law_1337 : decode cL_law 1337 = .ok (.aload_n 0, 1) := by decide +kernel
theorem dL_law_1338 : decode cL_law 1338 = .ok (.iload 5, 2) := by decide +kernel
theorem dL_law_1340 : decode cL_law 1340 = .ok (.iconst 2, 1) := by decide +kernel
theorem dL_law_1341 : decode cL_law 1341 = .ok (.iadd, 1) := by decide +kernel
theorem dL_law_1342 : decode cL_law 1342 = .ok (.iaload, 1) := by decide +kernel
theorem dL_law_1343 : decode cL_law 1343 = .ok (.aload 4, 2) := by decide +kernel
theorem dL_law_1345 : decode cL_law 1345 = .ok (.invokestatic 159, 3) := by decide +kernel
theorem dL_law_1348 : decode cL_law 1348 = .ok (.istore 6, 2) := by decide +kernel
theorem dL_law_1350 : decode cL_law 1350 = .ok (.aload_n 2, 1) := by decide +kernel
theorem dL_law_1351 : decode cL_law 1351 = .ok (.aload_n 0, 1) := by decide +kernel
theorem dL_law_1352 : decode cL_law 1352 = .ok (.iload 5, 2) := by decide +kernel
theorem dL_law_1354 : decode cL_law 1354 = .ok (.iconst 1, 1) := by decide +kernel
theorem dL_law_1355 : decode cL_law 1355 = .ok (.iadd, 1) := by decide +kernel
theorem dL_law_1356 : decode cL_law 1356 = .ok (.iaload, 1) := by decide +kernel
theorem dL_law_1357 : decode cL_law 1357 = .ok (.aload_n 0, 1) := by decide +kernel
theorem dL_law_1358 : decode cL_law 1358 = .ok (.iload 5, 2) := by decide +kernel
theorem dL_law_1360 : decode cL_law 1360 = .ok (.iconst 2, 1) := by decide +kernel
theorem dL_law_1361 : decode cL_law 1361 = .ok (.iadd, 1) := by decide +kernel
theorem dL_law_1362 : decode cL_law 1362 = .ok (.iaload, 1) := by decide +kernel
theorem dL_law_1363 : decode cL_law 1363 = .ok (.invokevirtual 161, 3) := by decide +kernel
theorem dL_law_1366 : decode cL_law 1366 = .ok (.dstore 7, 2) := by decide +kernel
theorem dL_law_1368 : decode cL_law 1368 = .ok (.aload_n 2, 1) := by decide +kernel
theorem dL_law_1369 : decode cL_law 1369 = .ok (.invokevirtual 105, 3) := by decide +kernel
theorem dL_law_1372 : decode cL_law 1372 = .ok (.iload 6, 2) := by decide +kernel
theorem dL_law_1374 : decode cL_law 1374 = .ok (.if_icmp .eq 5, 3) := by decide +kernel
theorem dL_law_1377 : decode cL_law 1377 = .ok (.iconst 0, 1) := by decide +kernel
theorem dL_law_1378 : decode cL_law 1378 = .ok (.ireturn, 1) := by decide +kernel
theorem dL_law_1379 : decode cL_law 1379 = .ok (.iload 6, 2) := by decide +kernel
theorem dL_law_1381 : decode cL_law 1381 = .ok (.ifCond .ne 35, 3) := by decide +kernel
theorem dL_law_1384 : decode cL_law 1384 = .ok (.aload 4, 2) := by decide +kernel
theorem dL_law_1386 : decode cL_law 1386 = .ok (.iconst 0, 1) := by decide +kernel
theorem dL_law_1387 : decode cL_law 1387 = .ok (.daload, 1) := by decide +kernel
theorem dL_law_1388 : decode cL_law 1388 = .ok (.dload 7, 2) := by decide +kernel
theorem dL_law_1390 : decode cL_law 1390 = .ok (.dcmp .l, 1) := by decide +kernel
theorem dL_law_1391 : decode cL_law 1391 = .ok (.ifCond .eq 25, 3) := by decide +kernel
theorem dL_law_1394 : decode cL_law 1394 = .ok (.aload 4, 2) := by decide +kernel
theorem dL_law_1396 : decode cL_law 1396 = .ok (.iconst 0, 1) := by decide +kernel
theorem dL_law_1397 : decode cL_law 1397 = .ok (.daload, 1) := by decide +kernel
theorem dL_law_1398 : decode cL_law 1398 = .ok (.aload 4, 2) := by decide +kernel
theorem dL_law_1400 : decode cL_law 1400 = .ok (.iconst 0, 1) := by decide +kernel
theorem dL_law_1401 : decode cL_law 1401 = .ok (.daload, 1) := by decide +kernel
theorem dL_law_1402 : decode cL_law 1402 = .ok (.dcmp .l, 1) := by decide +kernel
theorem dL_law_1403 : decode cL_law 1403 = .ok (.ifCond .eq 11, 3) := by decide +kernel
theorem dL_law_1406 : decode cL_law 1406 = .ok (.dload 7, 2) := by decide +kernel
theorem dL_law_1408 : decode cL_law 1408 = .ok (.dload 7, 2) := by decide +kernel
theorem dL_law_1410 : decode cL_law 1410 = .ok (.dcmp .l, 1) := by decide +kernel
theorem dL_law_1411 : decode cL_law 1411 = .ok (.ifCond .ne 5, 3) := by decide +kernel
theorem dL_law_1414 : decode cL_law 1414 = .ok (.iconst 0, 1) := by decide +kernel
theorem dL_law_1415 : decode cL_law 1415 = .ok (.ireturn, 1) := by decide +kernel
theorem dL_law_1416 : decode cL_law 1416 = .ok (.goto 515, 3) := by decide +kernel
def tL_law_c15 : Tb := [(1330, .inl (f_aload 1, 1331)), (1331, .inl (f_aload 0, 1332)), (1332, .inl (f_iload 5, 1334)), (1334, .inl (f_ci (1), 1335)), (1335, .inl (f_iadd, 1336)), (1336, .inr (.inr (.inl (0, 1337, 0, m0)))), (1337, .inl (f_aload 0, 1338)), (1338, .inl (f_iload 5, 1340)), (1340, .inl (f_ci (2), 1341)), (1341, .inl (f_iadd, 1342)), (1342, .inr (.inr (.inl (0, 1343, 0, m0)))), (1343, .inl (f_aload 4, 1345)), (1348, .inl (f_istore 10 6, 1350)), (1350, .inl (f_aload 2, 1351)), (1351, .inl (f_aload 0, 1352)), (1352, .inl (f_iload 5, 1354)), (1354, .inl (f_ci (1), 1355)), (1355, .inl (f_iadd, 1356)), (1356, .inr (.inr (.inl (0, 1357, 0, m0)))), (1357, .inl (f_aload 0, 1358)), (1358, .inl (f_iload 5, 1360)), (1360, .inl (f_ci (2), 1361)), (1361, .inl (f_iadd, 1362)), (1362, .inr (.inr (.inl (0, 1363, 0, m0)))), (1363, .inr (.inr (.inl (13, 1366, 3, mX7_margin)))), (1366, .inl (f_dstore 10 7, 1368)), (1368, .inl (f_aload 2, 1369)), (1369, .inr (.inr (.inl (13, 1372, 1, mX7_thrown)))), (1372, .inl (f_iload 6, 1374)), (1374, .inr (.inl (b_icmp_eq, 1379, 1377))), (1377, .inl (f_ci (0), 1378)), (1378, .inr (.inr (.inl (15, 1379, 0, m0)))), (1379, .inl (f_iload 6, 1381)), (1381, .inr (.inl (b_if_eq, 1384, 1416))), (1384, .inl (f_aload 4, 1386)), (1386, .inl (f_ci (0), 1387)), (1387, .inr (.inr (.inl (1, 1388, 0, m0)))), (1388, .inl (f_dload 7, 1390)), (1390, .inl (f_dcmpl, 1391)), (1391, .inr (.inl (b_if_eq, 1416, 1394))), (1394, .inl (f_aload 4, 1396)), (1396, .inl (f_ci (0), 1397)), (1397, .inr (.inr (.inl (1, 1398, 0, m0)))), (1398, .inl (f_aload 4, 1400)), (1400, .inl (f_ci (0), 1401)), (1401, .inr (.inr (.inl (1, 1402, 0, m0)))), (1402, .inl (f_dcmpl, 1403)), (1403, .inr (.inl (b_if_eq, 1414, 1406))), (1406, .inl (f_dload 7, 1408)), (1408, .inl (f_dload 7, 1410)), (1410, .inl (f_dcmpl, 1411)), (1411, .inr (.inl (b_if_eq, 1414, 1416))), (1414, .inl (f_ci (0), 1415)), (1415, .inr (.inr (.inl (15, 1416, 0, m0)))), (1416, .inl (f_id, 1931))]
set_option maxRecDepth 10000 in
theorem kL_law_c15 {X : Ctx} (h : sCx X mL_law) : tab X mL_law tL_law_c15 :=
  tab_cons (eS (st_aloadn h rfl dL_law_1330)) (
  tab_cons (eS (st_aloadn h rfl dL_law_1331)) (
  tab_cons (eS (st_iload h dL_law_1332)) (
  tab_cons (eS (st_iconst h (by decide +kernel) dL_law_1334)) (
  tab_cons (eS (st_iadd h dL_law_1335)) (
  tab_cons (eO (so_iaload h dL_law_1336)) (
  tab_cons (eS (st_aloadn h rfl dL_law_1337)) (
  tab_cons (eS (st_iload h dL_law_1338)) (
  tab_cons (eS (st_iconst h (by decide +kernel) dL_law_1340)) (
  tab_cons (eS (st_iadd h dL_law_1341)) (
  tab_cons (eO (so_iaload h dL_law_1342)) (
  tab_cons (eS (st_aload h dL_law_1343)) (
  tab_cons (eS (st_istore h dL_law_1348)) (
  tab_cons (eS (st_aloadn h rfl dL_law_1350)) (
  tab_cons (eS (st_aloadn h rfl dL_law_1351)) (
  tab_cons (eS (st_iload h dL_law_1352)) (
  tab_cons (eS (st_iconst h (by decide +kernel) dL_law_1354)) (
  tab_cons (eS (st_iadd h dL_law_1355)) (
  tab_cons (eO (so_iaload h dL_law_1356)) (
  tab_cons (eS (st_aloadn h rfl dL_law_1357)) (
  tab_cons (eS (st_iload h dL_law_1358)) (
  tab_cons (eS (st_iconst h (by decide +kernel) dL_law_1360)) (
  tab_cons (eS (st_iadd h dL_law_1361)) (
  tab_cons (eO (so_iaload h dL_law_1362)) (
  tab_cons (eO (so_callV h gl_158 gl_159 gl_160 gw_295 gl_161 ⟨by decide +kernel, by decide +kernel, by decide +kernel, by decide +kernel⟩ ⟨by decide +kernel, by decide +kernel⟩ dL_law_1363)) (
  tab_cons (eS (st_dstore h dL_law_1366)) (
  tab_cons (eS (st_aloadn h rfl dL_law_1368)) (
  tab_cons (eO (so_callV h gl_98 gl_99 gl_100 gw_295 gl_101 ⟨by decide +kernel, by decide +kernel, by decide +kernel, by decide +kernel⟩ ⟨by decide +kernel, by decide +kernel⟩ dL_law_1369)) (
  tab_cons (eS (st_iload h dL_law_1372)) (
  tab_cons (eB (sb_icmp_eq h dL_law_1374 (by decide))) (
  tab_cons (eS (st_iconst h (by decide +kernel) dL_law_1377)) (
  tab_cons (eO (so_ireturn h dL_law_1378)) (
  tab_cons (eS (st_iload h dL_law_1379)) (
  tab_cons (eB (sb_if_ne h dL_law_1381 (by decide))) (
  tab_cons (eS (st_aload h dL_law_1384)) (
  tab_cons (eS (st_iconst h (by decide +kernel) dL_law_1386)) (
  tab_cons (eO (so_daload h dL_law_1387)) (
  tab_cons (eS (st_dload h dL_law_1388)) (
  tab_cons (eS (st_dcmpl h dL_law_1390)) (
  tab_cons (eB (sb_if_eq h dL_law_1391 (by decide))) (
  tab_cons (eS (st_aload h dL_law_1394)) (
  tab_cons (eS (st_iconst h (by decide +kernel) dL_law_1396)) (
  tab_cons (eO (so_daload h dL_law_1397)) (
  tab_cons (eS (st_aload h dL_law_1398)) (
  tab_cons (eS (st_iconst h (by decide +kernel) dL_law_1400)) (
  tab_cons (eO (so_daload h dL_law_1401)) (
  tab_cons (eS (st_dcmpl h dL_law_1402)) (
  tab_cons (eB (sb_if_eq h dL_law_1403 (by decide))) (
  tab_cons (eS (st_dload h dL_law_1406)) (
  tab_cons (eS (st_dload h dL_law_1408)) (
  tab_cons (eS (st_dcmpl h dL_law_1410)) (
  tab_cons (eB (sb_if_ne h dL_law_1411 (by decide))) (
  tab_cons (eS (st_iconst h (by decide +kernel) dL_law_1414)) (
  tab_cons (eO (so_ireturn h dL_law_1415)) (
  tab_cons (eS (st_goto h dL_law_1416 (by decide))) (
  tab_nil)))))))))))))))))))))))))))))))))))))))))))))))))))))))
theorem dL_law_1419 : decode cL_law 1419 = .ok (.aload_n 1, 1) := by decide +kernel
theorem dL_law_1420 : decode cL_law 1420 = .ok (.invokevirtual 162, 3) := by decide +kernel
theorem dL_law_1423 : decode cL_law 1423 = .ok (.aload_n 2, 1) := by decide +kernel
theorem dL_law_1424 : decode cL_law 1424 = .ok (.invokevirtual 165, 3) := by decide +kernel
theorem dL_law_1427 : decode cL_law 1427 = .ok (.if_icmp .eq 504, 3) := by decide +kernel
theorem dL_law_1430 : decode cL_law 1430 = .ok (.iconst 0, 1) := by decide +kernel
theorem dL_law_1431 : decode cL_law 1431 = .ok (.ireturn, 1) := by decide +kernel
def tL_law_c16 : Tb := [(1419, .inl (f_aload 1, 1420)), (1420, .inr (.inr (.inl (13, 1423, 1, mX6_violationCount)))), (1423, .inl (f_aload 2, 1424)), (1424, .inr (.inr (.inl (13, 1427, 1, mX7_violationCount)))), (1427, .inr (.inl (b_icmp_eq, 1931, 1430))), (1430, .inl (f_ci (0), 1431)), (1431, .inr (.inr (.inl (15, 1432, 0, m0))))]
set_option maxRecDepth 10000 in
theorem kL_law_c16 {X : Ctx} (h : sCx X mL_law) : tab X mL_law tL_law_c16 :=
  tab_cons (eS (st_aloadn h rfl dL_law_1419)) (
  tab_cons (eO (so_callV h gl_162 gl_163 gl_164 gw_27 gl_165 ⟨by decide +kernel, by decide +kernel, by decide +kernel, by decide +kernel⟩ ⟨by decide +kernel, by decide +kernel⟩ dL_law_1420)) (
  tab_cons (eS (st_aloadn h rfl dL_law_1423)) (
  tab_cons (eO (so_callV h gl_166 gl_167 gl_168 gw_295 gl_169 ⟨by decide +kernel, by decide +kernel, by decide +kernel, by decide +kernel⟩ ⟨by decide +kernel, by decide +kernel⟩ dL_law_1424)) (
  tab_cons (eB (sb_icmp_eq h dL_law_1427 (by decide))) (
  tab_cons (eS (st_iconst h (by decide +kernel) dL_law_1430)) (
  tab_cons (eO (so_ireturn h dL_law_1431)) (
  tab_nil)))))))
theorem dL_law_1432 : decode cL_law 1432 = .ok (.aload_n 1, 1) := by decide +kernel
theorem dL_law_1433 : decode cL_law 1433 = .ok (.aload_n 0, 1) := by decide +kernel
theorem dL_law_1434 : decode cL_law 1434 = .ok (.iload 5, 2) := by decide +kernel
theorem dL_law_1436 : decode cL_law 1436 = .ok (.iconst 1, 1) := by decide +kernel
theorem dL_law_1437 : decode cL_law 1437 = .ok (.iadd, 1) := by decide +kernel
theorem dL_law_1438 : decode cL_law 1438 = .ok (.iaload, 1) := by decide +kernel
theorem dL_law_1439 : decode cL_law 1439 = .ok (.aload_n 3, 1) := by decide +kernel
theorem dL_law_1440 : decode cL_law 1440 = .ok (.invokestatic 166, 3) := by decide +kernel
theorem dL_law_1443 : decode cL_law 1443 = .ok (.istore 6, 2) := by decide +kernel
theorem dL_law_1445 : decode cL_law 1445 = .ok (.aload_n 2, 1) := by decide +kernel
theorem dL_law_1446 : decode cL_law 1446 = .ok (.aload_n 0, 1) := by decide +kernel
theorem dL_law_1447 : decode cL_law 1447 = .ok (.iload 5, 2) := by decide +kernel
theorem dL_law_1449 : decode cL_law 1449 = .ok (.iconst 1, 1) := by decide +kernel
theorem dL_law_1450 : decode cL_law 1450 = .ok (.iadd, 1) := by decide +kernel
theorem dL_law_1451 : decode cL_law 1451 = .ok (.iaload, 1) := by decide +kernel
theorem dL_law_1452 : decode cL_law 1452 = .ok (.invokevirtual 168, 3) := by decide +kernel
theorem dL_law_1455 : decode cL_law 1455 = .ok (.istore 7, 2) := by decide +kernel
theorem dL_law_1457 : decode cL_law 1457 = .ok (.aload_n 2, 1) := by decide +kernel
theorem dL_law_1458 : decode cL_law 1458 = .ok (.invokevirtual 105, 3) := by decide +kernel
theorem dL_law_1461 : decode cL_law 1461 = .ok (.iload 6, 2) := by decide +kernel
theorem dL_law_1463 : decode cL_law 1463 = .ok (.if_icmp .eq 5, 3) := by decide +kernel
theorem dL_law_1466 : decode cL_law 1466 = .ok (.iconst 0, 1) := by decide +kernel
theorem dL_law_1467 : decode cL_law 1467 = .ok (.ireturn, 1) := by decide +kernel
theorem dL_law_1468 : decode cL_law 1468 = .ok (.iload 6, 2) := by decide +kernel
theorem dL_law_1470 : decode cL_law 1470 = .ok (.ifCond .ne 15, 3) := by decide +kernel
theorem dL_law_1473 : decode cL_law 1473 = .ok (.aload_n 3, 1) := by decide +kernel
theorem dL_law_1474 : decode cL_law 1474 = .ok (.iconst 0, 1) := by decide +kernel
theorem dL_law_1475 : decode cL_law 1475 = .ok (.laload, 1) := by decide +kernel
theorem dL_law_1476 : decode cL_law 1476 = .ok (.iload 7, 2) := by decide +kernel
theorem dL_law_1478 : decode cL_law 1478 = .ok (.i2l, 1) := by decide +kernel
theorem dL_law_1479 : decode cL_law 1479 = .ok (.lcmp, 1) := by decide +kernel
theorem dL_law_1480 : decode cL_law 1480 = .ok (.ifCond .eq 5, 3) := by decide +kernel
theorem dL_law_1483 : decode cL_law 1483 = .ok (.iconst 0, 1) := by decide +kernel
theorem dL_law_1484 : decode cL_law 1484 = .ok (.ireturn, 1) := by decide +kernel
theorem dL_law_1485 : decode cL_law 1485 = .ok (.goto 446, 3) := by decide +kernel
def tL_law_c17 : Tb := [(1432, .inl (f_aload 1, 1433)), (1433, .inl (f_aload 0, 1434)), (1434, .inl (f_iload 5, 1436)), (1436, .inl (f_ci (1), 1437)), (1437, .inl (f_iadd, 1438)), (1438, .inr (.inr (.inl (0, 1439, 0, m0)))), (1439, .inl (f_aload 3, 1440)), (1443, .inl (f_istore 10 6, 1445)), (1445, .inl (f_aload 2, 1446)), (1446, .inl (f_aload 0, 1447)), (1447, .inl (f_iload 5, 1449)), (1449, .inl (f_ci (1), 1450)), (1450, .inl (f_iadd, 1451)), (1451, .inr (.inr (.inl (0, 1452, 0, m0)))), (1452, .inr (.inr (.inl (13, 1455, 2, mX7_violation)))), (1455, .inl (f_istore 10 7, 1457)), (1457, .inl (f_aload 2, 1458)), (1458, .inr (.inr (.inl (13, 1461, 1, mX7_thrown)))), (1461, .inl (f_iload 6, 1463)), (1463, .inr (.inl (b_icmp_eq, 1468, 1466))), (1466, .inl (f_ci (0), 1467)), (1467, .inr (.inr (.inl (15, 1468, 0, m0)))), (1468, .inl (f_iload 6, 1470)), (1470, .inr (.inl (b_if_eq, 1473, 1485))), (1473, .inl (f_aload 3, 1474)), (1474, .inl (f_ci (0), 1475)), (1475, .inr (.inr (.inl (2, 1476, 0, m0)))), (1476, .inl (f_iload 7, 1478)), (1478, .inl (f_i2l, 1479)), (1479, .inl (f_lcmp, 1480)), (1480, .inr (.inl (b_if_eq, 1485, 1483))), (1483, .inl (f_ci (0), 1484)), (1484, .inr (.inr (.inl (15, 1485, 0, m0)))), (1485, .inl (f_id, 1931))]
set_option maxRecDepth 10000 in
theorem kL_law_c17 {X : Ctx} (h : sCx X mL_law) : tab X mL_law tL_law_c17 :=
  tab_cons (eS (st_aloadn h rfl dL_law_1432)) (
  tab_cons (eS (st_aloadn h rfl dL_law_1433)) (
  tab_cons (eS (st_iload h dL_law_1434)) (
  tab_cons (eS (st_iconst h (by decide +kernel) dL_law_1436)) (
  tab_cons (eS (st_iadd h dL_law_1437)) (
  tab_cons (eO (so_iaload h dL_law_1438)) (
  tab_cons (eS (st_aloadn h rfl dL_law_1439)) (
  tab_cons (eS (st_istore h dL_law_1443)) (
  tab_cons (eS (st_aloadn h rfl dL_law_1445)) (
  tab_cons (eS (st_aloadn h rfl dL_law_1446)) (
  tab_cons (eS (st_iload h dL_law_1447)) (
  tab_cons (eS (st_iconst h (by decide +kernel) dL_law_1449)) (
  tab_cons (eS (st_iadd h dL_law_1450)) (
  tab_cons (eO (so_iaload h dL_law_1451)) (
  tab_cons (eO (so_callV h gl_170 gl_171 gl_172 gw_295 gl_173 ⟨by decide +kernel, by decide +kernel, by decide +kernel, by decide +kernel⟩ ⟨by decide +kernel, by decide +kernel⟩ dL_law_1452)) (
  tab_cons (eS (st_istore h dL_law_1455)) (
  tab_cons (eS (st_aloadn h rfl dL_law_1457)) (
  tab_cons (eO (so_callV h gl_98 gl_99 gl_100 gw_295 gl_101 ⟨by decide +kernel, by decide +kernel, by decide +kernel, by decide +kernel⟩ ⟨by decide +kernel, by decide +kernel⟩ dL_law_1458)) (
  tab_cons (eS (st_iload h dL_law_1461)) (
  tab_cons (eB (sb_icmp_eq h dL_law_1463 (by decide))) (
  tab_cons (eS (st_iconst h (by decide +kernel) dL_law_1466)) (
  tab_cons (eO (so_ireturn h dL_law_1467)) (
  tab_cons (eS (st_iload h dL_law_1468)) (
  tab_cons (eB (sb_if_ne h dL_law_1470 (by decide))) (
  tab_cons (eS (st_aloadn h rfl dL_law_1473)) (
  tab_cons (eS (st_iconst h (by decide +kernel) dL_law_1474)) (
  tab_cons (eO (so_laload h dL_law_1475)) (
  tab_cons (eS (st_iload h dL_law_1476)) (
  tab_cons (eS (st_i2l h dL_law_1478)) (
  tab_cons (eS (st_lcmp h dL_law_1479)) (
  tab_cons (eB (sb_if_eq h dL_law_1480 (by decide))) (
  tab_cons (eS (st_iconst h (by decide +kernel) dL_law_1483)) (
  tab_cons (eO (so_ireturn h dL_law_1484)) (
  tab_cons (eS (st_goto h dL_law_1485 (by decide))) (
  tab_nil))))))))))))))))))))))))))))))))))
