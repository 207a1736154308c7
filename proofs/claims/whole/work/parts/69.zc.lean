/-! the constructors that make others -/
theorem gd4_0 : decode cX4_init 0 = .ok (.aload_n 0, 1) := by decide +kernel
theorem gd4_1 : decode cX4_init 1 = .ok (.invokespecial 3, 3) := by decide +kernel
theorem gd4_4 : decode cX4_init 4 = .ok (.aload_n 0, 1) := by decide +kernel
theorem gd4_5 : decode cX4_init 5 = .ok (.new 9, 3) := by decide +kernel
theorem gd4_8 : decode cX4_init 8 = .ok (.dup, 1) := by decide +kernel
theorem gd4_9 : decode cX4_init 9 = .ok (.invokespecial 11, 3) := by decide +kernel
theorem gd4_12 : decode cX4_init 12 = .ok (.putfield 12, 3) := by decide +kernel
theorem gd4_15 : decode cX4_init 15 = .ok (.aload_n 0, 1) := by decide +kernel
theorem gd4_16 : decode cX4_init 16 = .ok (.new 18, 3) := by decide +kernel
theorem gd4_19 : decode cX4_init 19 = .ok (.dup, 1) := by decide +kernel
theorem gd4_20 : decode cX4_init 20 = .ok (.invokespecial 20, 3) := by decide +kernel
theorem gd4_23 : decode cX4_init 23 = .ok (.putfield 21, 3) := by decide +kernel
theorem gd4_26 : decode cX4_init 26 = .ok (.aload_n 0, 1) := by decide +kernel
theorem gd4_27 : decode cX4_init 27 = .ok (.new 25, 3) := by decide +kernel
theorem gd4_30 : decode cX4_init 30 = .ok (.dup, 1) := by decide +kernel
theorem gd4_31 : decode cX4_init 31 = .ok (.invokespecial 27, 3) := by decide +kernel
theorem gd4_34 : decode cX4_init 34 = .ok (.putfield 28, 3) := by decide +kernel
theorem gd4_37 : decode cX4_init 37 = .ok (.aload_n 0, 1) := by decide +kernel
theorem gd4_38 : decode cX4_init 38 = .ok (.ldc2_w 32, 3) := by decide +kernel
theorem gd4_41 : decode cX4_init 41 = .ok (.putfield 34, 3) := by decide +kernel
theorem gd4_44 : decode cX4_init 44 = .ok (.return_, 1) := by decide +kernel
set_option maxHeartbeats 2000000 in
theorem kX4_init (Y : Launch × va_G × (Nat → ClassId)) (q : Nat) : CT Y mX4_init [(q, .inr (4, dfX4))] [.ref q] 14 246 (fun ws => ∃ a : Nat → Nat, a 0 = q ∧ ws = tSt Y.2.2 a) := by
  refine CT_of (by decide +kernel) (Nat.le_of_ble_eq_true rfl) (fun X h hY hQ hI => ?_)
  subst hY
  refine g_al h rfl gd4_0 rfl ?_
  refine g_obj h gz_34 gz_27 gz_28 (by decide) gd4_1 ?_
  refine g_al h rfl gd4_4 rfl ?_
  refine g_new h (ci := 1) (fs := dfX1) rfl giX1 tyX1 tyX1_ok dfX1_ok gz_35 gz_36 gz_3 (g_rm hQ (Nat.le_of_ble_eq_true rfl) (Nat.le_of_ble_eq_true rfl)) gd4_5 (fun q1 => ?_)
  refine g_dup h gd4_8 ?_
  refine g_init h (M2 := mX1_init) (kX1_init _ _) gz_37 gz_38 gz_3 gz_39 rfl rfl ⟨by decide, by decide, by decide +kernel⟩ ⟨by decide, by decide⟩ (g_rm hQ (Nat.le_of_ble_eq_true rfl) (Nat.le_of_ble_eq_true rfl)) (Nat.le_of_ble_eq_true rfl) gd4_9 (fun w9 hp9 => ?_)
  obtain ⟨b1, h9, rfl⟩ := hp9
  subst h9
  refine g_putF h (hI rfl) (q0 := 0) (ci := 4) (kf := 0) (ty := .object RX1) rfl rfl giX4 tyX4 tyX4_ok nmX4 (by decide) gz_139 rfl rfl (by decide +kernel) rfl rfl (Nat.le_of_ble_eq_true rfl) gd4_12 ?_
  refine g_al h rfl gd4_15 rfl ?_
  refine g_new h (ci := 2) (fs := dfX2) rfl giX2 tyX2 tyX2_ok dfX2_ok gz_74 gz_75 gz_4 (g_rm hQ (Nat.le_of_ble_eq_true rfl) (Nat.le_of_ble_eq_true rfl)) gd4_16 (fun q2 => ?_)
  refine g_dup h gd4_19 ?_
  refine g_init h (M2 := mX2_init) (kX2_init _ _) gz_76 gz_77 gz_4 gz_78 rfl rfl ⟨by decide, by decide, by decide +kernel⟩ ⟨by decide, by decide⟩ (g_rm hQ (Nat.le_of_ble_eq_true rfl) (Nat.le_of_ble_eq_true rfl)) (Nat.le_of_ble_eq_true rfl) gd4_20 (fun w9 hp9 => ?_)
  obtain ⟨b6, h9, rfl⟩ := hp9
  subst h9
  refine g_putF h (hI rfl) (q0 := 0) (ci := 4) (kf := 1) (ty := .object RX2) rfl rfl giX4 tyX4 tyX4_ok nmX4 (by decide) gz_142 rfl rfl (by decide +kernel) rfl rfl (Nat.le_of_ble_eq_true rfl) gd4_23 ?_
  refine g_al h rfl gd4_26 rfl ?_
  refine g_new h (ci := 0) (fs := dfX0) rfl giX0 tyX0 tyX0_ok dfX0_ok gz_114 gz_115 gz_6 (g_rm hQ (Nat.le_of_ble_eq_true rfl) (Nat.le_of_ble_eq_true rfl)) gd4_27 (fun q3 => ?_)
  refine g_dup h gd4_30 ?_
  refine g_init h (M2 := mX0_init) (kX0_init _ _) gz_116 gz_117 gz_6 gz_118 rfl rfl ⟨by decide, by decide, by decide +kernel⟩ ⟨by decide, by decide⟩ (g_rm hQ (Nat.le_of_ble_eq_true rfl) (Nat.le_of_ble_eq_true rfl)) (Nat.le_of_ble_eq_true rfl) gd4_31 (fun w9 hp9 => ?_)
  obtain ⟨b12, h9, rfl⟩ := hp9
  subst h9
  refine g_putF h (hI rfl) (q0 := 0) (ci := 4) (kf := 2) (ty := .object RX0) rfl rfl giX4 tyX4 tyX4_ok nmX4 (by decide) gz_145 rfl rfl (by decide +kernel) rfl rfl (Nat.le_of_ble_eq_true rfl) gd4_34 ?_
  refine g_al h rfl gd4_37 rfl ?_
  refine g_ld h (v := 4599075939470750515) gz_138 gd4_38 ?_
  refine g_put h (q0 := 0) (ci := 4) (kf := 3) (ty := .double) rfl rfl giX4 tyX4 tyX4_ok nmX4 (by decide) gz_148 rfl (by decide +kernel) rfl rfl (Nat.le_of_ble_eq_true rfl) gd4_41 ?_
  exact g_ret h hQ rfl ⟨fun i => [q, b1 0, b1 1, b1 2, b1 3, b1 4, b6 0, b6 1, b6 2, b6 3, b6 4, b6 5, b12 0, b12 1, b12 2].getD i 0, rfl, rfl⟩ ⟨(Nat.le_of_ble_eq_true rfl), (Nat.le_of_ble_eq_true rfl)⟩ gd4_44
theorem gd5_0 : decode cX5_init 0 = .ok (.aload_n 0, 1) := by decide +kernel
theorem gd5_1 : decode cX5_init 1 = .ok (.invokespecial 3, 3) := by decide +kernel
theorem gd5_4 : decode cX5_init 4 = .ok (.aload_n 0, 1) := by decide +kernel
theorem gd5_5 : decode cX5_init 5 = .ok (.iconst 4, 1) := by decide +kernel
theorem gd5_6 : decode cX5_init 6 = .ok (.anewarray 9, 3) := by decide +kernel
theorem gd5_9 : decode cX5_init 9 = .ok (.putfield 11, 3) := by decide +kernel
theorem gd5_12 : decode cX5_init 12 = .ok (.iconst 0, 1) := by decide +kernel
theorem gd5_13 : decode cX5_init 13 = .ok (.istore_n 1, 1) := by decide +kernel
theorem gd5_14 : decode cX5_init 14 = .ok (.iload_n 1, 1) := by decide +kernel
theorem gd5_15 : decode cX5_init 15 = .ok (.iconst 4, 1) := by decide +kernel
theorem gd5_16 : decode cX5_init 16 = .ok (.if_icmp .ge 22, 3) := by decide +kernel
theorem gd5_19 : decode cX5_init 19 = .ok (.aload_n 0, 1) := by decide +kernel
theorem gd5_20 : decode cX5_init 20 = .ok (.getfield 11, 3) := by decide +kernel
theorem gd5_23 : decode cX5_init 23 = .ok (.iload_n 1, 1) := by decide +kernel
theorem gd5_24 : decode cX5_init 24 = .ok (.new 9, 3) := by decide +kernel
theorem gd5_27 : decode cX5_init 27 = .ok (.dup, 1) := by decide +kernel
theorem gd5_28 : decode cX5_init 28 = .ok (.invokespecial 17, 3) := by decide +kernel
theorem gd5_31 : decode cX5_init 31 = .ok (.aastore, 1) := by decide +kernel
theorem gd5_32 : decode cX5_init 32 = .ok (.iinc 1 1, 3) := by decide +kernel
theorem gd5_35 : decode cX5_init 35 = .ok (.goto (-21), 3) := by decide +kernel
theorem gd5_38 : decode cX5_init 38 = .ok (.return_, 1) := by decide +kernel
set_option maxHeartbeats 2000000 in
theorem kX5_init (Y : Launch × va_G × (Nat → ClassId)) (q : Nat) : CT Y mX5_init [(q, .inr (5, dfX5))] [.ref q] 61 1004 (fun ws => ∃ u p a0 a1 a2 a3, u = q ∧ ws = tUn Y.2.2 u p a0 a1 a2 a3) := by
  refine CT_of (by decide +kernel) (Nat.le_of_ble_eq_true rfl) (fun X h hY hQ hI => ?_)
  subst hY
  refine g_al h rfl gd5_0 rfl ?_
  refine g_obj h gz_164 gz_27 gz_28 (by decide) gd5_1 ?_
  refine g_al h rfl gd5_4 rfl ?_
  refine g_ic h (v := 4) (by decide +kernel) gd5_5 ?_
  refine g_newQ h gz_165 (N' := 4) (by decide +kernel) (by decide +kernel) (by decide) (g_rm hQ (Nat.le_of_ble_eq_true rfl) (Nat.le_of_ble_eq_true rfl)) gd5_6 (fun q1 => ?_)
  refine g_putF h (hI rfl) (q0 := 0) (ci := 5) (kf := 2) (ty := .array (.object RX4)) rfl rfl giX5 tyX5 tyX5_ok nmX5 (by decide) gz_171 rfl rfl (by decide +kernel) rfl rfl (Nat.le_of_ble_eq_true rfl) gd5_9 ?_
  refine g_ic h (v := 0) (by decide +kernel) gd5_12 ?_
  refine g_is h rfl gd5_13 (by decide) ?_
  refine g_il h rfl gd5_14 rfl ?_
  refine g_ic h (v := 4) (by decide +kernel) gd5_15 ?_
  refine g_geF h (tgt := 38) (by decide +kernel) gd5_16 (by decide) ?_
  refine g_al h rfl gd5_19 rfl ?_
  refine g_get h (q0 := 0) (ci := 5) (kf := 2) rfl rfl giX5 (by decide) gz_171 rfl gd5_20 ?_
  refine g_il h rfl gd5_23 rfl ?_
  refine g_new h (ci := 4) (fs := dfX4) rfl giX4 tyX4 tyX4_ok dfX4_ok gz_165 gz_30 gz_2 (g_rm hQ (Nat.le_of_ble_eq_true rfl) (Nat.le_of_ble_eq_true rfl)) gd5_24 (fun q2 => ?_)
  refine g_dup h gd5_27 ?_
  refine g_init h (M2 := mX4_init) (kX4_init _ _) gz_167 gz_32 gz_2 gz_33 rfl rfl ⟨by decide, by decide, by decide +kernel⟩ ⟨by decide, by decide⟩ (g_rm hQ (Nat.le_of_ble_eq_true rfl) (Nat.le_of_ble_eq_true rfl)) (Nat.le_of_ble_eq_true rfl) gd5_28 (fun w9 hp9 => ?_)
  obtain ⟨b2, h9, rfl⟩ := hp9
  subst h9
  refine g_qst h (q0 := 1) (qk := 2) (j := 0) rfl rfl (by unfold vp_in; decide +kernel) (by decide +kernel) gd5_31 ?_
  refine g_iinc h rfl (v' := 1) (by decide +kernel) (by decide) gd5_32 ?_
  refine g_go h (tgt := 14) gd5_35 (by decide) ?_
  refine g_il h rfl gd5_14 rfl ?_
  refine g_ic h (v := 4) (by decide +kernel) gd5_15 ?_
  refine g_geF h (tgt := 38) (by decide +kernel) gd5_16 (by decide) ?_
  refine g_al h rfl gd5_19 rfl ?_
  refine g_get h (q0 := 0) (ci := 5) (kf := 2) rfl rfl giX5 (by decide) gz_171 rfl gd5_20 ?_
  refine g_il h rfl gd5_23 rfl ?_
  refine g_new h (ci := 4) (fs := dfX4) rfl giX4 tyX4 tyX4_ok dfX4_ok gz_165 gz_30 gz_2 (g_rm hQ (Nat.le_of_ble_eq_true rfl) (Nat.le_of_ble_eq_true rfl)) gd5_24 (fun q3 => ?_)
  refine g_dup h gd5_27 ?_
  refine g_init h (M2 := mX4_init) (kX4_init _ _) gz_167 gz_32 gz_2 gz_33 rfl rfl ⟨by decide, by decide, by decide +kernel⟩ ⟨by decide, by decide⟩ (g_rm hQ (Nat.le_of_ble_eq_true rfl) (Nat.le_of_ble_eq_true rfl)) (Nat.le_of_ble_eq_true rfl) gd5_28 (fun w9 hp9 => ?_)
  obtain ⟨b17, h9, rfl⟩ := hp9
  subst h9
  refine g_qst h (q0 := 1) (qk := 17) (j := 1) rfl rfl (by unfold vp_in; decide +kernel) (by decide +kernel) gd5_31 ?_
  refine g_iinc h rfl (v' := 2) (by decide +kernel) (by decide) gd5_32 ?_
  refine g_go h (tgt := 14) gd5_35 (by decide) ?_
  refine g_il h rfl gd5_14 rfl ?_
  refine g_ic h (v := 4) (by decide +kernel) gd5_15 ?_
  refine g_geF h (tgt := 38) (by decide +kernel) gd5_16 (by decide) ?_
  refine g_al h rfl gd5_19 rfl ?_
  refine g_get h (q0 := 0) (ci := 5) (kf := 2) rfl rfl giX5 (by decide) gz_171 rfl gd5_20 ?_
  refine g_il h rfl gd5_23 rfl ?_
  refine g_new h (ci := 4) (fs := dfX4) rfl giX4 tyX4 tyX4_ok dfX4_ok gz_165 gz_30 gz_2 (g_rm hQ (Nat.le_of_ble_eq_true rfl) (Nat.le_of_ble_eq_true rfl)) gd5_24 (fun q4 => ?_)
  refine g_dup h gd5_27 ?_
  refine g_init h (M2 := mX4_init) (kX4_init _ _) gz_167 gz_32 gz_2 gz_33 rfl rfl ⟨by decide, by decide, by decide +kernel⟩ ⟨by decide, by decide⟩ (g_rm hQ (Nat.le_of_ble_eq_true rfl) (Nat.le_of_ble_eq_true rfl)) (Nat.le_of_ble_eq_true rfl) gd5_28 (fun w9 hp9 => ?_)
  obtain ⟨b32, h9, rfl⟩ := hp9
  subst h9
  refine g_qst h (q0 := 1) (qk := 32) (j := 2) rfl rfl (by unfold vp_in; decide +kernel) (by decide +kernel) gd5_31 ?_
  refine g_iinc h rfl (v' := 3) (by decide +kernel) (by decide) gd5_32 ?_
  refine g_go h (tgt := 14) gd5_35 (by decide) ?_
  refine g_il h rfl gd5_14 rfl ?_
  refine g_ic h (v := 4) (by decide +kernel) gd5_15 ?_
  refine g_geF h (tgt := 38) (by decide +kernel) gd5_16 (by decide) ?_
  refine g_al h rfl gd5_19 rfl ?_
  refine g_get h (q0 := 0) (ci := 5) (kf := 2) rfl rfl giX5 (by decide) gz_171 rfl gd5_20 ?_
  refine g_il h rfl gd5_23 rfl ?_
  refine g_new h (ci := 4) (fs := dfX4) rfl giX4 tyX4 tyX4_ok dfX4_ok gz_165 gz_30 gz_2 (g_rm hQ (Nat.le_of_ble_eq_true rfl) (Nat.le_of_ble_eq_true rfl)) gd5_24 (fun q5 => ?_)
  refine g_dup h gd5_27 ?_
  refine g_init h (M2 := mX4_init) (kX4_init _ _) gz_167 gz_32 gz_2 gz_33 rfl rfl ⟨by decide, by decide, by decide +kernel⟩ ⟨by decide, by decide⟩ (g_rm hQ (Nat.le_of_ble_eq_true rfl) (Nat.le_of_ble_eq_true rfl)) (Nat.le_of_ble_eq_true rfl) gd5_28 (fun w9 hp9 => ?_)
  obtain ⟨b47, h9, rfl⟩ := hp9
  subst h9
  refine g_qst h (q0 := 1) (qk := 47) (j := 3) rfl rfl (by unfold vp_in; decide +kernel) (by decide +kernel) gd5_31 ?_
  refine g_iinc h rfl (v' := 4) (by decide +kernel) (by decide) gd5_32 ?_
  refine g_go h (tgt := 14) gd5_35 (by decide) ?_
  refine g_il h rfl gd5_14 rfl ?_
  refine g_ic h (v := 4) (by decide +kernel) gd5_15 ?_
  refine g_geT h (tgt := 38) (by decide +kernel) gd5_16 (by decide) ?_
  exact g_ret h hQ rfl ⟨q, q1, b2, b17, b32, b47, rfl, by simp only [List.cons_append, List.nil_append, List.set_cons_zero, List.set_cons_succ, List.append_assoc, tUn]; rfl⟩ ⟨(Nat.le_of_ble_eq_true rfl), (Nat.le_of_ble_eq_true rfl)⟩ gd5_38
theorem gd6_0 : decode cX6_init 0 = .ok (.aload_n 0, 1) := by decide +kernel
theorem gd6_1 : decode cX6_init 1 = .ok (.invokespecial 3, 3) := by decide +kernel
theorem gd6_4 : decode cX6_init 4 = .ok (.aload_n 0, 1) := by decide +kernel
theorem gd6_5 : decode cX6_init 5 = .ok (.new 9, 3) := by decide +kernel
theorem gd6_8 : decode cX6_init 8 = .ok (.dup, 1) := by decide +kernel
theorem gd6_9 : decode cX6_init 9 = .ok (.invokespecial 11, 3) := by decide +kernel
theorem gd6_12 : decode cX6_init 12 = .ok (.putfield 12, 3) := by decide +kernel
theorem gd6_15 : decode cX6_init 15 = .ok (.aload_n 0, 1) := by decide +kernel
theorem gd6_16 : decode cX6_init 16 = .ok (.new 16, 3) := by decide +kernel
theorem gd6_19 : decode cX6_init 19 = .ok (.dup, 1) := by decide +kernel
theorem gd6_20 : decode cX6_init 20 = .ok (.invokespecial 18, 3) := by decide +kernel
theorem gd6_23 : decode cX6_init 23 = .ok (.putfield 19, 3) := by decide +kernel
theorem gd6_26 : decode cX6_init 26 = .ok (.aload_n 0, 1) := by decide +kernel
theorem gd6_27 : decode cX6_init 27 = .ok (.new 23, 3) := by decide +kernel
theorem gd6_30 : decode cX6_init 30 = .ok (.dup, 1) := by decide +kernel
theorem gd6_31 : decode cX6_init 31 = .ok (.invokespecial 25, 3) := by decide +kernel
theorem gd6_34 : decode cX6_init 34 = .ok (.putfield 26, 3) := by decide +kernel
theorem gd6_37 : decode cX6_init 37 = .ok (.return_, 1) := by decide +kernel
set_option maxHeartbeats 2000000 in
theorem kX6_init (Y : Launch × va_G × (Nat → ClassId)) (q : Nat) : CT Y mX6_init [(q, .inr (6, dfX6))] [.ref q] 82 1311 (fun ws => ∃ h u p b a0 a1 a2 a3 s, h = q ∧ ws = tFp Y.2.2 h u p b a0 a1 a2 a3 s) := by
  refine CT_of (by decide +kernel) (Nat.le_of_ble_eq_true rfl) (fun X h hY hQ hI => ?_)
  subst hY
  refine g_al h rfl gd6_0 rfl ?_
  refine g_obj h gz_26 gz_27 gz_28 (by decide) gd6_1 ?_
  refine g_al h rfl gd6_4 rfl ?_
  refine g_new h (ci := 4) (fs := dfX4) rfl giX4 tyX4 tyX4_ok dfX4_ok gz_29 gz_30 gz_2 (g_rm hQ (Nat.le_of_ble_eq_true rfl) (Nat.le_of_ble_eq_true rfl)) gd6_5 (fun q1 => ?_)
  refine g_dup h gd6_8 ?_
  refine g_init h (M2 := mX4_init) (kX4_init _ _) gz_31 gz_32 gz_2 gz_33 rfl rfl ⟨by decide, by decide, by decide +kernel⟩ ⟨by decide, by decide⟩ (g_rm hQ (Nat.le_of_ble_eq_true rfl) (Nat.le_of_ble_eq_true rfl)) (Nat.le_of_ble_eq_true rfl) gd6_9 (fun w9 hp9 => ?_)
  obtain ⟨b1, h9, rfl⟩ := hp9
  subst h9
  refine g_putF h (hI rfl) (q0 := 0) (ci := 6) (kf := 0) (ty := .object RX4) rfl rfl giX6 tyX6 tyX6_ok nmX6 (by decide) gz_204 rfl rfl (by decide +kernel) rfl rfl (Nat.le_of_ble_eq_true rfl) gd6_12 ?_
  refine g_al h rfl gd6_15 rfl ?_
  refine g_new h (ci := 5) (fs := dfX5) rfl giX5 tyX5 tyX5_ok dfX5_ok gz_159 gz_160 gz_7 (g_rm hQ (Nat.le_of_ble_eq_true rfl) (Nat.le_of_ble_eq_true rfl)) gd6_16 (fun q2 => ?_)
  refine g_dup h gd6_19 ?_
  refine g_init h (M2 := mX5_init) (kX5_init _ _) gz_161 gz_162 gz_7 gz_163 rfl rfl ⟨by decide, by decide, by decide +kernel⟩ ⟨by decide, by decide⟩ (g_rm hQ (Nat.le_of_ble_eq_true rfl) (Nat.le_of_ble_eq_true rfl)) (Nat.le_of_ble_eq_true rfl) gd6_20 (fun w9 hp9 => ?_)
  obtain ⟨u5, q5, a0, a1, a2, a3, h9, rfl⟩ := hp9
  subst h9
  refine g_putF h (hI rfl) (q0 := 0) (ci := 6) (kf := 1) (ty := .object RX5) rfl rfl giX6 tyX6 tyX6_ok nmX6 (by decide) gz_205 rfl rfl (by decide +kernel) rfl rfl (Nat.le_of_ble_eq_true rfl) gd6_23 ?_
  refine g_al h rfl gd6_26 rfl ?_
  refine g_new h (ci := 3) (fs := dfX3) rfl giX3 tyX3 tyX3_ok dfX3_ok gz_179 gz_180 gz_8 (g_rm hQ (Nat.le_of_ble_eq_true rfl) (Nat.le_of_ble_eq_true rfl)) gd6_27 (fun q3 => ?_)
  refine g_dup h gd6_30 ?_
  refine g_init h (M2 := mX3_init) (kX3_init _ _) gz_181 gz_182 gz_8 gz_183 rfl rfl ⟨by decide, by decide, by decide +kernel⟩ ⟨by decide, by decide⟩ (g_rm hQ (Nat.le_of_ble_eq_true rfl) (Nat.le_of_ble_eq_true rfl)) (Nat.le_of_ble_eq_true rfl) gd6_31 (fun w9 hp9 => ?_)
  obtain ⟨b78, h9, rfl⟩ := hp9
  subst h9
  refine g_putF h (hI rfl) (q0 := 0) (ci := 6) (kf := 2) (ty := .object RX3) rfl rfl giX6 tyX6 tyX6_ok nmX6 (by decide) gz_206 rfl rfl (by decide +kernel) rfl rfl (Nat.le_of_ble_eq_true rfl) gd6_34 ?_
  exact g_ret h hQ rfl ⟨q, u5, q5, b1, a0, a1, a2, a3, b78, rfl, by simp only [List.cons_append, List.nil_append, List.set_cons_zero, List.append_assoc, tFp]; rfl⟩ ⟨(Nat.le_of_ble_eq_true rfl), (Nat.le_of_ble_eq_true rfl)⟩ gd6_37
theorem gd7_0 : decode cX7_init 0 = .ok (.aload_n 0, 1) := by decide +kernel
theorem gd7_1 : decode cX7_init 1 = .ok (.invokespecial 1, 3) := by decide +kernel
theorem gd7_4 : decode cX7_init 4 = .ok (.aload_n 0, 1) := by decide +kernel
theorem gd7_5 : decode cX7_init 5 = .ok (.sipush 170, 3) := by decide +kernel
theorem gd7_8 : decode cX7_init 8 = .ok (.newarray .int, 2) := by decide +kernel
theorem gd7_10 : decode cX7_init 10 = .ok (.putfield 7, 3) := by decide +kernel
theorem gd7_13 : decode cX7_init 13 = .ok (.aload_n 0, 1) := by decide +kernel
theorem gd7_14 : decode cX7_init 14 = .ok (.bipush 76, 2) := by decide +kernel
theorem gd7_16 : decode cX7_init 16 = .ok (.newarray .double, 2) := by decide +kernel
theorem gd7_18 : decode cX7_init 18 = .ok (.putfield 13, 3) := by decide +kernel
theorem gd7_21 : decode cX7_init 21 = .ok (.aload_n 0, 1) := by decide +kernel
theorem gd7_22 : decode cX7_init 22 = .ok (.sipush 680, 3) := by decide +kernel
theorem gd7_25 : decode cX7_init 25 = .ok (.newarray .int, 2) := by decide +kernel
theorem gd7_27 : decode cX7_init 27 = .ok (.putfield 17, 3) := by decide +kernel
theorem gd7_30 : decode cX7_init 30 = .ok (.aload_n 0, 1) := by decide +kernel
theorem gd7_31 : decode cX7_init 31 = .ok (.sipush 304, 3) := by decide +kernel
theorem gd7_34 : decode cX7_init 34 = .ok (.newarray .double, 2) := by decide +kernel
theorem gd7_36 : decode cX7_init 36 = .ok (.putfield 20, 3) := by decide +kernel
theorem gd7_39 : decode cX7_init 39 = .ok (.aload_n 0, 1) := by decide +kernel
theorem gd7_40 : decode cX7_init 40 = .ok (.bipush 12, 2) := by decide +kernel
theorem gd7_42 : decode cX7_init 42 = .ok (.newarray .int, 2) := by decide +kernel
theorem gd7_44 : decode cX7_init 44 = .ok (.putfield 23, 3) := by decide +kernel
theorem gd7_47 : decode cX7_init 47 = .ok (.aload_n 0, 1) := by decide +kernel
theorem gd7_48 : decode cX7_init 48 = .ok (.bipush 12, 2) := by decide +kernel
theorem gd7_50 : decode cX7_init 50 = .ok (.newarray .int, 2) := by decide +kernel
theorem gd7_52 : decode cX7_init 52 = .ok (.putfield 26, 3) := by decide +kernel
theorem gd7_55 : decode cX7_init 55 = .ok (.aload_n 0, 1) := by decide +kernel
theorem gd7_56 : decode cX7_init 56 = .ok (.bipush 12, 2) := by decide +kernel
theorem gd7_58 : decode cX7_init 58 = .ok (.newarray .double, 2) := by decide +kernel
theorem gd7_60 : decode cX7_init 60 = .ok (.putfield 29, 3) := by decide +kernel
theorem gd7_63 : decode cX7_init 63 = .ok (.aload_n 0, 1) := by decide +kernel
theorem gd7_64 : decode cX7_init 64 = .ok (.bipush 12, 2) := by decide +kernel
theorem gd7_66 : decode cX7_init 66 = .ok (.newarray .int, 2) := by decide +kernel
theorem gd7_68 : decode cX7_init 68 = .ok (.putfield 32, 3) := by decide +kernel
theorem gd7_71 : decode cX7_init 71 = .ok (.aload_n 0, 1) := by decide +kernel
theorem gd7_72 : decode cX7_init 72 = .ok (.bipush 12, 2) := by decide +kernel
theorem gd7_74 : decode cX7_init 74 = .ok (.newarray .double, 2) := by decide +kernel
theorem gd7_76 : decode cX7_init 76 = .ok (.putfield 35, 3) := by decide +kernel
theorem gd7_79 : decode cX7_init 79 = .ok (.aload_n 0, 1) := by decide +kernel
theorem gd7_80 : decode cX7_init 80 = .ok (.bipush 12, 2) := by decide +kernel
theorem gd7_82 : decode cX7_init 82 = .ok (.newarray .int, 2) := by decide +kernel
theorem gd7_84 : decode cX7_init 84 = .ok (.putfield 38, 3) := by decide +kernel
theorem gd7_87 : decode cX7_init 87 = .ok (.aload_n 0, 1) := by decide +kernel
theorem gd7_88 : decode cX7_init 88 = .ok (.getfield 13, 3) := by decide +kernel
theorem gd7_91 : decode cX7_init 91 = .ok (.iconst 0, 1) := by decide +kernel
theorem gd7_92 : decode cX7_init 92 = .ok (.ldc2_w 41, 3) := by decide +kernel
theorem gd7_95 : decode cX7_init 95 = .ok (.dastore, 1) := by decide +kernel
theorem gd7_96 : decode cX7_init 96 = .ok (.aload_n 0, 1) := by decide +kernel
theorem gd7_97 : decode cX7_init 97 = .ok (.getfield 13, 3) := by decide +kernel
theorem gd7_100 : decode cX7_init 100 = .ok (.iconst 1, 1) := by decide +kernel
theorem gd7_101 : decode cX7_init 101 = .ok (.dconst 1, 1) := by decide +kernel
theorem gd7_102 : decode cX7_init 102 = .ok (.dastore, 1) := by decide +kernel
theorem gd7_103 : decode cX7_init 103 = .ok (.aload_n 0, 1) := by decide +kernel
theorem gd7_104 : decode cX7_init 104 = .ok (.getfield 13, 3) := by decide +kernel
theorem gd7_107 : decode cX7_init 107 = .ok (.iconst 2, 1) := by decide +kernel
theorem gd7_108 : decode cX7_init 108 = .ok (.ldc2_w 43, 3) := by decide +kernel
theorem gd7_111 : decode cX7_init 111 = .ok (.dastore, 1) := by decide +kernel
theorem gd7_112 : decode cX7_init 112 = .ok (.return_, 1) := by decide +kernel
set_option maxHeartbeats 2000000 in
theorem kX7_init (Y : Launch × va_G × (Nat → ClassId)) (q : Nat) : CT Y mX7_init [(q, .inr (7, dfX7))] [.ref q] 10 1302 (fun ws => ∃ a : Nat → Nat, a 0 = q ∧ ws = tMo Y.2.2 a) := by
  refine CT_of (by decide +kernel) (Nat.le_of_ble_eq_true rfl) (fun X h hY hQ hI => ?_)
  subst hY
  refine g_al h rfl gd7_0 rfl ?_
  refine g_obj h gz_745 gz_27 gz_28 (by decide) gd7_1 ?_
  refine g_al h rfl gd7_4 rfl ?_
  refine g_si h (v := 170) (by decide +kernel) gd7_5 ?_
  refine g_newI h gz_72 (N' := 170) (by decide +kernel) (by decide +kernel) (by decide) (g_rm hQ (Nat.le_of_ble_eq_true rfl) (Nat.le_of_ble_eq_true rfl)) gd7_8 (fun q1 => ?_)
  refine g_putF h (hI rfl) (q0 := 0) (ci := 7) (kf := 1) (ty := .array .int) rfl rfl giX7 tyX7 tyX7_ok nmX7 (by decide) gz_749 rfl rfl (by decide +kernel) rfl rfl (Nat.le_of_ble_eq_true rfl) gd7_10 ?_
  simp only [List.cons_append, List.nil_append, List.set_cons_zero, List.set_cons_succ, dfX7]
  refine g_al h rfl gd7_13 rfl ?_
  refine g_bi h (v := 76) (by decide +kernel) gd7_14 ?_
  refine g_newD h gz_73 (N' := 76) (by decide +kernel) (by decide +kernel) (by decide) (g_rm hQ (Nat.le_of_ble_eq_true rfl) (Nat.le_of_ble_eq_true rfl)) gd7_16 (fun q2 => ?_)
  refine g_putF h (hI rfl) (q0 := 0) (ci := 7) (kf := 2) (ty := .array .double) rfl rfl giX7 tyX7 tyX7_ok nmX7 (by decide) gz_750 rfl rfl (by decide +kernel) rfl rfl (Nat.le_of_ble_eq_true rfl) gd7_18 ?_
  simp only [List.cons_append, List.nil_append, List.set_cons_zero, List.set_cons_succ, dfX7]
  refine g_al h rfl gd7_21 rfl ?_
  refine g_si h (v := 680) (by decide +kernel) gd7_22 ?_
  refine g_newI h gz_72 (N' := 680) (by decide +kernel) (by decide +kernel) (by decide) (g_rm hQ (Nat.le_of_ble_eq_true rfl) (Nat.le_of_ble_eq_true rfl)) gd7_25 (fun q3 => ?_)
  refine g_putF h (hI rfl) (q0 := 0) (ci := 7) (kf := 3) (ty := .array .int) rfl rfl giX7 tyX7 tyX7_ok nmX7 (by decide) gz_751 rfl rfl (by decide +kernel) rfl rfl (Nat.le_of_ble_eq_true rfl) gd7_27 ?_
  simp only [List.cons_append, List.nil_append, List.set_cons_zero, List.set_cons_succ, dfX7]
  refine g_al h rfl gd7_30 rfl ?_
  refine g_si h (v := 304) (by decide +kernel) gd7_31 ?_
  refine g_newD h gz_73 (N' := 304) (by decide +kernel) (by decide +kernel) (by decide) (g_rm hQ (Nat.le_of_ble_eq_true rfl) (Nat.le_of_ble_eq_true rfl)) gd7_34 (fun q4 => ?_)
  refine g_putF h (hI rfl) (q0 := 0) (ci := 7) (kf := 4) (ty := .array .double) rfl rfl giX7 tyX7 tyX7_ok nmX7 (by decide) gz_752 rfl rfl (by decide +kernel) rfl rfl (Nat.le_of_ble_eq_true rfl) gd7_36 ?_
  simp only [List.cons_append, List.nil_append, List.set_cons_zero, List.set_cons_succ, dfX7]
  refine g_al h rfl gd7_39 rfl ?_
  refine g_bi h (v := 12) (by decide +kernel) gd7_40 ?_
  refine g_newI h gz_72 (N' := 12) (by decide +kernel) (by decide +kernel) (by decide) (g_rm hQ (Nat.le_of_ble_eq_true rfl) (Nat.le_of_ble_eq_true rfl)) gd7_42 (fun q5 => ?_)
  refine g_putF h (hI rfl) (q0 := 0) (ci := 7) (kf := 6) (ty := .array .int) rfl rfl giX7 tyX7 tyX7_ok nmX7 (by decide) gz_754 rfl rfl (by decide +kernel) rfl rfl (Nat.le_of_ble_eq_true rfl) gd7_44 ?_
  simp only [List.cons_append, List.nil_append, List.set_cons_zero, List.set_cons_succ, dfX7]
  refine g_al h rfl gd7_47 rfl ?_
  refine g_bi h (v := 12) (by decide +kernel) gd7_48 ?_
  refine g_newI h gz_72 (N' := 12) (by decide +kernel) (by decide +kernel) (by decide) (g_rm hQ (Nat.le_of_ble_eq_true rfl) (Nat.le_of_ble_eq_true rfl)) gd7_50 (fun q6 => ?_)
  refine g_putF h (hI rfl) (q0 := 0) (ci := 7) (kf := 8) (ty := .array .int) rfl rfl giX7 tyX7 tyX7_ok nmX7 (by decide) gz_756 rfl rfl (by decide +kernel) rfl rfl (Nat.le_of_ble_eq_true rfl) gd7_52 ?_
  simp only [List.cons_append, List.nil_append, List.set_cons_zero, List.set_cons_succ, dfX7]
  refine g_al h rfl gd7_55 rfl ?_
  refine g_bi h (v := 12) (by decide +kernel) gd7_56 ?_
  refine g_newD h gz_73 (N' := 12) (by decide +kernel) (by decide +kernel) (by decide) (g_rm hQ (Nat.le_of_ble_eq_true rfl) (Nat.le_of_ble_eq_true rfl)) gd7_58 (fun q7 => ?_)
  refine g_putF h (hI rfl) (q0 := 0) (ci := 7) (kf := 9) (ty := .array .double) rfl rfl giX7 tyX7 tyX7_ok nmX7 (by decide) gz_757 rfl rfl (by decide +kernel) rfl rfl (Nat.le_of_ble_eq_true rfl) gd7_60 ?_
  simp only [List.cons_append, List.nil_append, List.set_cons_zero, List.set_cons_succ, dfX7]
  refine g_al h rfl gd7_63 rfl ?_
  refine g_bi h (v := 12) (by decide +kernel) gd7_64 ?_
  refine g_newI h gz_72 (N' := 12) (by decide +kernel) (by decide +kernel) (by decide) (g_rm hQ (Nat.le_of_ble_eq_true rfl) (Nat.le_of_ble_eq_true rfl)) gd7_66 (fun q8 => ?_)
  refine g_putF h (hI rfl) (q0 := 0) (ci := 7) (kf := 11) (ty := .array .int) rfl rfl giX7 tyX7 tyX7_ok nmX7 (by decide) gz_759 rfl rfl (by decide +kernel) rfl rfl (Nat.le_of_ble_eq_true rfl) gd7_68 ?_
  simp only [List.cons_append, List.nil_append, List.set_cons_zero, List.set_cons_succ, dfX7]
  refine g_al h rfl gd7_71 rfl ?_
  refine g_bi h (v := 12) (by decide +kernel) gd7_72 ?_
  refine g_newD h gz_73 (N' := 12) (by decide +kernel) (by decide +kernel) (by decide) (g_rm hQ (Nat.le_of_ble_eq_true rfl) (Nat.le_of_ble_eq_true rfl)) gd7_74 (fun q9 => ?_)
  refine g_putF h (hI rfl) (q0 := 0) (ci := 7) (kf := 12) (ty := .array .double) rfl rfl giX7 tyX7 tyX7_ok nmX7 (by decide) gz_760 rfl rfl (by decide +kernel) rfl rfl (Nat.le_of_ble_eq_true rfl) gd7_76 ?_
  simp only [List.cons_append, List.nil_append, List.set_cons_zero, List.set_cons_succ, dfX7]
  refine g_al h rfl gd7_79 rfl ?_
  refine g_bi h (v := 12) (by decide +kernel) gd7_80 ?_
  refine g_newI h gz_72 (N' := 12) (by decide +kernel) (by decide +kernel) (by decide) (g_rm hQ (Nat.le_of_ble_eq_true rfl) (Nat.le_of_ble_eq_true rfl)) gd7_82 (fun q10 => ?_)
  refine g_putF h (hI rfl) (q0 := 0) (ci := 7) (kf := 14) (ty := .array .int) rfl rfl giX7 tyX7 tyX7_ok nmX7 (by decide) gz_762 rfl rfl (by decide +kernel) rfl rfl (Nat.le_of_ble_eq_true rfl) gd7_84 ?_
  simp only [List.cons_append, List.nil_append, List.set_cons_zero, List.set_cons_succ, dfX7]
  refine g_al h rfl gd7_87 rfl ?_
  refine g_get h (q0 := 0) (ci := 7) (kf := 2) rfl rfl giX7 (by decide) gz_750 rfl gd7_88 ?_
  refine g_ic h (v := 0) (by decide +kernel) gd7_91 ?_
  refine g_ld h (v := 4666723172467343360) gz_746 gd7_92 ?_
  refine g_dst h (q0 := 2) (j := 0) rfl (by unfold vp_in; decide +kernel) (by decide +kernel) gd7_95 ?_
  refine g_al h rfl gd7_96 rfl ?_
  refine g_get h (q0 := 0) (ci := 7) (kf := 2) rfl rfl giX7 (by decide) gz_750 rfl gd7_97 ?_
  refine g_ic h (v := 1) (by decide +kernel) gd7_100 ?_
  refine g_d1 h gd7_101 ?_
  refine g_dst h (q0 := 2) (j := 1) rfl (by unfold vp_in; decide +kernel) (by decide +kernel) gd7_102 ?_
  refine g_al h rfl gd7_103 rfl ?_
  refine g_get h (q0 := 0) (ci := 7) (kf := 2) rfl rfl giX7 (by decide) gz_750 rfl gd7_104 ?_
  refine g_ic h (v := 2) (by decide +kernel) gd7_107 ?_
  refine g_ld h (v := 4599075939470750515) gz_747 gd7_108 ?_
  refine g_dst h (q0 := 2) (j := 2) rfl (by unfold vp_in; decide +kernel) (by decide +kernel) gd7_111 ?_
  exact g_ret h hQ rfl ⟨fun i => [q, q1, q2, q3, q4, q5, q6, q7, q8, q9, q10].getD i 0, rfl, rfl⟩ ⟨(Nat.le_of_ble_eq_true rfl), (Nat.le_of_ble_eq_true rfl)⟩ gd7_112
