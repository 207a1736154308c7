/-! the head of the law: the class, the reference, two rows of one answer each -/
theorem g_rmm {X : GX} {K N k n : Nat} (h : gRm X K N) (h1 : k ≤ K) (h2 : n ≤ N) : gRm X k n := by
  obtain ⟨p, l, e, R, s, m, args, below, meth, c, G, tc, A, Q⟩ := X
  exact ⟨Nat.le_trans h1 h.1, Nat.le_trans h2 h.2⟩
set_option maxHeartbeats 2000000 in
theorem law_pre {X : GX} (h : gCx X mL_law) (hr : gRm X 96 2633) {b : Nat} (K : ∀ (o u q y z : Nat) (bb a0 a1 a2 a3 sm mm : Nat → Nat), GW X mL_law 28 [(5, .int 0), (4, .ref z), (3, .ref y), (2, .ref (mm 0)), (1, .ref o), (0, .ref b)] [] (W0 (gTc X) o u q y z bb a0 a1 a2 a3 sm mm) 96 2633) : GW X mL_law 0 [(0, .ref b)] [] [] 0 0 := by
  refine g_new h (ci := 6) (fs := dfX6) rfl giX6 tyX6 tyX6_ok dfX6_ok (gw_t (List.mem_of_getElem? (i := 21) (by decide +kernel)) (by decide +kernel)) (gw_t (List.mem_of_getElem? (i := 22) (by decide +kernel)) (by decide +kernel)) (gw_t (List.mem_of_getElem? (i := 1) (by decide +kernel)) (by decide +kernel)) (g_rmm hr (Nat.le_of_ble_eq_true rfl) (Nat.le_of_ble_eq_true rfl)) dL_law_0 (fun q1 => ?_)
  refine g_dup h dL_law_3 ?_
  refine g_init h (M2 := mX6_init) (kX6_init _ _) (gw_t (List.mem_of_getElem? (i := 23) (by decide +kernel)) (by decide +kernel)) (gw_t (List.mem_of_getElem? (i := 24) (by decide +kernel)) (by decide +kernel)) (gw_t (List.mem_of_getElem? (i := 1) (by decide +kernel)) (by decide +kernel)) (gw_t (List.mem_of_getElem? (i := 25) (by decide +kernel)) (by decide +kernel)) rfl rfl ⟨by decide, by decide, by decide +kernel⟩ ⟨by decide, by decide⟩ (g_rmm hr (Nat.le_of_ble_eq_true rfl) (Nat.le_of_ble_eq_true rfl)) (Nat.le_of_ble_eq_true rfl) dL_law_4 (fun w9 hp9 => ?_)
  obtain ⟨o, u, q, bb, a0, a1, a2, a3, sm, h9, rfl⟩ := hp9
  subst h9
  refine g_as h rfl dL_law_7 (by decide) ?_
  refine g_new h (ci := 7) (fs := dfX7) rfl giX7 tyX7 tyX7_ok dfX7_ok (gw_t (List.mem_of_getElem? (i := 740) (by decide +kernel)) (by decide +kernel)) (gw_t (List.mem_of_getElem? (i := 741) (by decide +kernel)) (by decide +kernel)) (gw_t (List.mem_of_getElem? (i := 9) (by decide +kernel)) (by decide +kernel)) (g_rmm hr (Nat.le_of_ble_eq_true rfl) (Nat.le_of_ble_eq_true rfl)) dL_law_8 (fun q2 => ?_)
  refine g_dup h dL_law_11 ?_
  refine g_init h (M2 := mX7_init) (kX7_init _ _) (gw_t (List.mem_of_getElem? (i := 742) (by decide +kernel)) (by decide +kernel)) (gw_t (List.mem_of_getElem? (i := 743) (by decide +kernel)) (by decide +kernel)) (gw_t (List.mem_of_getElem? (i := 9) (by decide +kernel)) (by decide +kernel)) (gw_t (List.mem_of_getElem? (i := 744) (by decide +kernel)) (by decide +kernel)) rfl rfl ⟨by decide, by decide, by decide +kernel⟩ ⟨by decide, by decide⟩ (g_rmm hr (Nat.le_of_ble_eq_true rfl) (Nat.le_of_ble_eq_true rfl)) (Nat.le_of_ble_eq_true rfl) dL_law_12 (fun w9 hp9 => ?_)
  obtain ⟨mm, h9, rfl⟩ := hp9
  subst h9
  refine g_as h rfl dL_law_15 (by decide) ?_
  refine g_ic h (v := 1) (by decide +kernel) dL_law_16 ?_
  refine g_newL h (gw_t (List.mem_of_getElem? (i := 1053) (by decide +kernel)) (by decide +kernel)) (N' := 1) (by decide +kernel) (by decide +kernel) (by decide) (g_rmm hr (Nat.le_of_ble_eq_true rfl) (Nat.le_of_ble_eq_true rfl)) dL_law_17 (fun y => ?_)
  refine g_as h rfl dL_law_19 (by decide) ?_
  refine g_ic h (v := 1) (by decide +kernel) dL_law_20 ?_
  refine g_newD h (gw_t (List.mem_of_getElem? (i := 73) (by decide +kernel)) (by decide +kernel)) (N' := 1) (by decide +kernel) (by decide +kernel) (by decide) (g_rmm hr (Nat.le_of_ble_eq_true rfl) (Nat.le_of_ble_eq_true rfl)) dL_law_21 (fun z => ?_)
  refine g_asw h dL_law_23 (by decide) ?_
  refine g_ic h (v := 0) (by decide +kernel) dL_law_25 ?_
  refine g_isw h dL_law_26 (by decide) ?_
  have K1 := K o u q y z bb a0 a1 a2 a3 sm mm
  unfold W0 at K1
  simp only [List.nil_append, List.append_assoc, List.cons_append]
  exact K1
