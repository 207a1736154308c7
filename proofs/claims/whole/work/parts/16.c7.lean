/-! events; lining up the trips -/
abbrev Ev : Type := List (Int32 × UInt64)
def EV (x : Hp) (E : Ev) : Prop := x.1 13 0 = nI E.length ∧ E.length ≤ 60 ∧ ∀ (i : Nat) (c : Int32) (t : UInt64), E[i]? = some (c, t) → x.1 14 i = c ∧ x.2.1 15 i = t
def evA (E : Ev) (c : Int32) (t : UInt64) : Ev := if E.length < 60 then E ++ [(c, t)] else E
theorem evA_le {E : Ev} {c : Int32} {t : UInt64} (h : E.length ≤ 60) : (evA E c t).length ≤ 60 := by
  unfold evA
  split
  · rw [List.length_append]; simp only [List.length_cons, List.length_nil]; omega
  · exact h
theorem EV_fr {x y : Hp} {E : Ev} {S : List Nat} (h : EV x E) (hf : fr S x y) (hs : 13 ∉ S ∧ 14 ∉ S ∧ 15 ∉ S) : EV y E := by
  refine ⟨by rw [hf.1 13 hs.1]; exact h.1, h.2.1, fun i c t hi => ?_⟩
  rw [hf.1 14 hs.2.1, hf.2.1 15 hs.2.2]
  exact h.2.2 i c t hi
theorem c_put (Y : Kx) (x : Hp) (E : Ev) (kd rl : Int32) (t : UInt64) (hE : EV x E) : sR Y mX0_put [.ref 13, .int kd, .int rl, .double t] x (fun rr x' => rr = none ∧ EV x' (evA E (100 * kd + rl) t) ∧ fr [13, 14, 15] x x' ∧ x'.2.1 13 = x.2.1 13) := by
  refine sR_of (by decide +kernel) (Nat.le_of_ble_eq_true rfl) (fun X h hY hR => ?_)
  have hT := kX0_put h
  have h60 : (60 : Int32) = nI 60 := by decide
  have hle := hE.2.1
  repeat (refine sw_s hT rfl rfl ?_)
  refine sw_b hT rfl rfl (fun c1 => ?_) (fun c1 => ?_)
  · have hn : ¬ E.length < 60 := by
      intro q
      rw [hE.1, h60] at c1
      exact nI_ge q (by omega) c1
    refine sw_vretP hT rfl rfl hR ?_
    refine ⟨rfl, ?_, fr_rf, rfl⟩
    unfold evA
    rw [if_neg hn]
    exact hE
  · have hn : E.length < 60 := by
      rcases Nat.lt_or_ge E.length 60 with q | q
      · exact q
      · exact absurd (by rw [hE.1, h60]; exact nI_le q (by omega)) c1
    have hin : vp_in (nI E.length) 60 := vp_in_nI hn (by decide)
    have hcl : (nI E.length).toNatClampNeg = E.length := nI_clamp (by omega)
    repeat (refine sw_s hT rfl rfl ?_)
    rw [show fks x 13 0 0 = .int (nI E.length) from congrArg Value.int hE.1]
    repeat (refine sw_s hT rfl rfl ?_)
    refine sw_iast hT rfl rfl (hin) ?_
    rw [hcl]
    repeat (refine sw_s hT rfl rfl ?_)
    have e1 : u2 x.1 14 E.length (100 * kd + rl) 13 0 = nI E.length := by rw [u2_ne (by decide)]; exact hE.1
    rw [show fks (u2 x.1 14 E.length (100 * kd + rl), x.2) 13 0 0 = .int (nI E.length) from congrArg Value.int e1]
    repeat (refine sw_s hT rfl rfl ?_)
    refine sw_dast hT rfl rfl (hin) ?_
    rw [hcl]
    repeat (refine sw_s hT rfl rfl ?_)
    refine sw_vretP hT rfl rfl hR ?_
    refine ⟨rfl, ⟨?_, evA_le hle, fun i c t' hi => ?_⟩, ?_, ?_⟩
    · show u2 (u2 x.1 14 E.length (100 * kd + rl)) 13 0 (u2 x.1 14 E.length (100 * kd + rl) 13 0 + 1) 13 0 = _
      rw [u2_at, e1, nI_1]
      unfold evA
      rw [if_pos hn, List.length_append]
      rfl
    · show u2 (u2 x.1 14 E.length (100 * kd + rl)) 13 0 (u2 x.1 14 E.length (100 * kd + rl) 13 0 + 1) 14 i = c ∧ u2 x.2.1 15 E.length t 15 i = t'
      rw [u2_ne (by decide)]
      unfold evA at hi
      rw [if_pos hn] at hi
      rcases Nat.lt_or_ge i E.length with q | q
      · rw [List.getElem?_append_left q] at hi
        rw [u2_k _ _ _ _ (by omega), u2_k _ _ _ _ (by omega)]
        exact hE.2.2 i c t' hi
      · rw [List.getElem?_append_right q] at hi
        have hq : i = E.length := by
          have := (List.getElem?_eq_some_iff.mp hi).1
          simp only [List.length_cons, List.length_nil] at this
          omega
        subst hq
        rw [Nat.sub_self] at hi
        cases hi
        exact ⟨u2_at _ _ _ _, u2_at _ _ _ _⟩
    · exact fr_tr (fr_tr (fr_wI (by decide)) (fr_wD (by decide))) (fr_wI (by decide))
    · show u2 x.2.1 15 E.length t 13 = x.2.1 13
      exact u2_ne (by decide)
theorem insR_congr {T T' : Nat → UInt64} {r : Nat} : ∀ {M : List Nat}, (∀ e, e = r ∨ e ∈ M → T e = T' e) → insR T r M = insR T' r M
  | [], _ => rfl
  | e :: M, h => by
    unfold insR
    rw [h e (Or.inr List.mem_cons_self), h r (Or.inl rfl), insR_congr (M := M) (fun a ha => h a (ha.elim Or.inl (fun q => Or.inr (List.mem_cons_of_mem _ q))))]
theorem insC_congr {T T' : Nat → UInt64} {r : Nat} {L : List Nat} (h : ∀ e, e = r ∨ e ∈ L → T e = T' e) : insC T r L = insC T' r L := by
  unfold insC
  rw [insR_congr (fun e he => h e (he.elim Or.inl (fun q => Or.inr (List.mem_reverse.mp q))))]
/-- the trips, behind the first k relays from 11 down -/
def ltC (m : Int32) (o T : Nat → UInt64) : Nat → List Nat
  | 0 => []
  | k + 1 => if (m >>> (nI (11 - k) &&& 31)) &&& 1 = 0 then ltC m o T k else if cmg (o (11 - k)) 9218868437227405312 < 0 then insC T (11 - k) (ltC m o T k) else ltC m o T k
theorem ltC_mem {m : Int32} {o T : Nat → UInt64} {e : Nat} : ∀ {k : Nat}, k ≤ 12 → e ∈ ltC m o T k → 12 - k ≤ e ∧ e < 12 ∧ ¬ (m >>> (nI e &&& 31)) &&& 1 = 0 ∧ cmg (o e) 9218868437227405312 < 0
  | 0, _, h => by cases h
  | k + 1, hk, h => by
    unfold ltC at h
    split at h
    · have := ltC_mem (by omega) h; exact ⟨by omega, this.2⟩
    · next hb =>
      split at h
      · next ho =>
        rcases (insC_mem _ _ _ _).mp h with q | q
        · subst q; exact ⟨by omega, by omega, hb, ho⟩
        · have := ltC_mem (by omega) q; exact ⟨by omega, this.2⟩
      · have := ltC_mem (by omega) h; exact ⟨by omega, this.2⟩
theorem ltC_len {m : Int32} {o T : Nat → UInt64} : ∀ k, (ltC m o T k).length ≤ k
  | 0 => Nat.le_refl _
  | k + 1 => by
    have := ltC_len (m := m) (o := o) (T := T) k
    unfold ltC
    split
    · omega
    · split
      · rw [insC_len]; omega
      · omega
theorem tfS_eq {x y : Hp} {r : Nat} {cur : UInt64} (h8 : y.1 8 = x.1 8) (h9 : y.1 9 = x.1 9) (h10 : y.1 10 = x.1 10) (h11 : y.1 11 = x.1 11) : tfS y r cur = tfS x r cur := by
  unfold tfS
  rw [h8, h9, h10, h11]
theorem tfOK_eq {x y : Hp} {r : Nat} {cur : UInt64} (h8 : y.1 8 = x.1 8) (h9 : y.1 9 = x.1 9) (h10 : y.1 10 = x.1 10) : tfOK y r cur ↔ tfOK x r cur := by
  unfold tfOK
  rw [h8, h9, h10]
theorem c_lineUpTrips (Y : Kx) (x : Hp) (m : Int32) (cur t : UInt64) (ok : ∀ r, r < 12 → ¬ (m >>> (nI r &&& 31)) &&& 1 = 0 → tfOK x r cur ∧ (cmg (tfS x r cur) 9218868437227405312 < 0 → vf_n64 (FP.dadd t (tfS x r cur)))) : sR Y mX3_lineUpTrips [.ref 78, .ref 7, .int m, .double cur, .double t] x (fun rr x' => rr = none ∧ LU x' (ltC m (fun r => tfS x r cur) (fun r => FP.dadd t (tfS x r cur)) 12) ∧ (∀ e, e ∈ ltC m (fun r => tfS x r cur) (fun r => FP.dadd t (tfS x r cur)) 12 → x'.2.1 80 e = FP.dadd t (tfS x e cur)) ∧ fr [78, 79, 80] x x') := by
  refine sR_of (by decide +kernel) (Nat.le_of_ble_eq_true rfl) (fun X h hY hR => ?_)
  have hT := kX3_lineUpTrips h
  obtain ⟨o, ho⟩ : ∃ o : Nat → UInt64, o = fun r => tfS x r cur := ⟨_, rfl⟩
  obtain ⟨T, hTT⟩ : ∃ T : Nat → UInt64, T = fun r => FP.dadd t (tfS x r cur) := ⟨_, rfl⟩
  rw [← ho, ← hTT] at hR
  have K : ∀ j, j ≤ 12 → ∀ y, LU y (ltC m o T (12 - j)) → (∀ e, e ∈ ltC m o T (12 - j) → y.2.1 80 e = T e) → fr [78, 79, 80] x y → SW X mX3_lineUpTrips 9 [(7, .int (nI j + -1)), (0, .ref 78), (1, .ref 7), (2, .int m), (3, .double cur), (5, .double t)] [] y := by
    intro j
    induction j with
    | zero =>
      intro _ y h1 h2 h3
      repeat (refine sw_s hT rfl rfl ?_)
      refine sw_b hT rfl rfl (fun _ => ?_) (fun c => absurd ((by decide)) c)
      refine sw_vretP hT rfl rfl hR ?_
      exact ⟨rfl, h1, fun e he => by rw [h2 e he, hTT], h3⟩
    | succ j ih =>
      intro hj y h1 h2 h3
      have hj12 : j < 12 := by omega
      have f8 : y.1 8 = x.1 8 := h3.1 8 (by decide)
      have f9 : y.1 9 = x.1 9 := h3.1 9 (by decide)
      have f10 : y.1 10 = x.1 10 := h3.1 10 (by decide)
      have f11 : y.1 11 = x.1 11 := h3.1 11 (by decide)
      have hl : ltC m o T (12 - j) = if (m >>> (nI j &&& 31)) &&& 1 = 0 then ltC m o T (12 - (j + 1)) else if cmg (o j) 9218868437227405312 < 0 then insC T j (ltC m o T (12 - (j + 1))) else ltC m o T (12 - (j + 1)) := by
        rw [show 12 - j = (12 - (j + 1)) + 1 by omega, ltC, show 11 - (12 - (j + 1)) = j by omega]
      rw [pk_m1]
      repeat (refine sw_s hT rfl rfl ?_)
      refine sw_b hT rfl rfl (fun c => absurd c ((nI_pos (by omega)))) (fun _ => ?_)
      repeat (refine sw_s hT rfl rfl ?_)
      have q := ih (by omega)
      refine sw_b hT rfl rfl (fun c1 => ?_) (fun c1 => ?_)
      · rw [hl, if_pos c1] at q
        repeat (first | (refine sw_at (n := 9) rfl ?_; exact (q y h1 h2 h3)) | refine sw_s hT rfl rfl ?_)
      · rw [hl, if_neg c1] at q
        obtain ⟨ok1, ok2⟩ := ok j hj12 c1
        have ey : tfS y j cur = o j := by rw [ho]; exact tfS_eq f8 f9 f10 f11
        repeat (refine sw_s hT rfl rfl ?_)
        refine sw_cv hT rfl (c_timeFor _ y j cur hj12 ((tfOK_eq f8 f9 f10).mpr ok1)) rfl rfl rfl rfl (Nat.le_of_ble_eq_true rfl) ?_
        rw [ey]
        repeat (refine sw_s hT rfl rfl ?_)
        refine sw_cs hT rfl (c_infinity _ y) rfl rfl (Nat.le_of_ble_eq_true rfl) ?_
        repeat (refine sw_s hT rfl rfl ?_)
        refine sw_b hT rfl rfl (fun c2 => ?_) (fun c2 => ?_)
        · have hn : ¬ cmg (o j) 9218868437227405312 < 0 := Int32.not_lt.mpr c2
          rw [if_neg hn] at q
          have k := q y h1 h2 h3
          repeat (first | (refine sw_at (n := 9) rfl ?_; exact (sw_pick [0, 2, 3, 4, 5, 6] rfl k)) | refine sw_s hT rfl rfl ?_)
        · have hp : cmg (o j) 9218868437227405312 < 0 := Int32.not_le.mp c2
          rw [if_pos hp] at q
          have hTj : T j = FP.dadd t (o j) := by rw [hTT, ho]
          repeat (refine sw_s hT rfl rfl ?_)
          refine sw_dadd hT rfl ((by rw [ho] at hp ⊢; exact ok2 hp)) ?_
          refine sw_dast hT rfl rfl (in12 hj12) ?_
          rw [cl12 hj12, ← hTj]
          repeat (refine sw_s hT rfl rfl ?_)
          have hmem : ∀ e, e ∈ ltC m o T (12 - (j + 1)) → e < 12 ∧ e ≠ j := fun e he => by have := ltC_mem (by omega) he; exact ⟨this.2.1, by omega⟩
          have hlen : (ltC m o T (12 - (j + 1))).length < 12 := by have := ltC_len (m := m) (o := o) (T := T) (12 - (j + 1)); omega
          have hT2 : ∀ e, e = j ∨ e ∈ ltC m o T (12 - (j + 1)) → u2 y.2.1 80 j (T j) 80 e = T e := by
            intro e he
            rcases he with rfl | he
            · exact u2_at _ _ _ _
            · rw [u2_k _ _ _ _ (hmem e he).2]; exact h2 e he
          refine sw_cvR hT rfl (c_lineUp _ (y.1, u2 y.2.1 80 j (T j), y.2.2) j (ltC m o T (12 - (j + 1))) hj12 h1 hlen (fun e he => (hmem e he).1)) rfl rfl rfl rfl (Nat.le_of_ble_eq_true rfl) ?_
          rintro _ z ⟨rfl, z1, z2, z3, z4⟩
          have hins : insC (u2 y.2.1 80 j (T j) 80) j (ltC m o T (12 - (j + 1))) = insC T j (ltC m o T (12 - (j + 1))) := insC_congr hT2
          have k := q z (by rw [← hins]; exact z1) (fun e he => by rw [z3]; exact hT2 e ((insC_mem _ _ _ _).mp he)) (fr_tr h3 (fr_tr (fr_wD (by decide)) (fr_mono z2 (by decide))))
          repeat (first | (refine sw_at (n := 9) rfl ?_; exact (sw_pick [0, 2, 3, 4, 5, 6] rfl k)) | refine sw_s hT rfl rfl ?_)
  have k0 := K 12 (Nat.le_refl _) (u2 x.1 78 1 0, x.2) ⟨(u2_at _ _ _ _ : u2 x.1 78 1 0 78 1 = 0).trans (by decide : (0 : Int32) = nI 0), fun i e hi => by cases hi⟩ (fun e he => by cases he) (fr_wI (by decide))
  rw [show nI 12 + -1 = 11 by decide] at k0
  repeat (first | (refine sw_at (n := 9) rfl ?_; exact (k0)) | refine sw_s hT rfl rfl ?_)
