/-! the reference's simulation: recording, lining up -/
def EVM (x : Hp) (E : Ev) : Prop := x.1 84 1 = nI E.length ∧ E.length ≤ 60 ∧ ∀ (i : Nat) (c : Int32) (t : UInt64), E[i]? = some (c, t) → x.1 84 (110 + i) = c ∧ x.2.1 85 (16 + i) = t
/-- what recording changes -/
def recF (x y : Hp) : Prop := fr [84, 85] x y ∧ (∀ k, k < 110 → k ≠ 1 → y.1 84 k = x.1 84 k) ∧ ∀ k, k < 16 → y.2.1 85 k = x.2.1 85 k
theorem recF_rf {x : Hp} : recF x x := ⟨fr_rf, fun _ _ _ => rfl, fun _ _ => rfl⟩
theorem recF_tr {x y z : Hp} (h : recF x y) (k : recF y z) : recF x z := ⟨fr_tr h.1 k.1, fun j a b => (k.2.1 j a b).trans (h.2.1 j a b), fun j a => (k.2.2 j a).trans (h.2.2 j a)⟩
theorem evA_at {E : Ev} {c : Int32} {t : UInt64} {i : Nat} {c2 : Int32} {t2 : UInt64} (h : E.length < 60) (hi : (evA E c t)[i]? = some (c2, t2)) : (i < E.length ∧ E[i]? = some (c2, t2)) ∨ (i = E.length ∧ c2 = c ∧ t2 = t) := by
  unfold evA at hi
  rw [if_pos h] at hi
  rcases Nat.lt_trichotomy i E.length with q | q | q
  · rw [List.getElem?_append_left q] at hi
    exact Or.inl ⟨q, hi⟩
  · rw [List.getElem?_append_right (by omega), q, Nat.sub_self] at hi
    cases hi
    exact Or.inr ⟨q, rfl, rfl⟩
  · rw [List.getElem?_append_right (by omega), show i - E.length = (i - E.length - 1) + 1 by omega, List.getElem?_cons_succ] at hi
    cases hi
theorem evA_n {E : Ev} {c : Int32} {t : UInt64} (h : E.length < 60) : (evA E c t).length = E.length + 1 := by
  unfold evA
  rw [if_pos h, List.length_append]
  rfl
theorem r_record (Y : Kx) (x : Hp) (E : Ev) (kd rl : Int32) (t : UInt64) (hE : EVM x E) : sR Y mX7_record [.ref 83, .int kd, .int rl, .double t] x (fun rr x' => rr = none ∧ EVM x' (evA E (100 * kd + rl) t) ∧ recF x x') := by
  refine sR_of (by decide +kernel) (Nat.le_of_ble_eq_true rfl) (fun X h hY hR => ?_)
  have hT := kX7_record h
  obtain ⟨h1, h2, h3⟩ := hE
  repeat (refine sw_s hT rfl rfl ?_)
  refine sw_iald hT rfl rfl (inW (by omega : 1 < 170)) ?_
  rw [show (1 : Int32).toNatClampNeg = 1 by decide, h1]
  repeat (refine sw_s hT rfl rfl ?_)
  rw [show (60 : Int32) = nI 60 by decide]
  by_cases hn : E.length < 60
  · refine sw_b hT rfl rfl (fun c => absurd c ((nI_ge hn (by omega)))) (fun _ => ?_)
    repeat (refine sw_s hT rfl rfl ?_)
    refine sw_iald hT rfl rfl (inW (by omega : 1 < 170)) ?_
    rw [show (1 : Int32).toNatClampNeg = 1 by decide, h1]
    repeat (refine sw_s hT rfl rfl ?_)
    rw [show (110 : Int32) + nI E.length = nI (110 + E.length) by rw [show (110 : Int32) = nI 110 by decide, nI_add]]
    refine sw_iast hT rfl rfl (inW (by omega)) ?_
    rw [clW (by omega)]
    repeat (refine sw_s hT rfl rfl ?_)
    refine sw_iald hT rfl rfl (inW (by omega : 1 < 170)) ?_
    rw [show (1 : Int32).toNatClampNeg = 1 by decide, show ((u2 x.1 84 (110 + E.length) (100 * kd + rl), x.2) : Hp).1 84 1 = nI E.length from (u2_k x.1 84 (110 + E.length) (100 * kd + rl) (by omega)).trans h1]
    repeat (refine sw_s hT rfl rfl ?_)
    rw [show (16 : Int32) + nI E.length = nI (16 + E.length) by rw [show (16 : Int32) = nI 16 by decide, nI_add]]
    refine sw_dast hT rfl rfl (inV (by omega)) ?_
    rw [clW (by omega)]
    repeat (refine sw_s hT rfl rfl ?_)
    refine sw_iald hT rfl rfl (inW (by omega : 1 < 170)) ?_
    rw [show (1 : Int32).toNatClampNeg = 1 by decide, show ((u2 x.1 84 (110 + E.length) (100 * kd + rl), u2 x.2.1 85 (16 + E.length) t, x.2.2) : Hp).1 84 1 = nI E.length from (u2_k x.1 84 (110 + E.length) (100 * kd + rl) (by omega)).trans h1]
    repeat (refine sw_s hT rfl rfl ?_)
    refine sw_iast hT rfl rfl (inW (by omega : 1 < 170)) ?_
    rw [show (1 : Int32).toNatClampNeg = 1 by decide, nI_1]
    refine sw_vretP hT rfl rfl hR ?_
    have ev : ∀ i, i ≠ 1 → u2 (u2 x.1 84 (110 + E.length) (100 * kd + rl)) 84 1 (nI (E.length + 1)) 84 i = u2 x.1 84 (110 + E.length) (100 * kd + rl) 84 i := fun i hi => u2_k _ _ _ _ hi
    refine ⟨rfl, ⟨?_, evA_le h2, fun i c t' hi => ?_⟩, ⟨fr_tr (fr_tr (fr_wI (by decide)) (fr_wD (by decide))) (fr_wI (by decide)), fun k a b => ?_, fun k a => ?_⟩⟩
    · rw [evA_n hn]; exact u2_at (u2 x.1 84 (110 + E.length) (100 * kd + rl)) 84 1 _
    · show u2 (u2 x.1 84 (110 + E.length) (100 * kd + rl)) 84 1 (nI (E.length + 1)) 84 (110 + i) = c ∧ u2 x.2.1 85 (16 + E.length) t 85 (16 + i) = t'
      rw [ev (110 + i) (by omega)]
      rcases evA_at hn hi with ⟨q1, q2⟩ | ⟨q1, q2, q3⟩
      · rw [u2_k _ _ _ _ (by omega), u2_k _ _ _ _ (by omega)]
        exact h3 i c t' q2
      · subst q1
        rw [u2_at, u2_at, q2, q3]
        exact ⟨rfl, rfl⟩
    · show u2 (u2 x.1 84 (110 + E.length) (100 * kd + rl)) 84 1 (nI (E.length + 1)) 84 k = _
      rw [ev k b, u2_k _ _ _ _ (by omega)]
    · show u2 x.2.1 85 (16 + E.length) t 85 k = _
      rw [u2_k _ _ _ _ (by omega)]
  · refine sw_b hT rfl rfl (fun _ => ?_) (fun c => absurd ((by rw [show E.length = 60 by omega]; exact Int32.le_refl _)) c)
    refine sw_vretP hT rfl rfl hR ?_
    refine ⟨rfl, ?_, recF_rf⟩
    unfold evA
    rw [if_neg hn]
    exact ⟨h1, h2, h3⟩
/-- the reference's row of trips -/
def LUM (x : Hp) (T : Nat → UInt64) (L : List Nat) : Prop := x.1 83 10 = nI L.length ∧ ∀ (i e : Nat), L[i]? = some e → x.1 89 i = nI e ∧ x.2.1 90 i = T e
abbrev bfM (T : Nat → UInt64) (e r : Nat) : Prop := 0 < cml (T e) (T r) ∨ (cml (T e) (T r) = 0 ∧ e < r)
def insQ (T : Nat → UInt64) (r : Nat) : List Nat → List Nat
  | [] => [r]
  | e :: M => if bfM T e r then e :: insQ T r M else r :: e :: M
def insM (T : Nat → UInt64) (r : Nat) (L : List Nat) : List Nat := (insQ T r L.reverse).reverse
theorem insQ_len (T : Nat → UInt64) (r : Nat) : ∀ M, (insQ T r M).length = M.length + 1
  | [] => rfl
  | e :: M => by
    unfold insQ
    split
    · rw [List.length_cons, insQ_len T r M, List.length_cons]
    · rfl
theorem insM_len (T : Nat → UInt64) (r : Nat) (L : List Nat) : (insM T r L).length = L.length + 1 := by
  unfold insM
  rw [List.length_reverse, insQ_len, List.length_reverse]
theorem insQ_mem (T : Nat → UInt64) (r e : Nat) : ∀ M, e ∈ insQ T r M ↔ e = r ∨ e ∈ M
  | [] => by simp [insQ]
  | a :: M => by
    unfold insQ
    split
    · rw [List.mem_cons, insQ_mem T r e M, List.mem_cons]
      constructor
      · rintro (h | h | h)
        · exact Or.inr (Or.inl h)
        · exact Or.inl h
        · exact Or.inr (Or.inr h)
      · rintro (h | h | h)
        · exact Or.inr (Or.inl h)
        · exact Or.inl h
        · exact Or.inr (Or.inr h)
    · rw [List.mem_cons]
theorem insM_mem (T : Nat → UInt64) (r e : Nat) (L : List Nat) : e ∈ insM T r L ↔ e = r ∨ e ∈ L := by
  unfold insM
  rw [List.mem_reverse, insQ_mem, List.mem_reverse]
/-- the trips of the relays of the way, taken from the source on -/
def mlC (o T : Nat → UInt64) : List Nat → List Nat → List Nat
  | [], L => L
  | r :: P, L => if cml (o r) 9218868437227405312 = 0 then mlC o T P L else mlC o T P (insM T r L)
theorem mlC_mem {o T : Nat → UInt64} {e : Nat} : ∀ {P L : List Nat}, e ∈ mlC o T P L ↔ e ∈ L ∨ (e ∈ P ∧ ¬ cml (o e) 9218868437227405312 = 0)
  | [], L => ⟨Or.inl, fun h => h.elim id (fun q => by cases q.1)⟩
  | r :: P, L => by
    unfold mlC
    split
    · next hr =>
      rw [mlC_mem]
      constructor
      · rintro (h | ⟨h1, h2⟩)
        · exact Or.inl h
        · exact Or.inr ⟨List.mem_cons_of_mem _ h1, h2⟩
      · rintro (h | ⟨h1, h2⟩)
        · exact Or.inl h
        · rcases List.mem_cons.mp h1 with rfl | h1
          · exact absurd hr h2
          · exact Or.inr ⟨h1, h2⟩
    · next hr =>
      rw [mlC_mem, insM_mem]
      constructor
      · rintro ((rfl | h) | ⟨h1, h2⟩)
        · exact Or.inr ⟨List.mem_cons_self, hr⟩
        · exact Or.inl h
        · exact Or.inr ⟨List.mem_cons_of_mem _ h1, h2⟩
      · rintro (h | ⟨h1, h2⟩)
        · exact Or.inl (Or.inr h)
        · rcases List.mem_cons.mp h1 with rfl | h1
          · exact Or.inl (Or.inl rfl)
          · exact Or.inr ⟨h1, h2⟩
theorem mlC_len {o T : Nat → UInt64} : ∀ {P L : List Nat}, (mlC o T P L).length ≤ L.length + P.length
  | [], L => Nat.le_refl _
  | r :: P, L => by
    unfold mlC
    split
    · have := mlC_len (o := o) (T := T) (P := P) (L := L)
      simp only [List.length_cons]; omega
    · have := mlC_len (o := o) (T := T) (P := P) (L := insM T r L)
      rw [insM_len] at this
      simp only [List.length_cons]; omega
/-- one relay put into its place, from the loop on -/
theorem sw_place {X : Ctx} (hT : tab X mX7_lineUp tX7_lineUp) (x : Hp) (T : Nat → UInt64) (L : List Nat) (r k : Nat) (cur t o : UInt64) (hk : k < 12) (hr : r < 12) (hlen : L.length < 12) (h10 : x.1 83 10 = nI L.length) (hL : ∀ (i e : Nat), L[i]? = some e → x.1 89 i = nI e ∧ x.2.1 90 i = T e) (hm : ∀ e, e ∈ L → e < 12) (h88 : x.1 88 k = nI r) (hN : ∀ y, LUM y T (insM T r L) → fr [83, 89, 90] x y → (∀ j, j ≠ 10 → y.1 83 j = x.1 83 j) → SW X mX7_lineUp 8 [(5, .int (nI (k + 1))), (0, .ref 83), (1, .double cur), (3, .double t)] [] y) : SW X mX7_lineUp 52 [(10, .int (nI L.length)), (8, .double (T r)), (6, .double o), (5, .int (nI k)), (0, .ref 83), (1, .double cur), (3, .double t)] [] x := by
  have fin : ∀ (M B : List Nat) (y : Hp), M.length + B.length = L.length → (∀ (i e : Nat), M.reverse[i]? = some e → y.1 89 i = nI e ∧ y.2.1 90 i = T e) → (∀ (i e : Nat), B[i]? = some e → y.1 89 (M.length + 1 + i) = nI e ∧ y.2.1 90 (M.length + 1 + i) = T e) → fr [89, 90] x y → insM T r L = M.reverse ++ r :: B → SW X mX7_lineUp 144 [(10, .int (nI M.length)), (8, .double (T r)), (6, .double o), (5, .int (nI k)), (0, .ref 83), (1, .double cur), (3, .double t)] [] y := by
    intro M B y hlB hM hB hf he
    have e83 : y.1 83 = x.1 83 := hf.1 83 (by decide)
    have e88 : y.1 88 = x.1 88 := hf.1 88 (by decide)
    obtain ⟨z, hz⟩ : ∃ z : Hp, z = (u2 (u2 y.1 89 M.length (nI r)) 83 10 (nI L.length + 1), u2 y.2.1 90 M.length (T r), y.2.2) := ⟨_, rfl⟩
    have q := hN z ⟨?_, fun i e hi => ?_⟩ ?_ ?_
    · rw [hz, ← nI_1] at q
      repeat (refine sw_s hT rfl rfl ?_)
      refine sw_dast hT rfl rfl (in12 (by omega)) ?_
      rw [cl12 (by omega)]
      repeat (refine sw_s hT rfl rfl ?_)
      refine sw_iald hT rfl rfl (in12 hk) ?_
      rw [cl12 hk, e88, h88]
      refine sw_iast hT rfl rfl (in12 (by omega)) ?_
      rw [cl12 (by omega)]
      refine sw_s hT rfl rfl ?_
      refine sw_s hT rfl rfl ?_
      refine sw_s hT rfl rfl ?_
      rw [show fks (u2 y.1 89 M.length (nI r), u2 y.2.1 90 M.length (T r), y.2.2) 83 10 0 = .int (nI L.length) from congrArg Value.int ((congrFun (u2_ne (f := y.1) (i := 89) (j := 83) (k := M.length) (v := nI r) (by decide)) 10).trans (by rw [e83, h10]))]
      repeat (first | (refine sw_at (n := 8) rfl ?_; exact (sw_pick [0, 4, 5, 6] rfl q)) | refine sw_s hT rfl rfl ?_)
    · rw [hz, insM_len, ← nI_1]; exact u2_at (u2 y.1 89 M.length (nI r)) 83 10 (nI L.length + 1)
    · rw [hz]
      show u2 (u2 y.1 89 M.length (nI r)) 83 10 (nI L.length + 1) 89 i = nI e ∧ u2 y.2.1 90 M.length (T r) 90 i = T e
      rw [u2_ne (by decide)]
      rw [he] at hi
      rcases Nat.lt_trichotomy i M.length with q | q | q
      · rw [u2_k _ _ _ _ (by omega), u2_k _ _ _ _ (by omega)]
        rw [List.getElem?_append_left (by rw [List.length_reverse]; exact q)] at hi
        exact hM i e hi
      · rw [List.getElem?_append_right (by rw [List.length_reverse]; omega), List.length_reverse, q, Nat.sub_self] at hi
        cases hi
        rw [q, u2_at, u2_at]
        exact ⟨rfl, rfl⟩
      · rw [u2_k _ _ _ _ (by omega), u2_k _ _ _ _ (by omega)]
        rw [List.getElem?_append_right (by rw [List.length_reverse]; omega), List.length_reverse, show i - M.length = (i - M.length - 1) + 1 by omega, List.getElem?_cons_succ] at hi
        have := hB _ e hi
        rw [show M.length + 1 + (i - M.length - 1) = i by omega] at this
        exact this
    · rw [hz]
      exact fr_tr (fr_tr (fr_tr (fr_mono hf (by decide)) (fr_wI (by decide))) (fr_wD (x := (u2 y.1 89 M.length (nI r), y.2)) (by decide))) (fr_wI (x := (u2 y.1 89 M.length (nI r), u2 y.2.1 90 M.length (T r), y.2.2)) (by decide))
    · intro j hj
      rw [hz]
      show u2 (u2 y.1 89 M.length (nI r)) 83 10 (nI L.length + 1) 83 j = _
      rw [u2_k _ _ _ _ hj, u2_ne (by decide), e83]
  have K : ∀ (M B : List Nat) (y : Hp), M.length + B.length = L.length → (∀ e, e ∈ M → e < 12) → (∀ (i e : Nat), M.reverse[i]? = some e → y.1 89 i = nI e ∧ y.2.1 90 i = T e) → (∀ (i e : Nat), B[i]? = some e → y.1 89 (M.length + 1 + i) = nI e ∧ y.2.1 90 (M.length + 1 + i) = T e) → fr [89, 90] x y → insM T r L = (insQ T r M).reverse ++ B → SW X mX7_lineUp 52 [(10, .int (nI M.length)), (8, .double (T r)), (6, .double o), (5, .int (nI k)), (0, .ref 83), (1, .double cur), (3, .double t)] [] y := by
    intro M
    induction M with
    | nil =>
      intro B y hlB hm2 hM hB hf he
      have q := fin [] B y hlB hM hB hf he
      repeat (refine sw_s hT rfl rfl ?_)
      refine sw_b hT rfl rfl (fun _ => ?_) (fun c => absurd ((by decide)) c)
      exact q
    | cons e M ih =>
      intro B y hlB hm2 hM hB hf he
      have he12 : e < 12 := hm2 e List.mem_cons_self
      have hlM : M.length < 12 := by simp only [List.length_cons] at hlB; omega
      have hlM1 : M.length + 1 < 12 := by simp only [List.length_cons] at hlB; omega
      have e88 : y.1 88 = x.1 88 := hf.1 88 (by decide)
      obtain ⟨hMe, hMd⟩ := hM M.length e (by rw [List.reverse_cons, List.getElem?_append_right (by rw [List.length_reverse]; exact Nat.le_refl _), List.length_reverse, Nat.sub_self]; rfl)
      rw [show (e :: M).length = M.length + 1 from rfl]
      have stop : ¬ bfM T e r → SW X mX7_lineUp 144 [(10, .int (nI (M.length + 1))), (8, .double (T r)), (6, .double o), (5, .int (nI k)), (0, .ref 83), (1, .double cur), (3, .double t)] [] y := fun hn => fin (e :: M) B y hlB hM hB hf (by
        rw [he, show insQ T r (e :: M) = r :: e :: M from if_neg hn]; simp)
      have go : bfM T e r → SW X mX7_lineUp 106 [(10, .int (nI (M.length + 1))), (8, .double (T r)), (6, .double o), (5, .int (nI k)), (0, .ref 83), (1, .double cur), (3, .double t)] [] y := by
        intro hp
        repeat (refine sw_s hT rfl rfl ?_)
        rw [nI_pred]
        refine sw_dald hT rfl rfl (in12 hlM) ?_
        rw [cl12 hlM, hMd]
        refine sw_dast hT rfl rfl (in12 hlM1) ?_
        rw [cl12 hlM1]
        repeat (refine sw_s hT rfl rfl ?_)
        rw [nI_pred]
        refine sw_iald hT rfl rfl (in12 hlM) ?_
        rw [cl12 hlM, hMe]
        refine sw_iast hT rfl rfl (in12 hlM1) ?_
        rw [cl12 hlM1]
        have q := ih (e :: B) (u2 y.1 89 (M.length + 1) (nI e), u2 y.2.1 90 (M.length + 1) (T e), y.2.2) (by simp only [List.length_cons] at hlB ⊢; omega) (fun a ha => hm2 a (List.mem_cons_of_mem _ ha))
          (fun i a hi => by
            have hil : i < M.length := by
              have := (List.getElem?_eq_some_iff.mp hi).1
              rwa [List.length_reverse] at this
            show u2 y.1 89 (M.length + 1) (nI e) 89 i = _ ∧ u2 y.2.1 90 (M.length + 1) (T e) 90 i = _
            rw [u2_k _ _ _ _ (by omega), u2_k _ _ _ _ (by omega)]
            exact hM i a (by rw [List.reverse_cons, List.getElem?_append_left (by rw [List.length_reverse]; exact hil)]; exact hi))
          (fun i a hi => by
            show u2 y.1 89 (M.length + 1) (nI e) 89 (M.length + 1 + i) = _ ∧ u2 y.2.1 90 (M.length + 1) (T e) 90 (M.length + 1 + i) = _
            cases i with
            | zero => cases hi; rw [Nat.add_zero, u2_at, u2_at]; exact ⟨rfl, rfl⟩
            | succ i =>
              rw [u2_k _ _ _ _ (by omega), u2_k _ _ _ _ (by omega)]
              have := hB i a hi
              rw [show (e :: M).length + 1 + i = M.length + 1 + (i + 1) by simp only [List.length_cons]; omega] at this
              exact this)
          (fr_tr (fr_tr hf (fr_wD (by decide))) (fr_wI (x := (y.1, u2 y.2.1 90 (M.length + 1) (T e), y.2.2)) (by decide)))
          (by rw [he, show insQ T r (e :: M) = e :: insQ T r M from if_pos hp]; simp)
        rw [show nI M.length = nI (M.length + 1) + -1 from (pk_m1 _).symm] at q
        repeat (first | (refine sw_at (n := 52) rfl ?_; exact (q)) | refine sw_s hT rfl rfl ?_)
      repeat (refine sw_s hT rfl rfl ?_)
      refine sw_b hT rfl rfl (fun c => absurd c ((nI_nle (by omega) (by omega)))) (fun _ => ?_)
      repeat (refine sw_s hT rfl rfl ?_)
      rw [nI_pred]
      refine sw_dald hT rfl rfl (in12 hlM) ?_
      rw [cl12 hlM, hMd]
      repeat (refine sw_s hT rfl rfl ?_)
      refine sw_b hT rfl rfl (fun c1 => ?_) (fun c1 => ?_)
      · exact go (Or.inl c1)
      · repeat (refine sw_s hT rfl rfl ?_)
        rw [nI_pred]
        refine sw_dald hT rfl rfl (in12 hlM) ?_
        rw [cl12 hlM, hMd]
        repeat (refine sw_s hT rfl rfl ?_)
        refine sw_b hT rfl rfl (fun c2 => ?_) (fun c2 => ?_)
        · repeat (refine sw_s hT rfl rfl ?_)
          rw [nI_pred]
          refine sw_iald hT rfl rfl (in12 hlM) ?_
          rw [cl12 hlM, hMe]
          repeat (refine sw_s hT rfl rfl ?_)
          refine sw_iald hT rfl rfl (in12 hk) ?_
          rw [cl12 hk, e88, h88]
          refine sw_b hT rfl rfl (fun c3 => ?_) (fun c3 => ?_)
          · exact stop (fun z => z.elim c1 (fun z => nI_ge z.2 (by omega) c3))
          · refine go (Or.inr ⟨c2, ?_⟩)
            rcases Nat.lt_or_ge e r with z | z
            · exact z
            · exact absurd (nI_le z (by omega)) c3
        · exact stop (fun z => z.elim c1 (fun z => c2 z.1))
  have q := K L.reverse [] x (by simp) (fun e he => hm e (List.mem_reverse.mp he)) (fun i e hi => hL i e (by rw [List.reverse_reverse] at hi; exact hi)) (fun i e hi => by cases hi) fr_rf (by simp [insM])
  rw [List.length_reverse] at q
  exact q
/-- what lining up needs of the numbers -/
def luOK (g : Hp) (P : List Nat) (cur t : UInt64) : Prop := ∀ r, r ∈ P → tfOK g r cur ∧ (¬ cml (tfS g r cur) 9218868437227405312 = 0 → vf_n64 (FP.dadd t (tfS g r cur)))
theorem r_lineUp (Y : Kx) (g x : Hp) (n : Nat) (P : List Nat) (cur t : UInt64) (hR0 : REL g x n) (hG : RG1 g n) (hP7 : x.1 83 7 = nI P.length) (hP : ∀ (i e : Nat), P[i]? = some e → x.1 88 i = nI e) (hPl : P.length ≤ 12) (hPm : ∀ e, e ∈ P → e < n) (ok : luOK g P cur t) : sR Y mX7_lineUp [.ref 83, .double cur, .double t] x (fun rr z => rr = none ∧ LUM z (fun r => FP.dadd t (tfS g r cur)) (mlC (fun r => tfS g r cur) (fun r => FP.dadd t (tfS g r cur)) P []) ∧ fr [83, 89, 90] x z ∧ ∀ j, j ≠ 10 → z.1 83 j = x.1 83 j) := by
  refine sR_of (by decide +kernel) (Nat.le_of_ble_eq_true rfl) (fun X h hY hR => ?_)
  have hT := kX7_lineUp h
  have h12 := hR0.1.1
  obtain ⟨o, ho⟩ : ∃ o : Nat → UInt64, o = fun r => tfS g r cur := ⟨_, rfl⟩
  obtain ⟨T, hTT⟩ : ∃ T : Nat → UInt64, T = fun r => FP.dadd t (tfS g r cur) := ⟨_, rfl⟩
  rw [← ho, ← hTT] at hR
  have K : ∀ (D A : List Nat), A ++ D = P → ∀ (y : Hp) (L : List Nat), LUM y T L → L.length ≤ A.length → (∀ e, e ∈ L → e ∈ P) → mlC o T P [] = mlC o T D L → fr [83, 89, 90] x y → (∀ j, j ≠ 10 → y.1 83 j = x.1 83 j) → SW X mX7_lineUp 8 [(5, .int (nI A.length)), (0, .ref 83), (1, .double cur), (3, .double t)] [] y := by
    intro D
    induction D with
    | nil =>
      intro A hA y L hL hll hLm he hf hj
      rw [List.append_nil] at hA
      subst hA
      repeat (refine sw_s hT rfl rfl ?_)
      rw [show fks y 83 7 0 = .int (nI A.length) from congrArg Value.int ((hj 7 (by decide)).trans hP7)]
      refine sw_b hT rfl rfl (fun _ => ?_) (fun c => absurd ((Int32.le_refl _)) c)
      repeat (refine sw_s hT rfl rfl ?_)
      refine sw_vretP hT rfl rfl hR ?_
      rw [he]
      exact ⟨rfl, hL, hf, hj⟩
    | cons r D ih =>
      intro A hA y L hL hll hLm he hf hj
      have hal : A.length < P.length := by rw [← hA]; simp
      have ha : P[A.length]? = some r := by rw [← hA, List.getElem?_append_right (Nat.le_refl _), Nat.sub_self]; rfl
      have hrm : r ∈ P := List.mem_of_getElem? ha
      have hrn : r < n := hPm r hrm
      have e88 : y.1 88 = x.1 88 := hf.1 88 (by decide)
      have yR : REL g y n := REL_fr hR0 (hf.1 84 (by decide)) (hf.2.1 85 (by decide))
      have hA1 : (A ++ [r]) ++ D = P := by rw [← hA]; simp
      have hAl : (A ++ [r]).length = A.length + 1 := by simp
      obtain ⟨ok1, ok2⟩ := ok r hrm
      have hor : o r = tfS g r cur := by rw [ho]
      have hTr : T r = FP.dadd t (tfS g r cur) := by rw [hTT]
      repeat (refine sw_s hT rfl rfl ?_)
      rw [show fks y 83 7 0 = .int (nI P.length) from congrArg Value.int ((hj 7 (by decide)).trans hP7)]
      refine sw_b hT rfl rfl (fun c => absurd c ((nI_ge (by omega) (by omega)))) (fun _ => ?_)
      repeat (refine sw_s hT rfl rfl ?_)
      refine sw_iald hT rfl rfl (in12 (by omega)) ?_
      rw [cl12 (by omega), e88, hP _ r ha]
      repeat (refine sw_s hT rfl rfl ?_)
      refine sw_cv hT rfl (r_timeOf _ g y n r cur yR hG hrn ok1) rfl rfl rfl rfl (Nat.le_of_ble_eq_true rfl) ?_
      repeat (refine sw_s hT rfl rfl ?_)
      refine sw_b hT rfl rfl (fun c1 => ?_) (fun c1 => ?_)
      · have hm : mlC o T (r :: D) L = mlC o T D L := if_pos (by rw [hor]; exact c1)
        have q := ih (A ++ [r]) hA1 y L hL (by omega) hLm (he.trans hm) hf hj
        rw [hAl, ← nI_1] at q
        repeat (first | (refine sw_at (n := 8) rfl ?_; exact (sw_pick [0, 2, 3, 4] rfl q)) | refine sw_s hT rfl rfl ?_)
      · have hm : mlC o T (r :: D) L = mlC o T D (insM T r L) := if_neg (by rw [hor]; exact c1)
        repeat (refine sw_s hT rfl rfl ?_)
        refine sw_dadd hT rfl (ok2 c1) ?_
        refine sw_s hT rfl rfl ?_
        refine sw_s hT rfl rfl ?_
        refine sw_s hT rfl rfl ?_
        rw [show fks y 83 10 0 = .int (nI L.length) from congrArg Value.int hL.1]
        rw [← hTr]
        have q := sw_place hT y T L r A.length cur t (tfS g r cur) (by omega) (by omega) (by omega) hL.1 hL.2 (fun e he => by have := hPm e (hLm e he); omega) (by rw [e88]; exact hP _ r ha) (fun z z1 z2 z3 => by
          have q := ih (A ++ [r]) hA1 z (insM T r L) z1 (by rw [insM_len]; omega) (fun e he => by
            rcases (insM_mem T r e L).mp he with rfl | h
            · exact hrm
            · exact hLm e h) (he.trans hm) (fr_tr hf z2) (fun j hj2 => (z3 j hj2).trans (hj j hj2))
          rw [hAl] at q
          exact q)
        repeat (first | (refine sw_at (n := 52) rfl ?_; exact (q)) | refine sw_s hT rfl rfl ?_)
  obtain ⟨y, hy⟩ : ∃ y : Hp, y = (u2 x.1 83 10 0, x.2) := ⟨_, rfl⟩
  have q := K P [] rfl y [] ⟨?_, fun i e hi => by cases hi⟩ (Nat.le_refl _) (fun e he => by cases he) rfl ?_ ?_
  · rw [hy] at q
    repeat (first | (refine sw_at (n := 8) rfl ?_; exact (q)) | refine sw_s hT rfl rfl ?_)
  · rw [hy]; exact u2_at x.1 83 10 0
  · rw [hy]; exact fr_wI (by decide)
  · intro j hj; rw [hy]; exact u2_k x.1 83 10 0 hj
