/-! the simulation, its rows: lists and frames -/
theorem sw_at {X : Ctx} {M : MI} {pc n : Nat} {ls : Lo} {st : List Value} {x : Hp} (h : pc = n) (k : SW X M n ls st x) : SW X M pc ls st x := h ▸ k
def fr (S : List Nat) (x x' : Hp) : Prop := (∀ i, i ∉ S → x'.1 i = x.1 i) ∧ (∀ i, i ∉ S → x'.2.1 i = x.2.1 i) ∧ x'.2.2 = x.2.2
theorem fr_rf {S : List Nat} {x : Hp} : fr S x x := ⟨fun _ _ => rfl, fun _ _ => rfl, rfl⟩
theorem fr_tr {S : List Nat} {x y z : Hp} (h : fr S x y) (k : fr S y z) : fr S x z := ⟨fun i hi => (k.1 i hi).trans (h.1 i hi), fun i hi => (k.2.1 i hi).trans (h.2.1 i hi), k.2.2.trans h.2.2⟩
theorem fr_mono {S T : List Nat} {x y : Hp} (h : fr S x y) (hs : ∀ i, i ∈ S → i ∈ T) : fr T x y := ⟨fun i hi => h.1 i (fun q => hi (hs i q)), fun i hi => h.2.1 i (fun q => hi (hs i q)), h.2.2⟩
theorem fr_wI {S : List Nat} {x : Hp} {i k : Nat} {v : Int32} (h : i ∈ S) : fr S x (u2 x.1 i k v, x.2) := ⟨fun j hj => u2_ne (fun q => hj (q ▸ h)), fun _ _ => rfl, rfl⟩
theorem fr_wD {S : List Nat} {x : Hp} {i k : Nat} {v : UInt64} (h : i ∈ S) : fr S x (x.1, u2 x.2.1 i k v, x.2.2) := ⟨fun _ _ => rfl, fun j hj => u2_ne (fun q => hj (q ▸ h)), rfl⟩
theorem u2_at {α : Type} (f : Nat → Nat → α) (i k : Nat) (v : α) : u2 f i k v i k = v := by
  rw [u2_self]
  exact if_pos rfl
theorem u2_k {α : Type} (f : Nat → Nat → α) (i k : Nat) (v : α) {j : Nat} (h : j ≠ k) : u2 f i k v i j = f i j := by
  rw [u2_self]
  exact if_neg h
theorem c_openingTime (Y : Kx) (x : Hp) (r : Nat) (hr : r < 12) (ok : vf_n64 (FP.dadd (x.2.1 80 r) 4588807732320345784)) : sM Y mX3_openingTime [.ref 78, .int (nI r)] x (some (.double (FP.dadd (x.2.1 80 r) 4588807732320345784))) x := by
  refine sM_of (by decide +kernel) (Nat.le_of_ble_eq_true rfl) (fun X h hY hR => ?_)
  have hT := kX3_openingTime h
  repeat (refine sw_s hT rfl rfl ?_)
  refine sw_dald hT rfl rfl (in12 hr) ?_
  rw [cl12 hr]
  repeat (refine sw_s hT rfl rfl ?_)
  refine sw_dadd hT rfl (ok) ?_
  exact sw_dret hT rfl rfl (hR)
/-- the row of the tripping relays holds L -/
def LU (x : Hp) (L : List Nat) : Prop := x.1 78 1 = nI L.length ∧ ∀ (i e : Nat), L[i]? = some e → x.1 79 i = nI e
def insR (T : Nat → UInt64) (r : Nat) : List Nat → List Nat
  | [] => [r]
  | e :: M => if 0 < cml (T e) (T r) then e :: insR T r M else r :: e :: M
theorem insR_t {T : Nat → UInt64} {r e : Nat} {M : List Nat} (h : 0 < cml (T e) (T r)) : insR T r (e :: M) = e :: insR T r M := if_pos h
theorem insR_f {T : Nat → UInt64} {r e : Nat} {M : List Nat} (h : ¬ 0 < cml (T e) (T r)) : insR T r (e :: M) = r :: e :: M := if_neg h
def insC (T : Nat → UInt64) (r : Nat) (L : List Nat) : List Nat := (insR T r L.reverse).reverse
theorem insR_len (T : Nat → UInt64) (r : Nat) : ∀ M, (insR T r M).length = M.length + 1
  | [] => rfl
  | e :: M => by
    unfold insR
    split
    · rw [List.length_cons, insR_len T r M, List.length_cons]
    · rfl
theorem insR_mem (T : Nat → UInt64) (r e : Nat) : ∀ M, e ∈ insR T r M ↔ e = r ∨ e ∈ M
  | [] => by simp [insR]
  | a :: M => by
    unfold insR
    split
    · rw [List.mem_cons, insR_mem T r e M, List.mem_cons]
      constructor
      · rintro (h | h | h)
        · exact Or.inr (Or.inl h)
        · exact Or.inl h
        · exact Or.inr (Or.inr h)
      · rintro (h | h | h)
        · exact Or.inr (Or.inl h)
        · exact Or.inl h
        · exact Or.inr (Or.inr h)
    · rw [List.mem_cons]
theorem insC_mem (T : Nat → UInt64) (r e : Nat) (L : List Nat) : e ∈ insC T r L ↔ e = r ∨ e ∈ L := by
  unfold insC
  rw [List.mem_reverse, insR_mem, List.mem_reverse]
theorem insC_len (T : Nat → UInt64) (r : Nat) (L : List Nat) : (insC T r L).length = L.length + 1 := by
  unfold insC
  rw [List.length_reverse, insR_len, List.length_reverse]
theorem c_lineUp (Y : Kx) (x : Hp) (r : Nat) (L : List Nat) (hr : r < 12) (hL : LU x L) (hlen : L.length < 12) (hm : ∀ e, e ∈ L → e < 12) : sR Y mX3_lineUp [.ref 78, .int (nI r)] x (fun rr x' => rr = none ∧ LU x' (insC (x.2.1 80) r L) ∧ fr [78, 79] x x' ∧ x'.2.1 = x.2.1 ∧ x'.1 78 4 = x.1 78 4) := by
  refine sR_of (by decide +kernel) (Nat.le_of_ble_eq_true rfl) (fun X h hY hR => ?_)
  have hT := kX3_lineUp h
  -- the end: r goes to the place M.length
  have fin : ∀ (M B : List Nat) (y : Hp), M.length + B.length = L.length → (∀ (i e : Nat), M.reverse[i]? = some e → y.1 79 i = nI e) → (∀ (i e : Nat), B[i]? = some e → y.1 79 (M.length + 1 + i) = nI e) → fr [79] x y → y.2.1 = x.2.1 → insC (x.2.1 80) r L = M.reverse ++ r :: B → SW X mX3_lineUp 52 [(2, .int (nI M.length)), (0, .ref 78), (1, .int (nI r))] [] y := by
    intro M B y hlB hM hB hf hd he
    have h78 : y.1 78 = x.1 78 := hf.1 78 (by decide)
    repeat (refine sw_s hT rfl rfl ?_)
    refine sw_iast hT rfl rfl (in12 (by omega)) ?_
    rw [cl12 (by omega)]
    repeat (refine sw_s hT rfl rfl ?_)
    refine sw_vretP hT rfl rfl hR ?_
    have e78 : (u2 y.1 79 M.length (nI r)) 78 = x.1 78 := by rw [u2_ne (by decide), h78]
    have e79 : ∀ j, j ≠ M.length → (u2 y.1 79 M.length (nI r)) 79 j = y.1 79 j := fun j hj => u2_k _ _ _ _ hj
    refine ⟨rfl, ⟨?_, fun i e hi => ?_⟩, ?_, hd, ?_⟩
    · show u2 (u2 y.1 79 M.length (nI r)) 78 1 ((u2 y.1 79 M.length (nI r)) 78 1 + 1) 78 1 = _
      rw [u2_at, e78, hL.1, nI_1, insC_len]
    · show u2 (u2 y.1 79 M.length (nI r)) 78 1 ((u2 y.1 79 M.length (nI r)) 78 1 + 1) 79 i = _
      rw [u2_ne (by decide)]
      rw [he] at hi
      rcases Nat.lt_trichotomy i M.length with q | q | q
      · rw [e79 i (by omega)]
        rw [List.getElem?_append_left (by rw [List.length_reverse]; exact q)] at hi
        exact hM i e hi
      · rw [List.getElem?_append_right (by rw [List.length_reverse]; omega), List.length_reverse, q, Nat.sub_self] at hi
        cases hi
        rw [q, u2_at]
      · rw [e79 i (by omega)]
        rw [List.getElem?_append_right (by rw [List.length_reverse]; omega), List.length_reverse, show i - M.length = (i - M.length - 1) + 1 by omega, List.getElem?_cons_succ] at hi
        have := hB _ e hi
        rw [show M.length + 1 + (i - M.length - 1) = i by omega] at this
        exact this
    · exact fr_tr (fr_tr (fr_mono hf (by decide)) (fr_wI (by decide))) (fr_wI (by decide))
    · show u2 (u2 y.1 79 M.length (nI r)) 78 1 ((u2 y.1 79 M.length (nI r)) 78 1 + 1) 78 4 = _
      rw [u2_k _ _ _ _ (by decide), e78]
  have K : ∀ (M B : List Nat) (y : Hp), M.length + B.length = L.length → (∀ e, e ∈ M → e < 12) → (∀ (i e : Nat), M.reverse[i]? = some e → y.1 79 i = nI e) → (∀ (i e : Nat), B[i]? = some e → y.1 79 (M.length + 1 + i) = nI e) → fr [79] x y → y.2.1 = x.2.1 → insC (x.2.1 80) r L = (insR (x.2.1 80) r M).reverse ++ B → SW X mX3_lineUp 5 [(2, .int (nI M.length)), (0, .ref 78), (1, .int (nI r))] [] y := by
    intro M
    induction M with
    | nil =>
      intro B y hlB hm2 hM hB hf hd he
      have k := fin [] B y hlB hM hB hf hd he
      repeat (refine sw_s hT rfl rfl ?_)
      refine sw_b hT rfl rfl (fun _ => ?_) (fun c => absurd ((by decide)) c)
      exact k
    | cons e M ih =>
      intro B y hlB hm2 hM hB hf hd he
      have he12 : e < 12 := hm2 e List.mem_cons_self
      have hlM : M.length < 12 := by simp only [List.length_cons] at hlB; omega
      have hlM1 : M.length + 1 < 12 := by simp only [List.length_cons] at hlB; omega
      have hMe : y.1 79 M.length = nI e := hM _ e (by rw [List.reverse_cons, List.getElem?_append_right (by rw [List.length_reverse]; exact Nat.le_refl _), List.length_reverse, Nat.sub_self]; rfl)
      rw [show (e :: M).length = M.length + 1 from rfl]
      repeat (refine sw_s hT rfl rfl ?_)
      refine sw_b hT rfl rfl (fun c => absurd c ((nI_nle (by omega) (by omega)))) (fun _ => ?_)
      repeat (refine sw_s hT rfl rfl ?_)
      rw [show nI (M.length + 1) - 1 = nI M.length from nI_pred _]
      refine sw_iald hT rfl rfl (in12 hlM) ?_
      rw [cl12 hlM, hMe]
      refine sw_dald hT rfl rfl (in12 he12) ?_
      rw [cl12 he12]
      repeat (refine sw_s hT rfl rfl ?_)
      refine sw_dald hT rfl rfl (in12 hr) ?_
      rw [cl12 hr, hd]
      repeat (refine sw_s hT rfl rfl ?_)
      refine sw_b hT rfl rfl (fun c1 => ?_) (fun c1 => ?_)
      · have hn : ¬ 0 < cml (x.2.1 80 e) (x.2.1 80 r) := Int32.not_lt.mpr c1
        have k := fin (e :: M) B y hlB hM hB hf hd (by rw [he, insR_f hn]; simp)
        rw [show (e :: M).length = M.length + 1 from rfl] at k
        exact k
      · have hp : 0 < cml (x.2.1 80 e) (x.2.1 80 r) := Int32.not_le.mp c1
        repeat (refine sw_s hT rfl rfl ?_)
        rw [show nI (M.length + 1) - 1 = nI M.length from nI_pred _]
        refine sw_iald hT rfl rfl (in12 hlM) ?_
        rw [cl12 hlM, hMe]
        refine sw_iast hT rfl rfl (in12 hlM1) ?_
        rw [cl12 hlM1]
        have k := ih (e :: B) (u2 y.1 79 (M.length + 1) (nI e), y.2) (by simp only [List.length_cons] at hlB ⊢; omega) (fun a ha => hm2 a (List.mem_cons_of_mem _ ha))
          (fun i a hi => by
            have hil : i < M.length := by
              have := (List.getElem?_eq_some_iff.mp hi).1
              rwa [List.length_reverse] at this
            show u2 y.1 79 (M.length + 1) (nI e) 79 i = _
            rw [u2_k _ _ _ _ (by omega)]
            exact hM i a (by rw [List.reverse_cons, List.getElem?_append_left (by rw [List.length_reverse]; exact hil)]; exact hi))
          (fun i a hi => by
            show u2 y.1 79 (M.length + 1) (nI e) 79 (M.length + 1 + i) = _
            cases i with
            | zero => cases hi; rw [Nat.add_zero, u2_at]
            | succ i =>
              rw [u2_k _ _ _ _ (by omega)]
              have := hB i a hi
              rw [show (e :: M).length + 1 + i = M.length + 1 + (i + 1) by simp only [List.length_cons]; omega] at this
              exact this)
          (fr_tr hf (fr_wI (by decide))) hd
          (by rw [he, insR_t hp]; simp)
        rw [show nI M.length = nI (M.length + 1) + -1 from (pk_m1 _).symm] at k
        repeat (first | (refine sw_at (n := 5) rfl ?_; exact (k)) | refine sw_s hT rfl rfl ?_)
  have k0 := K L.reverse [] x (by simp) (fun e he => hm e (List.mem_reverse.mp he)) (fun i e hi => hL.2 i e (by rw [List.reverse_reverse] at hi; exact hi)) (fun i e hi => by cases hi) fr_rf rfl (by simp [insC])
  rw [List.length_reverse, ← hL.1] at k0
  repeat (first | (refine sw_at (n := 5) rfl ?_; exact (k0)) | refine sw_s hT rfl rfl ?_)
