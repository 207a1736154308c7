/-! the face's other roads: undo, closing, settings by the class itself, simulations -/
theorem f_undo (Y : Kx) (x : Hp) (j c : Nat) (hj : j < 4) (hc0 : 0 < c) (hc : c ≤ 4) (h1 : x.1 76 1 = nI ((j + 1) % 4)) (h0 : x.1 76 0 = nI c) : sM Y mX6_undo [.ref 0] x (some (.int (nI (c - 1)))) (popS x j c) := by
  refine sM_of (by decide +kernel) (Nat.le_of_ble_eq_true rfl) (fun X h hY hR => ?_)
  have hT := kX6_undo h
  have e : (popS x j c).1 76 0 = nI (c - 1) := u2_at (cpA (wI x 76 1 (nI j)) 1 (16 + 15 * j)).1 76 0 (nI (c - 1))
  rw [← e] at hR
  repeat (refine sw_s hT rfl rfl ?_)
  rw [show fks x 76 0 0 = .int (nI c) from congrArg Value.int h0]
  refine sw_b hT rfl rfl (fun c => absurd c ((nI_ne0 hc0 (by omega)))) (fun _ => ?_)
  repeat (refine sw_s hT rfl rfl ?_)
  refine sw_cv0 hT rfl (c_popInto _ x j c hj hc0 h1 h0) rfl rfl rfl rfl (Nat.le_of_ble_eq_true rfl) ?_
  generalize popS x j c = y at hR ⊢
  repeat (refine sw_s hT rfl rfl ?_)
  exact sw_iret hT rfl rfl rfl (hR)
/-- Integer.bitCount, as its code has it -/
def bcT (a : Int32) : Int32 :=
  let us := fun (z y : Int32) => (z.toUInt32 >>> (y.toUInt32 &&& Int32.toUInt32 31)).toInt32
  let a := a - (us a 1 &&& 1431655765)
  let a := (a &&& 858993459) + (us a 2 &&& 858993459)
  let a := (a + us a 4) &&& 252645135
  let a := a + us a 8
  let a := a + us a 16
  a &&& 63
theorem c_bitCount (Y : Kx) (x : Hp) (a : Int32) : sM Y mJ6_bitCount_0f7a4 [.int a] x (some (.int (bcT a))) x := by
  refine sM_of (by decide +kernel) (Nat.le_of_ble_eq_true rfl) (fun X h hY hR => ?_)
  have hT := kJ6_bitCount_0f7a4 h
  repeat (refine sw_s hT rfl rfl ?_)
  exact sw_iret hT rfl rfl rfl (hR)
theorem f_closeAll (Y : Kx) (x : Hp) (i c : Nat) (hU : US x i c) : sM Y mX6_closeAll [.ref 0] x (some (.int (bcT (x.1 7 6)))) (u2 (pushS x i c).1 7 6 0, (pushS x i c).2) := by
  refine sM_of (by decide +kernel) (Nat.le_of_ble_eq_true rfl) (fun X h hY hR => ?_)
  have hT := kX6_closeAll h
  have e : (pushS x i c).1 7 6 = x.1 7 6 := congrFun (push_o1 hU.1 (Or.inl (by decide))) 6
  rw [← e] at hR
  repeat (refine sw_s hT rfl rfl ?_)
  refine sw_cv0 hT rfl (c_pushU _ x i c hU) rfl rfl rfl rfl (Nat.le_of_ble_eq_true rfl) ?_
  generalize pushS x i c = y at hR ⊢
  repeat (refine sw_s hT rfl rfl ?_)
  refine sw_cs hT rfl (c_bitCount _ y _) rfl rfl (Nat.le_of_ble_eq_true rfl) ?_
  repeat (refine sw_s hT rfl rfl ?_)
  exact sw_iret hT rfl rfl rfl (hR)
theorem c_pickupForLoad (Y : Kx) (x : Hp) (l p : Int32) : sM Y mX6_pickupForLoad [.int l, .int p] x (some (.int (if (1 : Int32) < (if (l * p + 99) / 100 < 20000 then (l * p + 99) / 100 else 20000) then (if (l * p + 99) / 100 < 20000 then (l * p + 99) / 100 else 20000) else 1))) x := by
  refine sM_of (by decide +kernel) (Nat.le_of_ble_eq_true rfl) (fun X h hY hR => ?_)
  have hT := kX6_pickupForLoad h
  repeat (refine sw_s hT rfl rfl ?_)
  refine sw_idiv hT rfl ((by decide)) ?_
  repeat (refine sw_s hT rfl rfl ?_)
  refine sw_min hT rfl (Nat.le_of_ble_eq_true rfl) ?_
  refine sw_max hT rfl (Nat.le_of_ble_eq_true rfl) ?_
  exact sw_iret hT rfl rfl rfl (hR)
def pfS (l p : Int32) : Int32 := if (1 : Int32) < (if (l * p + 99) / 100 < 20000 then (l * p + 99) / 100 else 20000) then (if (l * p + 99) / 100 < 20000 then (l * p + 99) / 100 else 20000) else 1
theorem loS_eq {x y : Hp} (h4 : y.1 4 = x.1 4) (h6 : y.1 6 = x.1 6) (m : Int32) : ∀ n, loS y m n = loS x m n
  | 0 => rfl
  | n + 1 => by unfold loS; rw [h4, h6, loS_eq h4 h6 m n]
/-- the pickups of the first j relays set by their loads -/
def apR (x : Hp) (n : Nat) (p : Int32) : Nat → Nat → Int32
  | 0 => x.1 8
  | j + 1 => upd (apR x n p j) j (pfS (loS x (1 <<< (nI j &&& 31)) n) p)
def apN (x : Hp) (n : Nat) (p : Int32) : Nat → Nat
  | 0 => 0
  | j + 1 => if pfS (loS x (1 <<< (nI j &&& 31)) n) p = x.1 8 j then apN x n p j else apN x n p j + 1
theorem apN_le (x : Hp) (n : Nat) (p : Int32) : ∀ j, apN x n p j ≤ j
  | 0 => Nat.le_refl _
  | j + 1 => by
    have := apN_le x n p j
    show (if pfS (loS x (1 <<< (nI j &&& 31)) n) p = x.1 8 j then apN x n p j else apN x n p j + 1) ≤ j + 1
    split <;> omega
theorem apR_ge (x : Hp) (n : Nat) (p : Int32) : ∀ j k, j ≤ k → apR x n p j k = x.1 8 k
  | 0, _, _ => rfl
  | j + 1, k, h => by
    show (if k = j then _ else apR x n p j k) = _
    rw [if_neg (by omega)]
    exact apR_ge x n p j k (by omega)
theorem f_autoPickup (Y : Kx) (x : Hp) (i c n p : Nat) (hU : US x i c) (hn : x.1 2 2 = nI n) (h12 : n ≤ 12) (hp : 100 ≤ p ∧ p ≤ 300) : sR Y mX6_autoPickup [.ref 0, .int (nI p)] x (fun rr x' => rr = some (.int (nI (apN x n (nI p) n))) ∧ (∀ k, k < 12 → x'.1 8 k = apR x n (nI p) n k) ∧ fr [8] (pushS x i c) x') := by
  refine sR_of (by decide +kernel) (Nat.le_of_ble_eq_true rfl) (fun X h hY hR => ?_)
  have hT := kX6_autoPickup h
  repeat (refine sw_s hT rfl rfl ?_)
  refine sw_cs hT rfl (c_within _ x (nI p) 100 300) rfl rfl (Nat.le_of_ble_eq_true rfl) ?_
  refine sw_b hT rfl rfl (fun c => absurd c ((bI_1 ⟨by rw [show (100 : Int32) = nI 100 by decide]; exact nI_le hp.1 (by omega), by rw [show (300 : Int32) = nI 300 by decide]; exact nI_le hp.2 (by omega)⟩))) (fun _ => ?_)
  repeat (refine sw_s hT rfl rfl ?_)
  refine sw_cv0 hT rfl (c_pushU _ x i c hU) rfl rfl rfl rfl (Nat.le_of_ble_eq_true rfl) ?_
  have e2 : (pushS x i c).1 2 = x.1 2 := push_o1 hU.1 (Or.inl (by decide))
  have e4 : (pushS x i c).1 4 = x.1 4 := push_o1 hU.1 (Or.inl (by decide))
  have e6 : (pushS x i c).1 6 = x.1 6 := push_o1 hU.1 (Or.inl (by decide))
  have e8 : (pushS x i c).1 8 = x.1 8 := push_o1 hU.1 (Or.inl (by decide))
  generalize pushS x i c = y at hR e2 e4 e6 e8 ⊢
  have K : ∀ d j, d + j = n → ∀ z, (∀ k, k < 12 → z.1 8 k = apR x n (nI p) j k) → fr [8] y z → SW X mX6_autoPickup 37 [(3, .int (nI j)), (2, .int (nI (apN x n (nI p) j))), (0, .ref 0), (1, .int (nI p))] [] z := by
    intro d
    induction d with
    | zero =>
      intro j hj z h1 h2
      have hjn : j = n := by omega
      subst hjn
      repeat (refine sw_s hT rfl rfl ?_)
      refine sw_b hT rfl rfl (fun _ => ?_) (fun c => absurd ((by show z.1 2 2 ≤ _; rw [h2.1 2 (by decide), e2, hn]; exact Int32.le_refl _)) c)
      repeat (refine sw_s hT rfl rfl ?_)
      refine sw_iretP hT rfl rfl rfl hR ?_
      exact ⟨rfl, h1, h2⟩
    | succ d ih =>
      intro j hj z h1 h2
      have hj12 : j < 12 := by omega
      have z2 : z.1 2 2 = nI n := by rw [h2.1 2 (by decide), e2, hn]
      have hl : loS z (1 <<< (nI j &&& 31)) n = loS x (1 <<< (nI j &&& 31)) n := loS_eq (by rw [h2.1 4 (by decide), e4]) (by rw [h2.1 6 (by decide), e6]) _ n
      repeat (refine sw_s hT rfl rfl ?_)
      refine sw_b hT rfl rfl (fun c => absurd c ((by show ¬ z.1 2 2 ≤ _; rw [z2]; exact nI_ge (by omega) (by omega)))) (fun _ => ?_)
      repeat (refine sw_s hT rfl rfl ?_)
      refine sw_cv hT rfl (c_loadOver _ z _ n z2 h12) rfl rfl rfl rfl (Nat.le_of_ble_eq_true rfl) ?_
      rw [hl]
      repeat (refine sw_s hT rfl rfl ?_)
      refine sw_cs hT rfl (c_pickupForLoad _ z _ _) rfl rfl (Nat.le_of_ble_eq_true rfl) ?_
      obtain ⟨v, hv⟩ : ∃ v, v = pfS (loS x (1 <<< (nI j &&& 31)) n) (nI p) := ⟨_, rfl⟩
      rw [show (if (1 : Int32) < (if (loS x (1 <<< (nI j &&& 31)) n * nI p + 99) / 100 < 20000 then (loS x (1 <<< (nI j &&& 31)) n * nI p + 99) / 100 else 20000) then (if (loS x (1 <<< (nI j &&& 31)) n * nI p + 99) / 100 < 20000 then (loS x (1 <<< (nI j &&& 31)) n * nI p + 99) / 100 else 20000) else 1) = v from hv.symm]
      have hR8 : ∀ k, apR x n (nI p) (j + 1) k = if k = j then v else apR x n (nI p) j k := fun k => by rw [hv]; rfl
      have z8 : z.1 8 j = x.1 8 j := by rw [h1 j hj12, apR_ge _ _ _ _ _ (Nat.le_refl _)]
      repeat (refine sw_s hT rfl rfl ?_)
      refine sw_iald hT rfl rfl (in12 hj12) ?_
      rw [cl12 hj12, z8]
      have ha : apN x n (nI p) (j + 1) = if v = x.1 8 j then apN x n (nI p) j else apN x n (nI p) j + 1 := by rw [hv]; rfl
      refine sw_b hT rfl rfl (fun c1 => ?_) (fun c1 => ?_)
      · rw [if_pos c1] at ha
        have k := ih (j + 1) (by omega) z (fun k hk => by rw [hR8]; split; next q => rw [q, z8, c1]
                                                          next q => exact h1 k hk) h2
        rw [ha, ← nI_1] at k
        repeat (first | (refine sw_at (n := 37) rfl ?_; exact (sw_pick [0, 2, 3, 4] rfl k)) | refine sw_s hT rfl rfl ?_)
      · rw [if_neg c1] at ha
        repeat (refine sw_s hT rfl rfl ?_)
        refine sw_iast hT rfl rfl (in12 hj12) ?_
        rw [cl12 hj12]
        have k := ih (j + 1) (by omega) (u2 z.1 8 j v, z.2) (fun k hk => by
          show u2 z.1 8 j v 8 k = _
          rw [hR8]
          split
          · next q => rw [q, u2_at]
          · next q => rw [u2_k _ _ _ _ q]; exact h1 k hk) (fr_tr h2 (fr_wI (by decide)))
        rw [ha, ← nI_1, ← nI_1] at k
        repeat (first | (refine sw_at (n := 37) rfl ?_; exact (sw_pick [0, 1, 3, 4] rfl k)) | refine sw_s hT rfl rfl ?_)
  repeat (first | (refine sw_at (n := 37) rfl ?_; exact (K n 0 (by omega) y (fun k _ => by rw [e8]; rfl) fr_rf)) | refine sw_s hT rfl rfl ?_)
theorem f_simulate (Y : Kx) (x : Hp) (i c n k p : Nat) (dur : UInt64) (hU : US x i c) (hN : LNk x n k) (hp : p ≤ 100) (hd : inD dur 4562254508917369340 4696837146684686336) (okc : curOK x k (nI p)) (Q : Nat → UInt64 → Prop) (hQ : tmQ x (x.1 4 k) (curS x k (nI p)) dur Q) : sR Y mX6_simulate [.ref 0, .int (nI k), .int (nI p), .double dur] x (fun rr x' => rr = some (.int (x'.1 13 0)) ∧ ∃ K0 : Nat → Int32, (∀ j, j < 12 → K0 j = 0) ∧ x'.1 7 6 = (runC (x.1 4 k) (x.1 7 5) (x.1 12) (fun r => tfS x r (curS x k (nI p))) dur 37 0 (x.1 7 6) K0 [] 0).1 ∧ EV x' (runC (x.1 4 k) (x.1 7 5) (x.1 12) (fun r => tfS x r (curS x k (nI p))) dur 37 0 (x.1 7 6) K0 [] 0).2.1 ∧ x'.2.1 13 3 = (runC (x.1 4 k) (x.1 7 5) (x.1 12) (fun r => tfS x r (curS x k (nI p))) dur 37 0 (x.1 7 6) K0 [] 0).2.2 ∧ (∀ j, j ≠ 6 → x'.1 7 j = x.1 7 j) ∧ fr [7, 13, 14, 15, 78, 79, 80, 81, 82] (pushS x i c) x') := by
  refine sR_of (by decide +kernel) (Nat.le_of_ble_eq_true rfl) (fun X h hY hR => ?_)
  have hT := kX6_simulate h
  repeat (refine sw_s hT rfl rfl ?_)
  refine sw_cv0 hT rfl (c_reqLine _ x n k hN) rfl rfl rfl rfl (Nat.le_of_ble_eq_true rfl) ?_
  repeat (refine sw_s hT rfl rfl ?_)
  refine sw_cs0 hT rfl (c_reqPlace _ x p hp) rfl rfl (Nat.le_of_ble_eq_true rfl) ?_
  repeat (refine sw_s hT rfl rfl ?_)
  refine sw_cs hT rfl (c_withinD _ x dur _ _) rfl rfl (Nat.le_of_ble_eq_true rfl) ?_
  refine sw_b hT rfl rfl (fun c => absurd c ((hd))) (fun _ => ?_)
  repeat (refine sw_s hT rfl rfl ?_)
  refine sw_cv0 hT rfl (c_pushU _ x i c hU) rfl rfl rfl rfl (Nat.le_of_ble_eq_true rfl) ?_
  have e1 : ∀ j, j < 16 → (pushS x i c).1 j = x.1 j := fun j hj => push_o1 hU.1 (Or.inl hj)
  have e2 : ∀ j, j < 16 → (pushS x i c).2.1 j = x.2.1 j := fun j hj => push_o2 hU.1 (Or.inl hj)
  generalize pushS x i c = y at hR e1 e2 ⊢
  have cq : ∀ j, caS y k j = caS x k j := by
    intro j
    induction j with
    | zero => show y.2.1 2 1 = x.2.1 2 1; rw [e2 2 (by decide)]
    | succ j ih => unfold caS; rw [ih, e1 4 (by decide), e2 5 (by decide)]
  have ecur : curS y k (nI p) = curS x k (nI p) := by unfold curS zS; rw [cq, e2 2 (by decide), e2 5 (by decide)]
  have okz : curOK y k (nI p) := by
    obtain ⟨o1, o2, o3, o4, o5⟩ := okc
    refine ⟨fun j hj hb => ?_, by rw [e2 5 (by decide)]; exact o2, by rw [e2 5 (by decide)]; exact o3, ?_, by rw [ecur]; exact o5⟩
    · rw [cq, e2 5 (by decide)]; exact o1 j hj (by rw [← e1 4 (by decide)]; exact hb)
    · have : zS y k (nI p) = zS x k (nI p) := by unfold zS; rw [cq, e2 5 (by decide)]
      rw [this]; exact o4
  have et : ∀ r cur, tfS y r cur = tfS x r cur := fun r cur => tfS_eq (e1 8 (by decide)) (e1 9 (by decide)) (e1 10 (by decide)) (e1 11 (by decide))
  have hQ2 : tmQ y (y.1 4 k) (curS y k (nI p)) dur Q := by
    rw [ecur, e1 4 (by decide)]
    refine ⟨hQ.1, fun j t h1 h2 => ?_⟩
    obtain ⟨h3, h4⟩ := hQ.2 j t h1 h2
    refine ⟨rdOK_eq (e1 8 (by decide)) (e1 9 (by decide)) (e1 10 (by decide)) (e1 11 (by decide)) h3, ?_⟩
    simp only [et]
    rw [e1 7 (by decide), e1 12 (by decide)]
    exact h4
  repeat (refine sw_s hT rfl rfl ?_)
  refine sw_cvR hT rfl (c_run _ y k (nI p) dur (by have := hN.2; omega) okz Q hQ2) rfl rfl rfl rfl (Nat.le_of_ble_eq_true rfl) ?_
  simp only [ecur, et]
  rw [e1 4 (by decide), e1 7 (by decide), e1 12 (by decide)]
  rintro _ z ⟨rfl, K0, z0, z1, z2, z3, z4, z5⟩
  show SW X mX6_simulate 57 _ [] z
  repeat (refine sw_s hT rfl rfl ?_)
  refine sw_iretP hT rfl rfl rfl hR ?_
  exact ⟨rfl, K0, z0, z1, z2, z3, z4, z5⟩
