/-! fill, reset, run -/
theorem c_fill (Y : Kx) (x : Hp) (v : Int32) : sR Y mJ7_fill_53178 [.ref 82, .int v] x (fun rr x' => rr = none ∧ (∀ k, k < 12 → x'.1 82 k = v) ∧ fr [82] x x') := by
  refine sR_of (by decide +kernel) (Nat.le_of_ble_eq_true rfl) (fun X h hY hR => ?_)
  have hT := kJ7_fill_53178 h
  have K : ∀ d j, d + j = 12 → ∀ y, (∀ k, k < j → y.1 82 k = v) → fr [82] x y → SW X mJ7_fill_53178 5 [(2, .int (nI j)), (3, .int 12), (0, .ref 82), (1, .int v)] [] y := by
    intro d
    induction d with
    | zero =>
      intro j hj y h1 h2
      have hj12 : j = 12 := by omega
      subst hj12
      repeat (refine sw_s hT rfl rfl ?_)
      refine sw_b hT rfl rfl (fun _ => ?_) (fun c => absurd ((by decide)) c)
      refine sw_vretP hT rfl rfl hR ?_
      exact ⟨rfl, h1, h2⟩
    | succ d ih =>
      intro j hj y h1 h2
      have hj12 : j < 12 := by omega
      repeat (refine sw_s hT rfl rfl ?_)
      refine sw_b hT rfl rfl (fun c => absurd c ((nI_ge (b := 12) hj12 (by omega)))) (fun _ => ?_)
      repeat (refine sw_s hT rfl rfl ?_)
      refine sw_iast hT rfl rfl (in12 hj12) ?_
      rw [cl12 hj12]
      have k := ih (j + 1) (by omega) (u2 y.1 82 j v, y.2) (fun k hk => by
        show u2 y.1 82 j v 82 k = v
        by_cases q : k = j
        · rw [q, u2_at]
        · rw [u2_k _ _ _ _ q]; exact h1 k (by omega)) (fr_tr h2 (fr_wI (by decide)))
      rw [← nI_1] at k
      repeat (first | (refine sw_at (n := 5) rfl ?_; exact (k)) | refine sw_s hT rfl rfl ?_)
  have k0 := K 12 0 (by omega) x (fun k hk => absurd hk (by omega)) fr_rf
  repeat (first | (refine sw_at (n := 5) rfl ?_; exact (sw_pick [1, 0, 2, 3] rfl k0)) | refine sw_s hT rfl rfl ?_)
theorem c_reset (Y : Kx) (x : Hp) : sM Y mX0_reset [.ref 13] x none ((u2 x.1 13 0 0, u2 x.2.1 13 3 0, x.2.2)) := by
  refine sM_of (by decide +kernel) (Nat.le_of_ble_eq_true rfl) (fun X h hY hR => ?_)
  have hT := kX0_reset h
  repeat (refine sw_s hT rfl rfl ?_)
  exact sw_vret hT rfl rfl (hR)
def runC (m st : Int32) (sh : Nat → Int32) (o : Nat → UInt64) (dur : UInt64) : Nat → UInt64 → Int32 → (Nat → Int32) → Ev → UInt64 → Int32 × Ev × UInt64
  | 0, _, om, _, E, cl => (om, E, cl)
  | d + 1, t, om, K, E, cl => if m &&& om = 0 then (if cml t dur < 0 then
      let R := rdC m st sh o (fun r => FP.dadd t (o r)) om K E
      runC m st sh o dur d R.1 R.2.1 R.2.2.1 R.2.2.2.1 R.2.2.2.2 else (om, E, cl)) else (om, E, cl)
theorem runC_0 {m st : Int32} {sh : Nat → Int32} {o : Nat → UInt64} {dur t cl : UInt64} {d : Nat} {om : Int32} {K : Nat → Int32} {E : Ev} (h : ¬ m &&& om = 0) : runC m st sh o dur (d + 1) t om K E cl = (om, E, cl) := if_neg h
theorem runC_1 {m st : Int32} {sh : Nat → Int32} {o : Nat → UInt64} {dur t cl : UInt64} {d : Nat} {om : Int32} {K : Nat → Int32} {E : Ev} (h : m &&& om = 0) (h2 : ¬ cml t dur < 0) : runC m st sh o dur (d + 1) t om K E cl = (om, E, cl) := (if_pos h).trans (if_neg h2)
theorem runC_2 {m st : Int32} {sh : Nat → Int32} {o : Nat → UInt64} {dur t cl : UInt64} {d : Nat} {om : Int32} {K : Nat → Int32} {E : Ev} (h : m &&& om = 0) (h2 : cml t dur < 0) : runC m st sh o dur (d + 1) t om K E cl = runC m st sh o dur d (rdC m st sh o (fun r => FP.dadd t (o r)) om K E).1 (rdC m st sh o (fun r => FP.dadd t (o r)) om K E).2.1 (rdC m st sh o (fun r => FP.dadd t (o r)) om K E).2.2.1 (rdC m st sh o (fun r => FP.dadd t (o r)) om K E).2.2.2.1 (rdC m st sh o (fun r => FP.dadd t (o r)) om K E).2.2.2.2 := (if_pos h).trans (if_pos h2)
theorem rdOK_eq {x y : Hp} {m : Int32} {cur t : UInt64} (h8 : y.1 8 = x.1 8) (h9 : y.1 9 = x.1 9) (h10 : y.1 10 = x.1 10) (h11 : y.1 11 = x.1 11) (h : rdOK x m cur t) : rdOK y m cur t := by
  intro r h1 h2
  rw [tfS_eq h8 h9 h10 h11]
  exact ⟨(tfOK_eq h8 h9 h10).mpr (h r h1 h2).1, (h r h1 h2).2⟩
/-- times that the rounds come to, and what they need -/
def tmQ (x : Hp) (m : Int32) (cur dur : UInt64) (Q : Nat → UInt64 → Prop) : Prop := Q 0 0 ∧ ∀ i t, Q i t → cml t dur < 0 → rdOK x m cur t ∧ ∀ om K E, Q (i + 1) (rdC m (x.1 7 5) (x.1 12) (fun r => tfS x r cur) (fun r => FP.dadd t (tfS x r cur)) om K E).1
theorem c_run (Y : Kx) (x : Hp) (k : Nat) (p : Int32) (dur : UInt64) (hk : k < 12) (okc : curOK x k p) (Q : Nat → UInt64 → Prop) (hQ : tmQ x (x.1 4 k) (curS x k p) dur Q) : sR Y mX3_run [.ref 78, .ref 1, .int (nI k), .int p, .double dur] x (fun rr x' => rr = none ∧ ∃ K0 : Nat → Int32, (∀ j, j < 12 → K0 j = 0) ∧ x'.1 7 6 = (runC (x.1 4 k) (x.1 7 5) (x.1 12) (fun r => tfS x r (curS x k p)) dur 37 0 (x.1 7 6) K0 [] 0).1 ∧ EV x' (runC (x.1 4 k) (x.1 7 5) (x.1 12) (fun r => tfS x r (curS x k p)) dur 37 0 (x.1 7 6) K0 [] 0).2.1 ∧ x'.2.1 13 3 = (runC (x.1 4 k) (x.1 7 5) (x.1 12) (fun r => tfS x r (curS x k p)) dur 37 0 (x.1 7 6) K0 [] 0).2.2 ∧ (∀ j, j ≠ 6 → x'.1 7 j = x.1 7 j) ∧ fr [7, 13, 14, 15, 78, 79, 80, 81, 82] x x') := by
  refine sR_of (by decide +kernel) (Nat.le_of_ble_eq_true rfl) (fun X h hY hR => ?_)
  have hT := kX3_run h
  obtain ⟨m, hm⟩ : ∃ m, m = x.1 4 k := ⟨_, rfl⟩
  obtain ⟨cur, hcur⟩ : ∃ c, c = curS x k p := ⟨_, rfl⟩
  obtain ⟨o, ho⟩ : ∃ o : Nat → UInt64, o = fun r => tfS x r cur := ⟨_, rfl⟩
  rw [← hm, ← hcur, ← ho] at hR
  rw [← hm, ← hcur] at hQ
  obtain ⟨q0, q1⟩ := hQ
  repeat (refine sw_s hT rfl rfl ?_)
  refine sw_csR hT rfl (c_fill _ x 0) rfl rfl (Nat.le_of_ble_eq_true rfl) ?_
  rintro _ y ⟨rfl, y1, y2⟩
  show SW X mX3_run 8 _ [] y
  repeat (refine sw_s hT rfl rfl ?_)
  refine sw_cv0 hT rfl (c_reset _ y) rfl rfl rfl rfl (Nat.le_of_ble_eq_true rfl) ?_
  obtain ⟨z, hz⟩ : ∃ z : Hp, z = (u2 y.1 13 0 0, u2 y.2.1 13 3 0, y.2.2) := ⟨_, rfl⟩
  rw [← hz]
  have zf : fr [13, 82] x z := by rw [hz]; exact fr_tr (fr_mono y2 (by decide)) (fr_tr (fr_wI (by decide)) (fr_wD (by decide)))
  have zE : EV z [] := ⟨by rw [hz]; exact u2_at y.1 13 0 0, by decide, fun i c t hi => by cases hi⟩
  have z13 : z.2.1 13 3 = 0 := by rw [hz]; exact u2_at y.2.1 13 3 0
  have z82 : z.1 82 = y.1 82 := by
    rw [hz]
    show u2 y.1 13 0 0 82 = y.1 82
    exact u2_ne (by decide)
  have cq : ∀ j, caS z k j = caS x k j := by
    intro j
    induction j with
    | zero => show z.2.1 2 1 = x.2.1 2 1; rw [zf.2.1 2 (by decide)]
    | succ j ih => unfold caS; rw [ih, zf.1 4 (by decide), zf.2.1 5 (by decide)]
  have ecur : curS z k p = curS x k p := by unfold curS zS; rw [cq, zf.2.1 2 (by decide), zf.2.1 5 (by decide)]
  have okz : curOK z k p := by
    obtain ⟨o1, o2, o3, o4, o5⟩ := okc
    refine ⟨fun j hj hb => ?_, by rw [zf.2.1 5 (by decide)]; exact o2, by rw [zf.2.1 5 (by decide)]; exact o3, ?_, by rw [ecur]; exact o5⟩
    · rw [cq, zf.2.1 5 (by decide)]; exact o1 j hj (by rw [← zf.1 4 (by decide)]; exact hb)
    · have : zS z k p = zS x k p := by unfold zS; rw [cq, zf.2.1 5 (by decide)]
      rw [this]; exact o4
  repeat (refine sw_s hT rfl rfl ?_)
  refine sw_iald hT rfl rfl (in12 hk) ?_
  rw [cl12 hk, zf.1 4 (by decide), ← hm]
  repeat (refine sw_s hT rfl rfl ?_)
  refine sw_cv hT rfl (c_currentAt _ z k p hk okz) rfl rfl rfl rfl (Nat.le_of_ble_eq_true rfl) ?_
  rw [ecur, ← hcur]
  have K : ∀ d j, d + j = 37 → ∀ (y : Hp) (t : UInt64) (E : Ev) (Kc : Nat → Int32) (cl : UInt64), Q j t → EV y E → y.2.1 13 3 = cl → y.1 82 = Kc → (∀ i, i ≠ 6 → y.1 7 i = x.1 7 i) → fr [7, 13, 14, 15, 78, 79, 80, 81, 82] x y → (∃ K0 : Nat → Int32, (∀ i, i < 12 → K0 i = 0) ∧ runC m (x.1 7 5) (x.1 12) o dur 37 0 (x.1 7 6) K0 [] 0 = runC m (x.1 7 5) (x.1 12) o dur d t (y.1 7 6) Kc E cl) → SW X mX3_run 43 [(11, .int (nI j)), (9, .double t), (7, .double cur), (6, .int m), (0, .ref 78), (1, .ref 1), (2, .int (nI k)), (3, .int p), (4, .double dur)] [] y := by
    intro d
    induction d with
    | zero =>
      intro j hj y t E Kc cl hQ h1 h2 h3 h4 h5 ⟨K0, h6, h7⟩
      have hj37 : j = 37 := by omega
      subst hj37
      repeat (refine sw_s hT rfl rfl ?_)
      refine sw_b hT rfl rfl (fun _ => ?_) (fun c => absurd ((by decide)) c)
      refine sw_vretP hT rfl rfl hR ?_
      refine ⟨rfl, K0, h6, ?_⟩
      rw [h7]
      exact ⟨rfl, h1, h2, h4, h5⟩
    | succ d ih =>
      intro j hj y t E Kc cl hQj h1 h2 h3 h4 h5 ⟨K0, h6, h7⟩
      repeat (refine sw_s hT rfl rfl ?_)
      refine sw_b hT rfl rfl (fun c => absurd c ((nI_ge (b := 37) (by omega) (by omega)))) (fun _ => ?_)
      repeat (refine sw_s hT rfl rfl ?_)
      have ev : fks y 7 6 0 = .int (y.1 7 6) := rfl
      refine sw_b hT rfl rfl (fun c1 => ?_) (fun c1 => ?_)
      · repeat (refine sw_s hT rfl rfl ?_)
        refine sw_b hT rfl rfl (fun c2 => ?_) (fun c2 => ?_)
        · have hp : cml t dur < 0 := c2
          rw [runC_2 (om := y.1 7 6) c1 hp] at h7
          obtain ⟨r1, r2⟩ := q1 j t hQj hp
          have hrd : rdS y m cur t E = rdC m (x.1 7 5) (x.1 12) o (fun r => FP.dadd t (o r)) (y.1 7 6) Kc E := by
            have ht : ∀ r, tfS y r cur = tfS x r cur := fun r => tfS_eq (h5.1 8 (by decide)) (h5.1 9 (by decide)) (h5.1 10 (by decide)) (h5.1 11 (by decide))
            unfold rdS
            rw [h4 5 (by decide), h5.1 12 (by decide), h3, ho]
            simp only [ht]
          repeat (refine sw_s hT rfl rfl ?_)
          refine sw_cvR hT rfl (c_playRound _ y m cur t E h1 (rdOK_eq (h5.1 8 (by decide)) (h5.1 9 (by decide)) (h5.1 10 (by decide)) (h5.1 11 (by decide)) r1)) rfl rfl rfl rfl (Nat.le_of_ble_eq_true rfl) ?_
          rw [hrd]
          intro rr w hw
          have q2 := r2 (y.1 7 6) Kc E
          rw [show (fun r => tfS x r cur) = o from ho.symm, show (fun r => FP.dadd t (tfS x r cur)) = (fun r => FP.dadd t (o r)) by rw [ho]] at q2
          generalize rdC m (x.1 7 5) (x.1 12) o (fun r => FP.dadd t (o r)) (y.1 7 6) Kc E = R at hw q2 h7
          obtain ⟨rfl, w1, w2, w3, w4, w5, w6⟩ := hw
          show SW X mX3_run 83 _ [_] w
          have kk := ih (j + 1) (by omega) w R.1 R.2.2.2.1 R.2.2.1 R.2.2.2.2 q2 w4 w5 w3 (fun i hi => by rw [w2 i hi, h4 i hi]) (fr_tr h5 w6) ⟨K0, h6, by rw [h7, w1]⟩
          rw [← nI_1] at kk
          repeat (first | (refine sw_at (n := 43) rfl ?_; exact (kk)) | refine sw_s hT rfl rfl ?_)
        · rw [runC_1 (om := y.1 7 6) c1 (show ¬ cml t dur < 0 from c2)] at h7
          refine sw_vretP hT rfl rfl hR ?_
          refine ⟨rfl, K0, h6, ?_⟩
          rw [h7]
          exact ⟨rfl, h1, h2, h4, h5⟩
      · rw [runC_0 (om := y.1 7 6) c1] at h7
        refine sw_vretP hT rfl rfl hR ?_
        refine ⟨rfl, K0, h6, ?_⟩
        rw [h7]
        exact ⟨rfl, h1, h2, h4, h5⟩
  have k0 := K 37 0 (by omega) z 0 [] (z.1 82) 0 q0 zE z13 rfl (fun i _ => by rw [zf.1 7 (by decide)]) (fr_mono zf (by decide)) ⟨z.1 82, fun i hi => by rw [z82]; exact y1 i hi, by rw [zf.1 7 (by decide)]⟩
  repeat (first | (refine sw_at (n := 43) rfl ?_; exact (k0)) | refine sw_s hT rfl rfl ?_)
