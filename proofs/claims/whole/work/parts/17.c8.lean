/-! taking the trips, opening, reclosing -/
def jmS (x : Hp) (r : Nat) : Prop := ¬ (x.1 7 5 >>> (nI r &&& 31)) &&& 1 = 0
def OPl (x : Hp) (O : List Nat) : Prop := x.1 78 4 = nI O.length ∧ ∀ (i e : Nat), O[i]? = some e → x.1 81 i = nI e
/-- the trips L taken one after the other: c the clearing time, O what opens, E the events -/
def tkC (T : Nat → UInt64) (st : Int32) : List Nat → UInt64 → List Nat → Ev → List Nat × Ev
  | [], _, O, E => (O, E)
  | r :: L, c, O, E => if cmg (T r) c < 0 then (if (st >>> (nI r &&& 31)) &&& 1 = 0 then tkC T st L (FP.dadd (T ((O ++ [r]).headD 0)) 4588807732320345784) (O ++ [r]) (evA E (nI r) (T r)) else tkC T st L c O (evA (evA E (nI r) (T r)) (100 + nI r) (T r))) else (O, E)
theorem c_takeTrips (Y : Kx) (x : Hp) (L : List Nat) (E : Ev) (hL : LU x L) (hm : ∀ e, e ∈ L → e < 12) (hlen : L.length ≤ 12) (hE : EV x E) (ok : ∀ e, e ∈ L → vf_n64 (FP.dadd (x.2.1 80 e) 4588807732320345784)) : sR Y mX3_takeTrips [.ref 78, .ref 7, .ref 13] x (fun rr x' => rr = none ∧ OPl x' (tkC (x.2.1 80) (x.1 7 5) L 9218868437227405312 [] E).1 ∧ EV x' (tkC (x.2.1 80) (x.1 7 5) L 9218868437227405312 [] E).2 ∧ fr [78, 81, 13, 14, 15] x x' ∧ x'.1 78 1 = x.1 78 1 ∧ x'.2.1 13 = x.2.1 13) := by
  refine sR_of (by decide +kernel) (Nat.le_of_ble_eq_true rfl) (fun X h hY hR => ?_)
  have hT := kX3_takeTrips h
  obtain ⟨T, hTT⟩ : ∃ T : Nat → UInt64, T = x.2.1 80 := ⟨_, rfl⟩
  obtain ⟨st, hst⟩ : ∃ st : Int32, st = x.1 7 5 := ⟨_, rfl⟩
  rw [← hTT, ← hst] at hR
  rw [← hTT] at ok
  have K : ∀ (B A : List Nat), A ++ B = L → ∀ (y : Hp) (c : UInt64) (O : List Nat) (F : Ev), OPl y O → O.length ≤ A.length → (∀ e, e ∈ O → e ∈ L) → EV y F → fr [78, 81, 13, 14, 15] x y → y.1 78 1 = x.1 78 1 → y.2.1 13 = x.2.1 13 → tkC T st L 9218868437227405312 [] E = tkC T st B c O F → SW X mX3_takeTrips 12 [(5, .int (nI A.length)), (3, .double c), (0, .ref 78), (1, .ref 7), (2, .ref 13)] [] y := by
    intro B
    induction B with
    | nil =>
      intro A hA y c O F h1 hOA hOm h2 h3 h4 h5 he
      have hAL : A.length = L.length := by rw [← hA]; simp
      have e1 : y.1 78 1 = nI A.length := by rw [h4, hL.1, hAL]
      repeat (refine sw_s hT rfl rfl ?_)
      refine sw_b hT rfl rfl (fun _ => ?_) (fun c => absurd ((by show y.1 78 1 ≤ _; rw [e1]; exact Int32.le_refl _)) c)
      refine sw_vretP hT rfl rfl hR ?_
      rw [he]
      exact ⟨rfl, h1, h2, h3, h4, h5⟩
    | cons r B ih =>
      intro A hA y c O F h1 hOA hOm h2 h3 h4 h5 he
      have hAL : A.length < L.length := by rw [← hA]; simp
      have hA12 : A.length < 12 := by omega
      have e1 : y.1 78 1 = nI L.length := by rw [h4, hL.1]
      have hrL : L[A.length]? = some r := by rw [← hA, List.getElem?_append_right (Nat.le_refl _), Nat.sub_self]; rfl
      have hrm : r ∈ L := List.mem_of_getElem? hrL
      have hr : r < 12 := hm r hrm
      have e79 : y.1 79 A.length = nI r := by rw [h3.1 79 (by decide)]; exact hL.2 _ _ hrL
      have e80 : y.2.1 80 = T := by rw [h3.2.1 80 (by decide), hTT]
      have e7 : y.1 7 5 = st := by rw [h3.1 7 (by decide), hst]
      have hk : ∀ q : Nat, (A ++ [r]).length = A.length + 1 := fun _ => by simp
      have hA1 : (A ++ [r]) ++ B = L := by rw [← hA]; simp
      repeat (refine sw_s hT rfl rfl ?_)
      refine sw_b hT rfl rfl (fun c => absurd c ((by show ¬ y.1 78 1 ≤ _; rw [e1]; exact nI_ge (by omega) (by omega)))) (fun _ => ?_)
      repeat (refine sw_s hT rfl rfl ?_)
      refine sw_iald hT rfl rfl (in12 hA12) ?_
      rw [cl12 hA12, e79]
      refine sw_dald hT rfl rfl (in12 hr) ?_
      rw [cl12 hr, e80]
      repeat (refine sw_s hT rfl rfl ?_)
      refine sw_b hT rfl rfl (fun c1 => ?_) (fun c1 => ?_)
      · have hn : ¬ cmg (T r) c < 0 := Int32.not_lt.mpr c1
        rw [tkC, if_neg hn] at he
        refine sw_vretP hT rfl rfl hR ?_
        rw [he]
        exact ⟨rfl, h1, h2, h3, h4, h5⟩
      · have hp : cmg (T r) c < 0 := Int32.not_le.mp c1
        rw [tkC, if_pos hp] at he
        repeat (refine sw_s hT rfl rfl ?_)
        refine sw_iald hT rfl rfl (in12 hA12) ?_
        rw [cl12 hA12, e79]
        repeat (refine sw_s hT rfl rfl ?_)
        refine sw_dald hT rfl rfl (in12 hr) ?_
        rw [cl12 hr, e80]
        refine sw_cvR hT rfl (c_put _ y F 0 (nI r) (T r) h2) rfl rfl rfl rfl (Nat.le_of_ble_eq_true rfl) ?_
        rintro _ z ⟨rfl, z1, z2, z3⟩
        rw [show (100 * 0 + nI r : Int32) = nI r by rw [show (100 * 0 : Int32) = nI 0 by decide, nI_add, Nat.zero_add]] at z1
        have zf : fr [78, 81, 13, 14, 15] x z := fr_tr h3 (fr_mono z2 (by decide))
        have z78 : z.1 78 = y.1 78 := z2.1 78 (by decide)
        have z81 : z.1 81 = y.1 81 := z2.1 81 (by decide)
        have ze7 : z.1 7 5 = st := by rw [zf.1 7 (by decide), hst]
        have ze80 : z.2.1 80 = T := by rw [zf.2.1 80 (by decide), hTT]
        have zO : OPl z O := ⟨by rw [z78]; exact h1.1, fun i e hi => by rw [z81]; exact h1.2 i e hi⟩
        show SW X mX3_takeTrips 61 _ [] z
        repeat (refine sw_s hT rfl rfl ?_)
        refine sw_cv hT rfl (c_isStuck _ z (nI r)) rfl rfl rfl rfl (Nat.le_of_ble_eq_true rfl) ?_
        rw [ze7]
        refine sw_b hT rfl rfl (fun c2 => ?_) (fun c2 => ?_)
        · have c3 : (st >>> (nI r &&& 31)) &&& 1 = 0 := Decidable.byContradiction (bI_0.mp c2)
          rw [if_pos c3] at he
          have hO12 : O.length < 12 := by omega
          repeat (refine sw_s hT rfl rfl ?_)
          rw [show fks z 78 4 0 = .int (nI O.length) from congrArg Value.int zO.1]
          repeat (refine sw_s hT rfl rfl ?_)
          refine sw_iast hT rfl rfl (in12 hO12) ?_
          rw [cl12 hO12]
          repeat (refine sw_s hT rfl rfl ?_)
          have hO2 : ∀ i e : Nat, (O ++ [r])[i]? = some e → u2 z.1 81 O.length (nI r) 81 i = nI e := by
            intro i e hi
            rcases Nat.lt_or_ge i O.length with q | q
            · rw [List.getElem?_append_left q] at hi
              rw [u2_k _ _ _ _ (by omega)]
              exact zO.2 i e hi
            · rw [List.getElem?_append_right q] at hi
              have hq : i = O.length := by
                have := (List.getElem?_eq_some_iff.mp hi).1
                simp only [List.length_cons, List.length_nil] at this
                omega
              subst hq
              rw [Nat.sub_self] at hi
              cases hi
              exact u2_at _ _ _ _
          obtain ⟨f, hf⟩ : ∃ f, f = (O ++ [r]).headD 0 := ⟨_, rfl⟩
          have hf0 : (O ++ [r])[0]? = some f := by rw [hf]; cases O <;> rfl
          have hfL : f ∈ L := by
            rcases List.mem_append.mp (List.mem_of_getElem? hf0) with q | q
            · exact hOm f q
            · rw [List.mem_singleton.mp q]; exact hrm
          have hf12 : f < 12 := hm f hfL
          obtain ⟨w, hw⟩ : ∃ w : Hp, w = (u2 (u2 z.1 81 O.length (nI r)) 78 4 (u2 z.1 81 O.length (nI r) 78 4 + 1), z.2) := ⟨_, rfl⟩
          rw [← hw]
          have w81 : w.1 81 = u2 z.1 81 O.length (nI r) 81 := by
            rw [hw]
            show u2 (u2 z.1 81 O.length (nI r)) 78 4 (u2 z.1 81 O.length (nI r) 78 4 + 1) 81 = _
            exact u2_ne (by decide)
          have wO : OPl w (O ++ [r]) := by
            refine ⟨?_, fun i e hi => by rw [w81]; exact hO2 i e hi⟩
            rw [hw]
            show u2 (u2 z.1 81 O.length (nI r)) 78 4 (u2 z.1 81 O.length (nI r) 78 4 + 1) 78 4 = _
            rw [u2_at, u2_ne (by decide), zO.1, nI_1, List.length_append]
            rfl
          have wf : fr [78, 81] z w := by rw [hw]; exact fr_tr (fr_wI (by decide)) (fr_wI (by decide))
          have w1 : w.1 78 1 = x.1 78 1 := by
            rw [hw]
            show u2 (u2 z.1 81 O.length (nI r)) 78 4 (u2 z.1 81 O.length (nI r) 78 4 + 1) 78 1 = _
            rw [u2_k _ _ _ _ (by decide), u2_ne (by decide), z78, h4]
          have wd : w.2 = z.2 := by rw [hw]
          refine sw_iald hT rfl rfl (in12 (by omega : 0 < 12)) ?_
          rw [show (0 : Int32).toNatClampNeg = 0 by decide, wO.2 0 f hf0]
          repeat (refine sw_s hT rfl rfl ?_)
          refine sw_cv hT rfl (c_openingTime _ w f hf12 (by rw [wd, ze80]; exact ok f hfL)) rfl rfl rfl rfl (Nat.le_of_ble_eq_true rfl) ?_
          rw [show w.2.1 80 f = T f by rw [wd, ze80]]
          have k := ih (A ++ [r]) hA1 w (FP.dadd (T f) 4588807732320345784) (O ++ [r]) (evA F (nI r) (T r)) wO (by rw [List.length_append, List.length_append]; simp only [List.length_cons, List.length_nil]; omega) (fun e he => (List.mem_append.mp he).elim (hOm e) (fun q => by rw [List.mem_singleton.mp q]; exact hrm)) (EV_fr z1 wf (by decide)) (fr_tr zf (fr_mono wf (by decide))) w1 (by rw [wd, z3, h5]) (by rw [he, hf])
          rw [hk 0, ← nI_1] at k
          refine sw_s hT rfl rfl ?_
          refine sw_s hT rfl rfl ?_
          refine sw_s hT rfl rfl ?_
          exact sw_pick [0, 1, 3, 4, 5] rfl k
        · have c3 : ¬ (st >>> (nI r &&& 31)) &&& 1 = 0 := fun q => c2 (bI_0.mpr (fun h => h q))
          rw [if_neg c3] at he
          repeat (refine sw_s hT rfl rfl ?_)
          refine sw_dald hT rfl rfl (in12 hr) ?_
          rw [cl12 hr, ze80]
          refine sw_cvR hT rfl (c_put _ z (evA F (nI r) (T r)) 1 (nI r) (T r) z1) rfl rfl rfl rfl (Nat.le_of_ble_eq_true rfl) ?_
          rintro _ w ⟨rfl, w1, w2, w3⟩
          rw [show (100 * 1 + nI r : Int32) = 100 + nI r by rw [show (100 * 1 : Int32) = 100 by decide]] at w1
          have k := ih (A ++ [r]) hA1 w c O (evA (evA F (nI r) (T r)) (100 + nI r) (T r)) ⟨by rw [w2.1 78 (by decide)]; exact zO.1, fun i e hi => by rw [w2.1 81 (by decide)]; exact zO.2 i e hi⟩ (by rw [List.length_append]; omega) hOm w1 (fr_tr zf (fr_mono w2 (by decide))) (by rw [w2.1 78 (by decide), z78, h4]) (by rw [w3, z3, h5]) he
          rw [hk 0, ← nI_1] at k
          show SW X mX3_takeTrips 84 _ [] w
          repeat (first | (refine sw_at (n := 12) rfl ?_; exact (sw_pick [0, 2, 3, 4, 5] rfl k)) | refine sw_s hT rfl rfl ?_)
  repeat (refine sw_s hT rfl rfl ?_)
  refine sw_cs hT rfl (c_infinity _ (u2 x.1 78 4 0, x.2)) rfl rfl (Nat.le_of_ble_eq_true rfl) ?_
  have k0 := K L [] rfl (u2 x.1 78 4 0, x.2) 9218868437227405312 [] E ⟨(u2_at _ _ _ _ : u2 x.1 78 4 0 78 4 = 0).trans (by decide : (0 : Int32) = nI 0), fun i e hi => by cases hi⟩ (Nat.le_refl _) (fun e he => by cases he) (EV_fr hE (fr_wI (S := [78]) (by decide)) (by decide)) (fr_wI (by decide)) (u2_k x.1 78 4 0 (by decide : 1 ≠ 4)) rfl rfl
  repeat (first | (refine sw_at (n := 12) rfl ?_; exact (k0)) | refine sw_s hT rfl rfl ?_)
