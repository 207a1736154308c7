/-! opening, reclosing, a round -/
def opE (T : Nat → UInt64) : List Nat → Ev → Ev
  | [], E => E
  | r :: O, E => opE T O (evA E (200 + nI r) (FP.dadd (T r) 4588807732320345784))
def opM : List Nat → Int32 → Int32
  | [], m => m
  | r :: O, m => opM O (m ||| (1 <<< (nI r &&& 31)))
def opK : List Nat → (Nat → Int32) → Nat → Int32
  | [], K => K
  | r :: O, K => opK O (vf_upd K r (K r + 1))
theorem c_openThem (Y : Kx) (x : Hp) (O : List Nat) (E : Ev) (hO : OPl x O) (hm : ∀ e, e ∈ O → e < 12) (hlen : O.length ≤ 12) (hE : EV x E) (ok : ∀ e, e ∈ O → vf_n64 (FP.dadd (x.2.1 80 e) 4588807732320345784)) : sR Y mX3_openThem [.ref 78, .ref 7, .ref 13] x (fun rr x' => rr = none ∧ EV x' (opE (x.2.1 80) O E) ∧ x'.1 7 6 = opM O (x.1 7 6) ∧ (∀ k, k ≠ 6 → x'.1 7 k = x.1 7 k) ∧ x'.1 82 = opK O (x.1 82) ∧ fr [7, 82, 13, 14, 15] x x' ∧ x'.2.1 13 = x.2.1 13) := by
  refine sR_of (by decide +kernel) (Nat.le_of_ble_eq_true rfl) (fun X h hY hR => ?_)
  have hT := kX3_openThem h
  obtain ⟨T, hTT⟩ : ∃ T : Nat → UInt64, T = x.2.1 80 := ⟨_, rfl⟩
  rw [← hTT] at hR ok
  have K : ∀ (B A : List Nat), A ++ B = O → ∀ (y : Hp) (F : Ev), EV y F → (∀ k, k ≠ 6 → y.1 7 k = x.1 7 k) → fr [7, 82, 13, 14, 15] x y → y.2.1 13 = x.2.1 13 → opE T O E = opE T B F → opM O (x.1 7 6) = opM B (y.1 7 6) → opK O (x.1 82) = opK B (y.1 82) → SW X mX3_openThem 2 [(3, .int (nI A.length)), (0, .ref 78), (1, .ref 7), (2, .ref 13)] [] y := by
    intro B
    induction B with
    | nil =>
      intro A hA y F h2 h7 h3 h5 e1 e2 e3
      have hAL : A.length = O.length := by rw [← hA]; simp
      have h4 : y.1 78 4 = nI A.length := by rw [h3.1 78 (by decide), hO.1, hAL]
      repeat (refine sw_s hT rfl rfl ?_)
      refine sw_b hT rfl rfl (fun _ => ?_) (fun c => absurd ((by show y.1 78 4 ≤ _; rw [h4]; exact Int32.le_refl _)) c)
      refine sw_vretP hT rfl rfl hR ?_
      exact ⟨rfl, by rw [e1]; exact h2, e2.symm, h7, e3.symm, h3, h5⟩
    | cons r B ih =>
      intro A hA y F h2 h7 h3 h5 e1 e2 e3
      have hAL : A.length < O.length := by rw [← hA]; simp
      have hA12 : A.length < 12 := by omega
      have h4 : y.1 78 4 = nI O.length := by rw [h3.1 78 (by decide), hO.1]
      have hrL : O[A.length]? = some r := by rw [← hA, List.getElem?_append_right (Nat.le_refl _), Nat.sub_self]; rfl
      have hrm : r ∈ O := List.mem_of_getElem? hrL
      have hr : r < 12 := hm r hrm
      have e81 : y.1 81 A.length = nI r := by rw [h3.1 81 (by decide)]; exact hO.2 _ _ hrL
      have e80 : y.2.1 80 = T := by rw [h3.2.1 80 (by decide), hTT]
      have hA1 : (A ++ [r]) ++ B = O := by rw [← hA]; simp
      have hlA : (A ++ [r]).length = A.length + 1 := by simp
      repeat (refine sw_s hT rfl rfl ?_)
      refine sw_b hT rfl rfl (fun c => absurd c ((by show ¬ y.1 78 4 ≤ _; rw [h4]; exact nI_ge (by omega) (by omega)))) (fun _ => ?_)
      repeat (refine sw_s hT rfl rfl ?_)
      refine sw_iald hT rfl rfl (in12 hA12) ?_
      rw [cl12 hA12, e81]
      repeat (refine sw_s hT rfl rfl ?_)
      refine sw_cv hT rfl (c_openingTime _ y r hr (by rw [e80]; exact ok r hrm)) rfl rfl rfl rfl (Nat.le_of_ble_eq_true rfl) ?_
      rw [e80]
      repeat (refine sw_s hT rfl rfl ?_)
      refine sw_cvR hT rfl (c_put _ y F 2 (nI r) (FP.dadd (T r) 4588807732320345784) h2) rfl rfl rfl rfl (Nat.le_of_ble_eq_true rfl) ?_
      rintro _ z ⟨rfl, z1, z2, z3⟩
      rw [show (100 * 2 + nI r : Int32) = 200 + nI r by rw [show (100 * 2 : Int32) = 200 by decide]] at z1
      have z7 : z.1 7 = y.1 7 := z2.1 7 (by decide)
      have z82 : z.1 82 = y.1 82 := z2.1 82 (by decide)
      show SW X mX3_openThem 31 _ [] z
      repeat (refine sw_s hT rfl rfl ?_)
      refine sw_iald hT rfl rfl (in12 hr) ?_
      rw [cl12 hr]
      repeat (refine sw_s hT rfl rfl ?_)
      refine sw_iast hT rfl rfl (in12 hr) ?_
      rw [cl12 hr]
      obtain ⟨w, hw⟩ : ∃ w : Hp, w = (u2 (u2 z.1 7 6 (z.1 7 6 ||| 1 <<< (nI r &&& 31))) 82 r (u2 z.1 7 6 (z.1 7 6 ||| 1 <<< (nI r &&& 31)) 82 r + 1), z.2) := ⟨_, rfl⟩
      have wf : fr [7, 82] z w := by rw [hw]; exact fr_tr (fr_wI (by decide)) (fr_wI (by decide))
      have k := ih (A ++ [r]) hA1 w (evA F (200 + nI r) (FP.dadd (T r) 4588807732320345784)) (EV_fr z1 wf (by decide)) (fun k hk => by
          rw [hw]
          show u2 (u2 z.1 7 6 (z.1 7 6 ||| 1 <<< (nI r &&& 31))) 82 r (u2 z.1 7 6 (z.1 7 6 ||| 1 <<< (nI r &&& 31)) 82 r + 1) 7 k = _
          rw [u2_ne (by decide), u2_k _ _ _ _ hk, z7, h7 k hk]) (fr_tr h3 (fr_tr (fr_mono z2 (by decide)) (fr_mono wf (by decide)))) (by rw [hw, z3, h5]) (by rw [e1]; rfl) (by
          rw [e2, hw]
          show opM B (y.1 7 6 ||| 1 <<< (nI r &&& 31)) = opM B (u2 (u2 z.1 7 6 (z.1 7 6 ||| 1 <<< (nI r &&& 31))) 82 r (u2 z.1 7 6 (z.1 7 6 ||| 1 <<< (nI r &&& 31)) 82 r + 1) 7 6)
          rw [u2_ne (by decide), u2_at, z7]) (by
          rw [e3, hw]
          show opK B (vf_upd (y.1 82) r (y.1 82 r + 1)) = opK B (u2 (u2 z.1 7 6 (z.1 7 6 ||| 1 <<< (nI r &&& 31))) 82 r (u2 z.1 7 6 (z.1 7 6 ||| 1 <<< (nI r &&& 31)) 82 r + 1) 82)
          rw [u2_self, u2_ne (by decide), z82])
      rw [← hw]
      rw [hlA, ← nI_1] at k
      repeat (first | (refine sw_at (n := 2) rfl ?_; exact (sw_pick [0, 2, 3, 4] rfl k)) | refine sw_s hT rfl rfl ?_)
  have k0 := K O [] rfl x E hE (fun _ _ => rfl) fr_rf rfl rfl rfl rfl
  repeat (first | (refine sw_at (n := 2) rfl ?_; exact (k0)) | refine sw_s hT rfl rfl ?_)
def rlO (O : List Nat) : Nat := (O.drop 1).foldl Nat.max (O.headD 0)
theorem nI_max {a b : Nat} (ha : a < 12) (hb : b < 12) : (if nI a < nI b then nI b else nI a) = nI (Nat.max a b) := by
  by_cases h : a < b
  · rw [if_pos (nI_lt h (by omega))]
    exact congrArg nI (Nat.max_eq_right (by omega)).symm
  · rw [if_neg (Int32.not_lt.mpr (nI_le (by omega) (by omega)))]
    exact congrArg nI (Nat.max_eq_left (by omega)).symm
theorem fold_max_lt : ∀ (B : List Nat) (a : Nat), a < 12 → (∀ e, e ∈ B → e < 12) → B.foldl Nat.max a < 12
  | [], _, h, _ => h
  | b :: B, a, h, hb => fold_max_lt B (Nat.max a b) (Nat.max_lt.mpr ⟨h, hb b List.mem_cons_self⟩) (fun e he => hb e (List.mem_cons_of_mem _ he))
def rcP (x : Hp) (E : Ev) (l : Nat) : Po := fun rr x' => if x.1 82 l ≤ x.1 12 l then rr = some (.double (FP.dadd (FP.dadd (x.2.1 80 l) 4588807732320345784) 4602678819172646912)) ∧ EV x' (evA E (300 + nI l) (FP.dadd (FP.dadd (x.2.1 80 l) 4588807732320345784) 4602678819172646912)) ∧ x'.1 7 6 = x.1 7 6 &&& ((1 <<< (nI l &&& 31)) ^^^ -1) ∧ (∀ k, k ≠ 6 → x'.1 7 k = x.1 7 k) ∧ fr [7, 13, 14, 15] x x' ∧ x'.2.1 13 = x.2.1 13 else rr = some (.double 9218868437227405312) ∧ x' = x
theorem c_reclose (Y : Kx) (x : Hp) (O : List Nat) (E : Ev) (hO : OPl x O) (hm : ∀ e, e ∈ O → e < 12) (hlen : O.length ≤ 12) (h0 : O ≠ []) (hE : EV x E) (ok : vf_n64 (FP.dadd (x.2.1 80 (rlO O)) 4588807732320345784) ∧ vf_n64 (FP.dadd (FP.dadd (x.2.1 80 (rlO O)) 4588807732320345784) 4602678819172646912)) : sR Y mX3_reclose [.ref 78, .ref 7, .ref 13] x (rcP x E (rlO O)) := by
  refine sR_of (by decide +kernel) (Nat.le_of_ble_eq_true rfl) (fun X h hY hR => ?_)
  have hT := kX3_reclose h
  obtain ⟨f, P, hfP⟩ : ∃ f P, O = f :: P := by
    cases O with
    | nil => exact absurd rfl h0
    | cons f P => exact ⟨f, P, rfl⟩
  have hf12 : f < 12 := hm f (by rw [hfP]; exact List.mem_cons_self)
  have hPm : ∀ e, e ∈ P → e < 12 := fun e he => hm e (by rw [hfP]; exact List.mem_cons_of_mem _ he)
  have hrl : rlO O = P.foldl Nat.max f := by rw [hfP]; rfl
  have hl12 : rlO O < 12 := by rw [hrl]; exact fold_max_lt P f hf12 hPm
  have fin : SW X mX3_reclose 37 [(3, .int (nI (rlO O))), (0, .ref 78), (1, .ref 7), (2, .ref 13)] [] x := by
    generalize rlO O = l at hl12 ok hR ⊢
    unfold rcP at hR
    repeat (refine sw_s hT rfl rfl ?_)
    refine sw_iald hT rfl rfl (in12 hl12) ?_
    rw [cl12 hl12]
    repeat (refine sw_s hT rfl rfl ?_)
    refine sw_iald hT rfl rfl (in12 hl12) ?_
    rw [cl12 hl12]
    refine sw_b hT rfl rfl (fun c1 => ?_) (fun c1 => ?_)
    · simp only [if_pos c1] at hR
      repeat (refine sw_s hT rfl rfl ?_)
      refine sw_cv hT rfl (c_openingTime _ x l hl12 ok.1) rfl rfl rfl rfl (Nat.le_of_ble_eq_true rfl) ?_
      repeat (refine sw_s hT rfl rfl ?_)
      refine sw_dadd hT rfl (ok.2) ?_
      repeat (refine sw_s hT rfl rfl ?_)
      refine sw_cvR hT rfl (c_put _ x E 3 (nI l) (FP.dadd (FP.dadd (x.2.1 80 l) 4588807732320345784) 4602678819172646912) hE) rfl rfl rfl rfl (Nat.le_of_ble_eq_true rfl) ?_
      rintro _ z ⟨rfl, z1, z2, z3⟩
      rw [show (100 * 3 + nI l : Int32) = 300 + nI l by rw [show (100 * 3 : Int32) = 300 by decide]] at z1
      have z7 : z.1 7 = x.1 7 := z2.1 7 (by decide)
      show SW X mX3_reclose 75 _ [] z
      repeat (refine sw_s hT rfl rfl ?_)
      refine sw_dretP hT rfl rfl hR ?_
      refine ⟨rfl, EV_fr z1 (fr_wI (S := [7]) (by decide)) (by decide), ?_, fun k hk => ?_, fr_tr (fr_mono z2 (by decide)) (fr_wI (by decide)), z3⟩
      · show u2 z.1 7 6 (z.1 7 6 &&& ((1 <<< (nI l &&& 31)) ^^^ -1)) 7 6 = _
        rw [u2_at, z7]
      · show u2 z.1 7 6 (z.1 7 6 &&& ((1 <<< (nI l &&& 31)) ^^^ -1)) 7 k = _
        rw [u2_k _ _ _ _ hk, z7]
    · simp only [if_neg c1] at hR
      refine sw_cs hT rfl (c_infinity _ x) rfl rfl (Nat.le_of_ble_eq_true rfl) ?_
      refine sw_dretP hT rfl rfl hR ?_
      exact ⟨rfl, rfl⟩
  have K : ∀ (B A : List Nat), A ++ B = O → 1 ≤ A.length → ∀ a, a < 12 → rlO O = B.foldl Nat.max a → SW X mX3_reclose 10 [(4, .int (nI A.length)), (3, .int (nI a)), (0, .ref 78), (1, .ref 7), (2, .ref 13)] [] x := by
    intro B
    induction B with
    | nil =>
      intro A hA h1 a ha he
      have hAL : A.length = O.length := by rw [← hA]; simp
      have h4 : x.1 78 4 = nI A.length := by rw [hO.1, hAL]
      rw [show rlO O = a from he] at fin
      repeat (refine sw_s hT rfl rfl ?_)
      refine sw_b hT rfl rfl (fun _ => ?_) (fun c => absurd ((by show x.1 78 4 ≤ _; rw [h4]; exact Int32.le_refl _)) c)
      exact sw_pick [1, 2, 3, 4] rfl fin
    | cons r B ih =>
      intro A hA h1 a ha he
      have hAL : A.length < O.length := by rw [← hA]; simp
      have hA12 : A.length < 12 := by omega
      have hrL : O[A.length]? = some r := by rw [← hA, List.getElem?_append_right (Nat.le_refl _), Nat.sub_self]; rfl
      have hr : r < 12 := hm r (List.mem_of_getElem? hrL)
      have e81 : x.1 81 A.length = nI r := hO.2 _ _ hrL
      have hA1 : (A ++ [r]) ++ B = O := by rw [← hA]; simp
      have hlA : (A ++ [r]).length = A.length + 1 := by simp
      repeat (refine sw_s hT rfl rfl ?_)
      refine sw_b hT rfl rfl (fun c => absurd c ((by show ¬ x.1 78 4 ≤ _; rw [hO.1]; exact nI_ge (by omega) (by omega)))) (fun _ => ?_)
      repeat (refine sw_s hT rfl rfl ?_)
      refine sw_iald hT rfl rfl (in12 hA12) ?_
      rw [cl12 hA12, e81]
      refine sw_max hT rfl (Nat.le_of_ble_eq_true rfl) ?_
      rw [nI_max ha hr]
      have k := ih (A ++ [r]) hA1 (by omega) (Nat.max a r) (Nat.max_lt.mpr ⟨ha, hr⟩) he
      rw [hlA, ← nI_1] at k
      repeat (first | (refine sw_at (n := 10) rfl ?_; exact (k)) | refine sw_s hT rfl rfl ?_)
  repeat (refine sw_s hT rfl rfl ?_)
  refine sw_iald hT rfl rfl (in12 (by omega : 0 < 12)) ?_
  rw [show (0 : Int32).toNatClampNeg = 0 by decide, hO.2 0 f (by rw [hfP]; rfl)]
  have k0 := K P [f] (by rw [hfP]; rfl) (Nat.le_refl _) f hf12 hrl
  rw [show nI [f].length = (1 : Int32) from by show nI 1 = 1; decide] at k0
  repeat (first | (refine sw_at (n := 10) rfl ?_; exact (k0)) | refine sw_s hT rfl rfl ?_)
/-- a round: the next time, the open ones, how often, the events, the clearing time -/
def rdC (m st : Int32) (sh : Nat → Int32) (o T : Nat → UInt64) (om : Int32) (K : Nat → Int32) (E : Ev) : UInt64 × Int32 × (Nat → Int32) × Ev × UInt64 :=
  let L := ltC m o T 12
  let q := tkC T st L 9218868437227405312 [] E
  if q.1 = [] then (9218868437227405312, om, K, q.2, 9218868437227405312)
  else
    let K2 := opK q.1 K
    let E2 := opE T q.1 q.2
    let l := rlO q.1
    let nx := FP.dadd (FP.dadd (T l) 4588807732320345784) 4602678819172646912
    let c := FP.dadd (T (q.1.headD 0)) 4588807732320345784
    if K2 l ≤ sh l then (nx, opM q.1 om &&& ((1 <<< (nI l &&& 31)) ^^^ -1), K2, evA E2 (300 + nI l) nx, c)
    else (9218868437227405312, opM q.1 om, K2, E2, c)
