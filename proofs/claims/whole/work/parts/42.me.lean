/-! the reference's simulation: a round, whole -/
/-- whether a round follows -/
def rdN (m st : Int32) (sh : Nat → Int32) (o T : Nat → UInt64) (K : Nat → Int32) (E : Ev) : Prop := (tkC T st (ltC m o T 12) 9218868437227405312 [] E).1 ≠ [] ∧ opK (tkC T st (ltC m o T 12) 9218868437227405312 [] E).1 K (rlO (tkC T st (ltC m o T 12) 9218868437227405312 [] E).1) ≤ sh (rlO (tkC T st (ltC m o T 12) 9218868437227405312 [] E).1)
theorem rdC_0 {m st : Int32} {sh : Nat → Int32} {o T : Nat → UInt64} {om : Int32} {K : Nat → Int32} {E : Ev} {q : List Nat × Ev} (hq : tkC T st (ltC m o T 12) 9218868437227405312 [] E = q) (h : q.1 = []) : rdC m st sh o T om K E = (9218868437227405312, om, K, q.2, 9218868437227405312) := by
  unfold rdC
  simp only [hq]
  rw [if_pos h]
theorem rdC_1 {m st : Int32} {sh : Nat → Int32} {o T : Nat → UInt64} {om : Int32} {K : Nat → Int32} {E : Ev} {q : List Nat × Ev} (hq : tkC T st (ltC m o T 12) 9218868437227405312 [] E = q) (h : q.1 ≠ []) (h2 : opK q.1 K (rlO q.1) ≤ sh (rlO q.1)) : rdC m st sh o T om K E = (FP.dadd (FP.dadd (T (rlO q.1)) 4588807732320345784) 4602678819172646912, opM q.1 om &&& ((1 <<< (nI (rlO q.1) &&& 31)) ^^^ -1), opK q.1 K, evA (opE T q.1 q.2) (300 + nI (rlO q.1)) (FP.dadd (FP.dadd (T (rlO q.1)) 4588807732320345784) 4602678819172646912), FP.dadd (T (q.1.headD 0)) 4588807732320345784) := by
  unfold rdC
  simp only [hq]
  rw [if_neg h, if_pos h2]
theorem rdC_2 {m st : Int32} {sh : Nat → Int32} {o T : Nat → UInt64} {om : Int32} {K : Nat → Int32} {E : Ev} {q : List Nat × Ev} (hq : tkC T st (ltC m o T 12) 9218868437227405312 [] E = q) (h : q.1 ≠ []) (h2 : ¬ opK q.1 K (rlO q.1) ≤ sh (rlO q.1)) : rdC m st sh o T om K E = (9218868437227405312, opM q.1 om, opK q.1 K, opE T q.1 q.2, FP.dadd (T (q.1.headD 0)) 4588807732320345784) := by
  unfold rdC
  simp only [hq]
  rw [if_neg h, if_neg h2]
theorem opE_app (T : Nat → UInt64) (r : Nat) : ∀ (A : List Nat) (E : Ev), opE T (A ++ [r]) E = evA (opE T A E) (200 + nI r) (FP.dadd (T r) 4588807732320345784)
  | [], _ => rfl
  | _ :: A, _ => opE_app T r A _
theorem opM_app (r : Nat) : ∀ (A : List Nat) (m : Int32), opM (A ++ [r]) m = opM A m ||| (1 <<< (nI r &&& 31))
  | [], _ => rfl
  | _ :: A, _ => opM_app r A _
theorem opK_app (r : Nat) : ∀ (A : List Nat) (K : Nat → Int32), opK (A ++ [r]) K = vf_upd (opK A K) r (opK A K r + 1)
  | [], _ => rfl
  | _ :: A, _ => opK_app r A _
theorem u2_upd {f : Nat → Nat → Int32} {i k : Nat} {v : Int32} : u2 f i k v i = vf_upd (f i) k v := u2_self
/-- what the reference's round answers -/
def rdQ (g x : Hp) (n : Nat) (R : UInt64 × Int32 × (Nat → Int32) × Ev × UInt64) (N : Prop) : Po := fun rr z => ((N ∧ rr = some (.double R.1)) ∨ (¬ N ∧ rr = some (.double 13830554455654793216))) ∧ OPk R.2.1 z n ∧ z.1 93 = R.2.2.1 ∧ EVM z R.2.2.2.1 ∧ z.2.1 85 3 = R.2.2.2.2 ∧ rnF x z
theorem r_round0 (Y : Kx) (g x : Hp) (n : Nat) (om : Int32) (P : List Nat) (cur t dur : UInt64) (hR0 : REL g x n) (hO : OPk om x n) (hP7 : x.1 83 7 = nI P.length) (hP : ∀ (i e : Nat), P[i]? = some e → x.1 88 i = nI e) (hPl : P.length ≤ 12) (hPm : ∀ e, e ∈ P → e < n) (hs : opB om P = true ∨ ¬ cml t dur < 0) : sM Y mX7_round [.ref 83, .double t, .double cur, .double dur] x (some (.double 13830554455654793216)) x := by
  refine sM_of (by decide +kernel) (Nat.le_of_ble_eq_true rfl) (fun X h hY hR => ?_)
  have hT := kX7_round h
  have hO2 : OPN (u2 g.1 7 6 om, g.2) x n := fun k hk => by rw [show (u2 g.1 7 6 om, g.2).1 7 6 = om from u2_at g.1 7 6 om]; exact hO k hk
  have eo : ((u2 g.1 7 6 om, g.2) : Hp).1 7 6 = om := u2_at g.1 7 6 om
  repeat (refine sw_s hT rfl rfl ?_)
  refine sw_cv hT rfl (r_isPathOpen _ (u2 g.1 7 6 om, g.2) x n P hR0.1.1 hO2 hP7 hPl hP hPm) rfl rfl rfl rfl (Nat.le_of_ble_eq_true rfl) ?_
  rw [eo]
  cases hb : opB om P with
  | true =>
    refine sw_b hT rfl rfl (fun c => absurd c ((by decide))) (fun _ => ?_)
    repeat (refine sw_s hT rfl rfl ?_)
    exact sw_dret hT rfl rfl (hR)
  | false =>
    refine sw_b hT rfl rfl (fun _ => ?_) (fun c => absurd (rfl) c)
    repeat (refine sw_s hT rfl rfl ?_)
    refine sw_b hT rfl rfl (fun c1 => ?_) (fun c1 => ?_)
    · rcases hs with hs | hs
      · rw [hb] at hs; cases hs
      · exact absurd c1 hs
    · repeat (refine sw_s hT rfl rfl ?_)
      exact sw_dret hT rfl rfl (hR)
theorem r_round1 (Y : Kx) (g x : Hp) (n : Nat) (m om : Int32) (P : List Nat) (cur t dur : UInt64) (E : Ev) (hR0 : REL g x n) (hG : RG1 g n) (hO : OPk om x n) (hP7 : x.1 83 7 = nI P.length) (hP : ∀ (i e : Nat), P[i]? = some e → x.1 88 i = nI e) (hPl : P.length ≤ 12) (hPm : ∀ e, e ∈ P → e < n) (hE : EVM x E) (hs1 : opB om P = false) (hs2 : cml t dur < 0) (ok : luOK g P cur t)
    (hLT : ltC m (fun r => tfS g r cur) (fun r => FP.dadd t (tfS g r cur)) 12 = mlC (fun r => tfS g r cur) (fun r => FP.dadd t (tfS g r cur)) P [])
    (okT : ∀ r, r ∈ P → ¬ cml (tfS g r cur) 9218868437227405312 = 0 → cmg (FP.dadd t (tfS g r cur)) 9218868437227405312 < 0 ∧ vf_n64 (FP.dadd (FP.dadd t (tfS g r cur)) 4588807732320345784) ∧ vf_n64 (FP.dadd (FP.dadd (FP.dadd t (tfS g r cur)) 4588807732320345784) 4602678819172646912)) :
    sR Y mX7_round [.ref 83, .double t, .double cur, .double dur] x (rdQ g x n (rdC m (g.1 7 5) (g.1 12) (fun r => tfS g r cur) (fun r => FP.dadd t (tfS g r cur)) om (x.1 93) E) (rdN m (g.1 7 5) (g.1 12) (fun r => tfS g r cur) (fun r => FP.dadd t (tfS g r cur)) (x.1 93) E)) := by
  refine sR_of (by decide +kernel) (Nat.le_of_ble_eq_true rfl) (fun X h hY hR => ?_)
  have hT := kX7_round h
  have h12 := hR0.1.1
  have hO2 : OPN (u2 g.1 7 6 om, g.2) x n := fun k hk => by rw [show (u2 g.1 7 6 om, g.2).1 7 6 = om from u2_at g.1 7 6 om]; exact hO k hk
  have eo : ((u2 g.1 7 6 om, g.2) : Hp).1 7 6 = om := u2_at g.1 7 6 om
  obtain ⟨o, ho⟩ : ∃ o : Nat → UInt64, o = fun r => tfS g r cur := ⟨_, rfl⟩
  obtain ⟨T, hTT⟩ : ∃ T : Nat → UInt64, T = fun r => FP.dadd t (tfS g r cur) := ⟨_, rfl⟩
  rw [← ho, ← hTT] at hLT hR
  have okT2 : ∀ r, r ∈ P → ¬ cml (o r) 9218868437227405312 = 0 → cmg (T r) 9218868437227405312 < 0 ∧ vf_n64 (FP.dadd (T r) 4588807732320345784) ∧ vf_n64 (FP.dadd (FP.dadd (T r) 4588807732320345784) 4602678819172646912) := by rw [ho, hTT]; exact okT
  obtain ⟨L, hL⟩ : ∃ L, L = ltC m o T 12 := ⟨_, rfl⟩
  obtain ⟨q, hq⟩ : ∃ q, tkC T (g.1 7 5) (ltC m o T 12) 9218868437227405312 [] E = q := ⟨_, rfl⟩
  have hLM : L = mlC o T P [] := hL.trans hLT
  have hLl : L.length ≤ 12 := by
    have := mlC_len (o := o) (T := T) (P := P) (L := [])
    rw [hLM]; simp only [List.length_nil] at this; omega
  have hLm : ∀ e, e ∈ L → e ∈ P ∧ ¬ cml (o e) 9218868437227405312 = 0 := fun e he => by
    rw [hLM] at he
    rcases mlC_mem.mp he with z | z
    · cases z
    · exact z
  rw [show rdN m (g.1 7 5) (g.1 12) o T (x.1 93) E = (q.1 ≠ [] ∧ opK q.1 (x.1 93) (rlO q.1) ≤ g.1 12 (rlO q.1)) by unfold rdN; rw [hq]] at hR
  have hqO : ∀ e, e ∈ q.1 → e ∈ L := fun e he => by
    rw [← hq, ← hL] at he
    rcases tkC_mem he with z | z
    · cases z
    · exact z
  have hql : q.1.length ≤ 12 := by
    have := tkC_len (T := T) (st := g.1 7 5) (L := L) (c := 9218868437227405312) (O := []) (E := E)
    rw [← hq, ← hL]; simp only [List.length_nil] at this; omega
  -- the third loop and the end
  have K3 : ∀ (B A : List Nat), A ++ B = q.1 → q.1 ≠ [] → ∀ (y : Hp) (la : Nat), OPM y T q.1 → EVM y (opE T A q.2) → OPk (opM A om) y n → y.1 93 = opK A (x.1 93) → rnF x y → q.1[la]? = some ((A.drop 1).foldl Nat.max (q.1.headD 0)) → SW X mX7_round 131 [(12, .int (nI A.length)), (11, .int (nI la)), (9, .double (FP.dadd (T (q.1.headD 0)) 4588807732320345784)), (0, .ref 83), (1, .double t), (3, .double cur), (5, .double dur)] [] y := by
    intro B
    induction B with
    | nil =>
      intro A hA hne y la hyO hyE hyk hyK hyF hla
      rw [List.append_nil] at hA
      rw [hA] at hyE hyk hyK hla ⊢
      have hlal : la < q.1.length := (List.getElem?_eq_some_iff.mp hla).1
      obtain ⟨l, hl⟩ : ∃ l, l = rlO q.1 := ⟨_, rfl⟩
      rw [show (q.1.drop 1).foldl Nat.max (q.1.headD 0) = l from hl.symm] at hla
      obtain ⟨l1, l2⟩ := hyO.2 la l hla
      have hlP := hLm l (hqO l (List.mem_of_getElem? hla))
      have hln : l < n := hPm l hlP.1
      repeat (refine sw_s hT rfl rfl ?_)
      rw [show fks y 83 13 0 = .int (nI q.1.length) from congrArg Value.int hyO.1]
      refine sw_b hT rfl rfl (fun _ => ?_) (fun c => absurd ((Int32.le_refl _)) c)
      repeat (refine sw_s hT rfl rfl ?_)
      refine sw_dast hT rfl rfl (inV (by omega : 3 < 76)) ?_
      rw [show (3 : Int32).toNatClampNeg = 3 by decide]
      obtain ⟨z, hz⟩ : ∃ z : Hp, z = (y.1, u2 y.2.1 85 3 (FP.dadd (T (q.1.headD 0)) 4588807732320345784), y.2.2) := ⟨_, rfl⟩
      have z1 : z.1 = y.1 := by rw [hz]
      have z3 : z.2.1 85 3 = FP.dadd (T (q.1.headD 0)) 4588807732320345784 := by rw [hz]; exact u2_at y.2.1 85 3 _
      have z92 : z.2.1 92 = y.2.1 92 := by rw [hz]; exact u2_ne (f := y.2.1) (i := 85) (j := 92) (k := 3) (v := FP.dadd (T (q.1.headD 0)) 4588807732320345784) (by decide)
      have zk : ∀ j, j ≠ 3 → z.2.1 85 j = y.2.1 85 j := fun j hj => by rw [hz]; exact u2_k y.2.1 85 3 _ hj
      have zf : fr [85] y z := by rw [hz]; exact fr_wD (by decide)
      have zF : rnF x z := rnF_tr hyF ⟨fr_mono zf (by decide), fun j _ _ => by rw [z1], fun j _ _ _ => by rw [z1], fun j _ hj => zk j hj⟩
      have zE : EVM z (opE T q.1 q.2) := ⟨by rw [z1]; exact hyE.1, hyE.2.1, fun i c t hi => by rw [z1, zk (16 + i) (by omega)]; exact hyE.2.2 i c t hi⟩
      rw [← hz]
      repeat (refine sw_s hT rfl rfl ?_)
      refine sw_iald hT rfl rfl (in12 (by omega)) ?_
      rw [cl12 (by omega), z1, l1]
      repeat (refine sw_s hT rfl rfl ?_)
      refine sw_iald hT rfl rfl (in12 (by omega)) ?_
      rw [cl12 (by omega), z1, hyK]
      repeat (refine sw_s hT rfl rfl ?_)
      refine sw_cs hT rfl (r_atL _ z l 6 6 (by decide)) rfl rfl (Nat.le_of_ble_eq_true rfl) ?_
      refine sw_iald hT rfl rfl (inW (by omega)) ?_
      rw [clW (by omega), ((REL_rn hR0 zF).2.2.2.2.2 l hln).2.2.2.2.2.1]
      repeat (refine sw_s hT rfl rfl ?_)
      refine sw_b hT rfl rfl (fun c1 => ?_) (fun c1 => ?_)
      · have hrd := rdC_1 (sh := g.1 12) (om := om) (K := x.1 93) hq hne (by rw [← hl]; exact c1)
        rw [hrd, ← hl] at hR
        repeat (refine sw_s hT rfl rfl ?_)
        refine sw_dald hT rfl rfl (in12 (by omega)) ?_
        rw [cl12 (by omega), z92, l2]
        repeat (refine sw_s hT rfl rfl ?_)
        refine sw_dadd hT rfl ((okT2 l hlP.1 hlP.2).2.2) ?_
        repeat (refine sw_s hT rfl rfl ?_)
        refine sw_cvR hT rfl (r_record _ z _ 3 (nI l) _ zE) rfl rfl rfl rfl (Nat.le_of_ble_eq_true rfl) ?_
        rw [k100_3]
        rintro _ w ⟨rfl, wE, wF⟩
        show SW X mX7_round 290 _ [] w
        repeat (refine sw_s hT rfl rfl ?_)
        refine sw_cs hT rfl (r_atL _ w l 8 8 (by decide)) rfl rfl (Nat.le_of_ble_eq_true rfl) ?_
        repeat (refine sw_s hT rfl rfl ?_)
        refine sw_iast hT rfl rfl (inW (by omega)) ?_
        rw [clW (by omega)]
        repeat (refine sw_s hT rfl rfl ?_)
        refine sw_dretP hT rfl rfl hR ⟨Or.inl ⟨⟨hne, c1⟩, rfl⟩, fun k hk => ?_, ?_, ⟨?_, wE.2.1, fun i c t hi => ?_⟩, ?_, ?_⟩
        · show u2 w.1 84 (2 + 9 * l + 8) 0 84 (2 + 9 * k + 8) = _
          by_cases hkl : k = l
          · subst hkl
            rw [u2_at, if_neg (fun z => ((bS_clr (by omega) (by omega)).mp z).2 rfl)]
          · rw [u2_k _ _ _ _ (by omega), wF.2.1 _ (by omega) (by omega), z1, hyk k hk]
            by_cases hb : bS (opM q.1 om) k
            · rw [if_pos hb, if_pos ((bS_clr (by omega) (by omega)).mpr ⟨hb, hkl⟩)]
            · rw [if_neg hb, if_neg (fun z => hb ((bS_clr (by omega) (by omega)).mp z).1)]
        · show u2 w.1 84 (2 + 9 * l + 8) 0 93 = _
          rw [u2_ne (by decide), wF.1.1 93 (by decide), z1, hyK]
        · show u2 w.1 84 (2 + 9 * l + 8) 0 84 1 = _
          rw [u2_k _ _ _ _ (by omega)]; exact wE.1
        · show u2 w.1 84 (2 + 9 * l + 8) 0 84 (110 + i) = c ∧ _
          rw [u2_k _ _ _ _ (by omega)]; exact wE.2.2 i c t hi
        · show w.2.1 85 3 = _
          rw [wF.2.2 3 (by omega), z3]
        · refine rnF_tr zF (rnF_tr (tkF_rn (tkF_rec wF)) ⟨fr_wI (by decide), fun j _ _ => ?_, fun j _ _ hj => u2_k w.1 84 (2 + 9 * l + 8) 0 (hj l), fun j _ _ => rfl⟩)
          exact congrFun (u2_ne (f := w.1) (i := 84) (j := 83) (k := 2 + 9 * l + 8) (v := 0) (by decide)) j
      · have hrd := rdC_2 (sh := g.1 12) (om := om) (K := x.1 93) hq hne (by rw [← hl]; exact c1)
        rw [hrd, ← hl] at hR
        repeat (refine sw_s hT rfl rfl ?_)
        refine sw_dretP hT rfl rfl hR ⟨Or.inr ⟨fun z => c1 z.2, rfl⟩, fun k hk => by rw [z1]; exact hyk k hk, by rw [z1]; exact hyK, zE, z3, zF⟩
    | cons r B ih =>
      intro A hA hne y la hyO hyE hyk hyK hyF hla
      have hal : A.length < q.1.length := by rw [← hA]; simp
      have ha : q.1[A.length]? = some r := by rw [← hA, List.getElem?_append_right (Nat.le_refl _), Nat.sub_self]; rfl
      have hlal : la < q.1.length := (List.getElem?_eq_some_iff.mp hla).1
      have hA1 : (A ++ [r]) ++ B = q.1 := by rw [← hA]; simp
      have hAl : (A ++ [r]).length = A.length + 1 := by simp
      obtain ⟨i1, i2⟩ := hyO.2 _ r ha
      have hrP := hLm r (hqO r (List.mem_of_getElem? ha))
      have hrn : r < n := hPm r hrP.1
      obtain ⟨mx, hmx⟩ : ∃ mx, mx = (A.drop 1).foldl Nat.max (q.1.headD 0) := ⟨_, rfl⟩
      rw [← hmx] at hla
      have hmn : mx < n := hPm mx (hLm mx (hqO mx (List.mem_of_getElem? hla))).1
      have l1 := (hyO.2 la mx hla).1
      repeat (refine sw_s hT rfl rfl ?_)
      rw [show fks y 83 13 0 = .int (nI q.1.length) from congrArg Value.int hyO.1]
      refine sw_b hT rfl rfl (fun c => absurd c ((nI_ge (by omega) (by omega)))) (fun _ => ?_)
      repeat (refine sw_s hT rfl rfl ?_)
      refine sw_iald hT rfl rfl (in12 (by omega)) ?_
      rw [cl12 (by omega), i1]
      repeat (refine sw_s hT rfl rfl ?_)
      refine sw_dald hT rfl rfl (in12 (by omega)) ?_
      rw [cl12 (by omega), i2]
      refine sw_cvR hT rfl (r_record _ y _ 2 (nI r) _ hyE) rfl rfl rfl rfl (Nat.le_of_ble_eq_true rfl) ?_
      rw [k100_2]
      rintro _ z ⟨rfl, zE, zF⟩
      have z91 : z.1 91 = y.1 91 := zF.1.1 91 (by decide)
      have z92 : z.2.1 92 = y.2.1 92 := zF.1.2.1 92 (by decide)
      have z93 : z.1 93 = y.1 93 := zF.1.1 93 (by decide)
      show SW X mX7_round 159 _ [] z
      repeat (refine sw_s hT rfl rfl ?_)
      refine sw_iald hT rfl rfl (in12 (by omega)) ?_
      rw [cl12 (by omega), z91, i1]
      repeat (refine sw_s hT rfl rfl ?_)
      refine sw_cs hT rfl (r_atL _ z r 8 8 (by decide)) rfl rfl (Nat.le_of_ble_eq_true rfl) ?_
      repeat (refine sw_s hT rfl rfl ?_)
      refine sw_iast hT rfl rfl (inW (by omega)) ?_
      rw [clW (by omega)]
      obtain ⟨w, hw⟩ : ∃ w : Hp, w = (u2 z.1 84 (2 + 9 * r + 8) 1, z.2) := ⟨_, rfl⟩
      have w91 : w.1 91 = z.1 91 := by rw [hw]; exact u2_ne (f := z.1) (i := 84) (j := 91) (k := 2 + 9 * r + 8) (v := 1) (by decide)
      have w93 : w.1 93 = z.1 93 := by rw [hw]; exact u2_ne (f := z.1) (i := 84) (j := 93) (k := 2 + 9 * r + 8) (v := 1) (by decide)
      have w83 : w.1 83 = z.1 83 := by rw [hw]; exact u2_ne (f := z.1) (i := 84) (j := 83) (k := 2 + 9 * r + 8) (v := 1) (by decide)
      have w84 : ∀ j, j ≠ 2 + 9 * r + 8 → w.1 84 j = z.1 84 j := fun j hj => by rw [hw]; exact u2_k z.1 84 (2 + 9 * r + 8) 1 hj
      have w8r : w.1 84 (2 + 9 * r + 8) = 1 := by rw [hw]; exact u2_at z.1 84 (2 + 9 * r + 8) 1
      have wd : w.2 = z.2 := by rw [hw]
      have wf : fr [84] z w := by rw [hw]; exact fr_wI (by decide)
      rw [← hw]
      repeat (refine sw_s hT rfl rfl ?_)
      refine sw_iald hT rfl rfl (in12 (by omega)) ?_
      rw [cl12 (by omega), w91, z91, i1]
      repeat (refine sw_s hT rfl rfl ?_)
      refine sw_iald hT rfl rfl (in12 (by omega)) ?_
      rw [cl12 (by omega)]
      repeat (refine sw_s hT rfl rfl ?_)
      refine sw_iast hT rfl rfl (in12 (by omega)) ?_
      rw [cl12 (by omega)]
      obtain ⟨v, hv⟩ : ∃ v : Hp, v = (u2 w.1 93 r (w.1 93 r + 1), w.2) := ⟨_, rfl⟩
      have v91 : v.1 91 = w.1 91 := by rw [hv]; exact u2_ne (f := w.1) (i := 93) (j := 91) (k := r) (v := w.1 93 r + 1) (by decide)
      have v83 : v.1 83 = w.1 83 := by rw [hv]; exact u2_ne (f := w.1) (i := 93) (j := 83) (k := r) (v := w.1 93 r + 1) (by decide)
      have v84 : v.1 84 = w.1 84 := by rw [hv]; exact u2_ne (f := w.1) (i := 93) (j := 84) (k := r) (v := w.1 93 r + 1) (by decide)
      have v93 : v.1 93 = vf_upd (w.1 93) r (w.1 93 r + 1) := by rw [hv]; exact u2_self (f := w.1) (i := 93) (k := r) (v := w.1 93 r + 1)
      have vd : v.2 = w.2 := by rw [hv]
      have vf : fr [93] w v := by rw [hv]; exact fr_wI (by decide)
      rw [← hv]
      have vO : OPM v T q.1 := ⟨by rw [v83, w83, zF.1.1 83 (by decide)]; exact hyO.1, fun i e hi => by rw [v91, w91, z91, vd, wd, z92]; exact hyO.2 i e hi⟩
      have vE : EVM v (opE T (A ++ [r]) q.2) := by
        rw [opE_app]
        refine ⟨by rw [v84, w84 1 (by omega)]; exact zE.1, zE.2.1, fun i c t hi => ?_⟩
        rw [v84, w84 (110 + i) (by omega), vd, wd]
        exact zE.2.2 i c t hi
      have vk : OPk (opM (A ++ [r]) om) v n := by
        intro k hk
        rw [opM_app, v84]
        by_cases hkr : k = r
        · subst hkr
          rw [w8r, if_pos ((bS_or (by omega) (by omega)).mpr (Or.inr rfl))]
        · rw [w84 (2 + 9 * k + 8) (by omega), zF.2.1 _ (by omega) (by omega), hyk k hk]
          by_cases hb : bS (opM A om) k
          · rw [if_pos hb, if_pos ((bS_or (by omega) (by omega)).mpr (Or.inl hb))]
          · rw [if_neg hb, if_neg (fun z => ((bS_or (by omega) (by omega)).mp z).elim hb hkr)]
      have vK : v.1 93 = opK (A ++ [r]) (x.1 93) := by rw [opK_app, v93, w93, z93, hyK]
      have vF : rnF x v := by
        refine rnF_tr hyF (rnF_tr (tkF_rn (tkF_rec zF)) ⟨fr_tr (fr_mono wf (by decide)) (fr_mono vf (by decide)), fun j _ _ => by rw [v83, w83], fun j _ _ hj => by rw [v84, w84 j (hj r)], fun j _ _ => by rw [vd, wd]⟩)
      have fold : ∀ (A : List Nat), A ≠ [] → ((A ++ [r]).drop 1).foldl Nat.max (q.1.headD 0) = Nat.max ((A.drop 1).foldl Nat.max (q.1.headD 0)) r := by
        intro A hA
        cases A with
        | nil => exact absurd rfl hA
        | cons a A => show (A ++ [r]).foldl Nat.max _ = _; rw [List.foldl_append]; rfl
      repeat (refine sw_s hT rfl rfl ?_)
      refine sw_iald hT rfl rfl (in12 (by omega)) ?_
      rw [cl12 (by omega), v91, w91, z91, i1]
      repeat (refine sw_s hT rfl rfl ?_)
      refine sw_iald hT rfl rfl (in12 (by omega)) ?_
      rw [cl12 (by omega), v91, w91, z91, l1]
      refine sw_b hT rfl rfl (fun c1 => ?_) (fun c1 => ?_)
      · have hle : r ≤ mx := by
          rcases Nat.lt_or_ge mx r with z | z
          · exact absurd c1 (nI_ge z (by omega))
          · exact z
        have qq := ih (A ++ [r]) hA1 hne v la vO vE vk vK vF (by
          rw [hla]
          by_cases hA0 : A = []
          · subst hA0; rw [hmx]; rfl
          · rw [fold A hA0, ← hmx]
            exact congrArg some (Nat.max_eq_left hle).symm)
        rw [hAl, ← nI_1] at qq
        repeat (first | (refine sw_at (n := 131) rfl ?_; exact (sw_pick [0, 1, 2, 3, 4, 5, 6] rfl qq)) | refine sw_s hT rfl rfl ?_)
      · have hlt : mx < r := by
          rcases Nat.lt_or_ge mx r with z | z
          · exact z
          · exact absurd (nI_le z (by omega)) c1
        have qq := ih (A ++ [r]) hA1 hne v A.length vO vE vk vK vF (by
          rw [ha]
          by_cases hA0 : A = []
          · exfalso
            subst hA0
            have : q.1.headD 0 = r := by rw [← hA]; rfl
            rw [show ((([] : List Nat).drop 1).foldl Nat.max (q.1.headD 0)) = q.1.headD 0 from rfl, this] at hmx
            omega
          · rw [fold A hA0, ← hmx]
            exact congrArg some (Nat.max_eq_right (Nat.le_of_lt hlt)).symm)
        rw [hAl, ← nI_1] at qq
        repeat (first | (refine sw_at (n := 131) rfl ?_; exact (sw_pick [0, 1, 2, 3, 4, 5, 6] rfl qq)) | refine sw_s hT rfl rfl ?_)
  -- the second loop: trips before the clearing
  have K2 : ∀ (D A : List Nat), A ++ D = L → ∀ (y : Hp) (O : List Nat) (F : Ev), LUM y T L → OPM y T O → O.length ≤ A.length → O ≠ [] → EVM y F → rnF x y → OPk om y n → y.1 93 = x.1 93 → tkC T (g.1 7 5) D (FP.dadd (T (O.headD 0)) 4588807732320345784) O F = q → SW X mX7_round 89 [(9, .double (FP.dadd (T (O.headD 0)) 4588807732320345784)), (7, .int (nI A.length)), (0, .ref 83), (1, .double t), (3, .double cur), (5, .double dur)] [] y := by
    have toK3 : ∀ (y : Hp) (O : List Nat) (F : Ev) (a : Nat), OPM y T O → O ≠ [] → EVM y F → rnF x y → OPk om y n → y.1 93 = x.1 93 → (O, F) = q → SW X mX7_round 125 [(9, .double (FP.dadd (T (O.headD 0)) 4588807732320345784)), (7, .int (nI a)), (0, .ref 83), (1, .double t), (3, .double cur), (5, .double dur)] [] y := by
      intro y O F a yO hO0 yE yF yk yK he
      have e1 : q.1 = O := by rw [← he]
      have e2 : q.2 = F := by rw [← he]
      have qq := K3 q.1 [] rfl (by rw [e1]; exact hO0) y 0 (by rw [e1]; exact yO) (by rw [e2]; exact yE) yk yK yF (by
        cases hq1 : q.1 with
        | nil => rw [e1] at hq1; exact absurd hq1 hO0
        | cons a M => rfl)
      rw [e1] at qq
      repeat (first | (refine sw_at (n := 131) rfl ?_; exact (sw_pick [0, 1, 2, 4, 5, 6, 7] rfl qq)) | refine sw_s hT rfl rfl ?_)
    intro D
    induction D with
    | nil =>
      intro A hA y O F yL yO hOA hO0 yE yF yk yK he
      rw [List.append_nil] at hA
      repeat (refine sw_s hT rfl rfl ?_)
      rw [show fks y 83 10 0 = .int (nI L.length) from congrArg Value.int yL.1, hA]
      refine sw_b hT rfl rfl (fun _ => ?_) (fun c => absurd ((Int32.le_refl _)) c)
      exact toK3 y O F L.length yO hO0 yE yF yk yK he
    | cons r D ih =>
      intro A hA y O F yL yO hOA hO0 yE yF yk yK he
      have hal : A.length < L.length := by rw [← hA]; simp
      have ha : L[A.length]? = some r := by rw [← hA, List.getElem?_append_right (Nat.le_refl _), Nat.sub_self]; rfl
      have hA1 : (A ++ [r]) ++ D = L := by rw [← hA]; simp
      have hAl : (A ++ [r]).length = A.length + 1 := by simp
      have hrP := hLm r (List.mem_of_getElem? ha)
      have hrn : r < n := hPm r hrP.1
      have yR := REL_rn hR0 yF
      obtain ⟨i1, i2⟩ := yL.2 _ r ha
      repeat (refine sw_s hT rfl rfl ?_)
      rw [show fks y 83 10 0 = .int (nI L.length) from congrArg Value.int yL.1]
      refine sw_b hT rfl rfl (fun c => absurd c ((nI_ge (by omega) (by omega)))) (fun _ => ?_)
      repeat (refine sw_s hT rfl rfl ?_)
      refine sw_dald hT rfl rfl (in12 (by omega)) ?_
      rw [cl12 (by omega), i2]
      repeat (refine sw_s hT rfl rfl ?_)
      refine sw_b hT rfl rfl (fun c1 => ?_) (fun c1 => ?_)
      · have : tkC T (g.1 7 5) (r :: D) (FP.dadd (T (O.headD 0)) 4588807732320345784) O F = (O, F) := if_neg (Int32.not_lt.mpr c1)
        exact toK3 y O F A.length yO hO0 yE yF yk yK (this.symm.trans he)
      · have c2 : cmg (T r) (FP.dadd (T (O.headD 0)) 4588807732320345784) < 0 := Int32.not_le.mp c1
        repeat (refine sw_s hT rfl rfl ?_)
        refine sw_cvR hT rfl (r_trips _ g y n A.length r T L O F yR yL ha hrn hLl yO (by omega) yE (okT2 r hrP.1 hrP.2).2.1) rfl rfl rfl rfl (Nat.le_of_ble_eq_true rfl) ?_
        rintro _ z ⟨rfl, zO, zE, zF⟩
        show SW X mX7_round 117 _ [_] z
        have zL := LUM_tk zF yL
        have zk := OPk_tk h12 zF yk
        have zK : z.1 93 = x.1 93 := (zF.1.1 93 (by decide)).trans yK
        by_cases hb : bS (g.1 7 5) r
        · rw [if_pos hb] at zO zE
          have he2 : tkC T (g.1 7 5) D (FP.dadd (T (O.headD 0)) 4588807732320345784) O (evA (evA F (nI r) (T r)) (100 + nI r) (T r)) = q := by
            rw [← he]
            exact ((if_pos c2).trans (if_neg hb)).symm
          have qq := ih (A ++ [r]) hA1 z O _ zL zO (by omega) hO0 zE (rnF_tr yF (tkF_rn zF)) zk zK he2
          rw [hAl, ← nI_1] at qq
          repeat (first | (refine sw_at (n := 89) rfl ?_; exact (sw_pick [2, 0, 3, 4, 5, 6] rfl qq)) | refine sw_s hT rfl rfl ?_)
        · rw [if_neg hb] at zO zE
          have hb2 : (g.1 7 5 >>> (nI r &&& 31)) &&& 1 = 0 := Decidable.byContradiction hb
          have hh : (O ++ [r]).headD 0 = O.headD 0 := by
            cases O with
            | nil => exact absurd rfl hO0
            | cons a O => rfl
          have he2 : tkC T (g.1 7 5) D (FP.dadd (T ((O ++ [r]).headD 0)) 4588807732320345784) (O ++ [r]) (evA F (nI r) (T r)) = q := by
            rw [← he]
            exact ((if_pos c2).trans (if_pos hb2)).symm
          have qq := ih (A ++ [r]) hA1 z (O ++ [r]) _ zL zO (by simp only [List.length_append, List.length_cons, List.length_nil]; omega) (by simp) zE (rnF_tr yF (tkF_rn zF)) zk zK he2
          rw [hAl, ← nI_1, hh] at qq
          repeat (first | (refine sw_at (n := 89) rfl ?_; exact (sw_pick [2, 0, 3, 4, 5, 6] rfl qq)) | refine sw_s hT rfl rfl ?_)
  -- the first loop: the first breaker that opens
  have K1 : ∀ (D A : List Nat), A ++ D = L → ∀ (y : Hp) (F : Ev), LUM y T L → OPM y T [] → EVM y F → rnF x y → OPk om y n → y.1 93 = x.1 93 → tkC T (g.1 7 5) D 9218868437227405312 [] F = q → SW X mX7_round 35 [(8, .int 0), (7, .int (nI A.length)), (0, .ref 83), (1, .double t), (3, .double cur), (5, .double dur)] [] y := by
    intro D
    induction D with
    | nil =>
      intro A hA y F yL yO yE yF yk yK he
      rw [List.append_nil] at hA
      have e1 : q.1 = [] := by rw [← he]; rfl
      have e2 : q.2 = F := by rw [← he]; rfl
      have hrd := rdC_0 (sh := g.1 12) (om := om) (K := x.1 93) hq e1
      rw [hrd] at hR
      repeat (refine sw_s hT rfl rfl ?_)
      rw [show fks y 83 10 0 = .int (nI L.length) from congrArg Value.int yL.1, hA]
      refine sw_b hT rfl rfl (fun _ => ?_) (fun c => absurd ((Int32.le_refl _)) c)
      repeat (refine sw_s hT rfl rfl ?_)
      refine sw_b hT rfl rfl (fun _ => ?_) (fun c => absurd (rfl) c)
      repeat (refine sw_s hT rfl rfl ?_)
      refine sw_dast hT rfl rfl (inV (by omega : 3 < 76)) ?_
      rw [show (3 : Int32).toNatClampNeg = 3 by decide]
      repeat (refine sw_s hT rfl rfl ?_)
      refine sw_dretP hT rfl rfl hR ⟨Or.inr ⟨fun z => z.1 e1, rfl⟩, yk, yK, ⟨by show y.1 84 1 = nI q.2.length; rw [e2]; exact yE.1, by show q.2.length ≤ 60; rw [e2]; exact yE.2.1, fun i c t hi => ?_⟩, u2_at y.2.1 85 3 _, rnF_tr yF ⟨fr_wD (by decide), fun _ _ _ => rfl, fun _ _ _ _ => rfl, fun j _ hj => u2_k y.2.1 85 3 _ hj⟩⟩
      · replace hi : q.2[i]? = some (c, t) := hi
        rw [e2] at hi
        show y.1 84 (110 + i) = c ∧ u2 y.2.1 85 3 9218868437227405312 85 (16 + i) = t
        rw [u2_k _ _ _ _ (by omega)]
        exact yE.2.2 i c t hi
    | cons r D ih =>
      intro A hA y F yL yO yE yF yk yK he
      have hal : A.length < L.length := by rw [← hA]; simp
      have ha : L[A.length]? = some r := by rw [← hA, List.getElem?_append_right (Nat.le_refl _), Nat.sub_self]; rfl
      have hA1 : (A ++ [r]) ++ D = L := by rw [← hA]; simp
      have hAl : (A ++ [r]).length = A.length + 1 := by simp
      have hrP := hLm r (List.mem_of_getElem? ha)
      have hrn : r < n := hPm r hrP.1
      have yR := REL_rn hR0 yF
      obtain ⟨k1, k2, -⟩ := okT2 r hrP.1 hrP.2
      repeat (refine sw_s hT rfl rfl ?_)
      rw [show fks y 83 10 0 = .int (nI L.length) from congrArg Value.int yL.1]
      refine sw_b hT rfl rfl (fun c => absurd c ((nI_ge (by omega) (by omega)))) (fun _ => ?_)
      repeat (refine sw_s hT rfl rfl ?_)
      refine sw_b hT rfl rfl (fun _ => ?_) (fun c => absurd (rfl) c)
      repeat (refine sw_s hT rfl rfl ?_)
      refine sw_cvR hT rfl (r_trips _ g y n A.length r T L [] F yR yL ha hrn hLl yO (by simp) yE k2) rfl rfl rfl rfl (Nat.le_of_ble_eq_true rfl) ?_
      rintro _ z ⟨rfl, zO, zE, zF⟩
      show SW X mX7_round 55 _ [_] z
      have zL := LUM_tk zF yL
      have zk := OPk_tk h12 zF yk
      have zK : z.1 93 = x.1 93 := (zF.1.1 93 (by decide)).trans yK
      by_cases hb : bS (g.1 7 5) r
      · rw [if_pos hb] at zO zE
        rw [if_pos hb]
        have he2 : tkC T (g.1 7 5) D 9218868437227405312 [] (evA (evA F (nI r) (T r)) (100 + nI r) (T r)) = q := by
          rw [← he]
          exact ((if_pos k1).trans (if_neg hb)).symm
        have qq := ih (A ++ [r]) hA1 z _ zL zO zE (rnF_tr yF (tkF_rn zF)) zk zK he2
        rw [hAl, ← nI_1] at qq
        repeat (first | (refine sw_at (n := 35) rfl ?_; exact (sw_pick [1, 0, 2, 3, 4, 5] rfl qq)) | refine sw_s hT rfl rfl ?_)
      · rw [if_neg hb] at zO zE
        rw [if_neg hb]
        have hb2 : (g.1 7 5 >>> (nI r &&& 31)) &&& 1 = 0 := Decidable.byContradiction hb
        have he2 : tkC T (g.1 7 5) D (FP.dadd (T (([] ++ [r] : List Nat).headD 0)) 4588807732320345784) ([] ++ [r]) (evA F (nI r) (T r)) = q := by
          rw [← he]
          exact ((if_pos k1).trans (if_pos hb2)).symm
        have qq := K2 D (A ++ [r]) hA1 z ([] ++ [r]) _ zL zO (by simp only [List.length_append, List.length_cons, List.length_nil]; omega) (by simp) zE (rnF_tr yF (tkF_rn zF)) zk zK he2
        rw [hAl, ← nI_1] at qq
        have z92 := (zO.2 0 r rfl).2
        have fin : SW X mX7_round 63 [(7, .int (nI A.length + 1)), (8, .int 1), (0, .ref 83), (1, .double t), (3, .double cur), (5, .double dur)] [] z := by
          repeat (refine sw_s hT rfl rfl ?_)
          refine sw_b hT rfl rfl (fun c => absurd c ((by decide))) (fun _ => ?_)
          repeat (refine sw_s hT rfl rfl ?_)
          refine sw_dald hT rfl rfl (in12 (by omega : 0 < 12)) ?_
          rw [show (0 : Int32).toNatClampNeg = 0 by decide, z92]
          repeat (first | (refine sw_at (n := 89) rfl ?_; exact (sw_pick [0, 1, 3, 4, 5, 6] rfl qq)) | refine sw_s hT rfl rfl ?_)
        repeat (refine sw_s hT rfl rfl ?_)
        rw [show fks z 83 10 0 = .int (nI L.length) from congrArg Value.int zL.1]
        refine sw_b hT rfl rfl (fun c3 => ?_) (fun c3 => ?_)
        · exact fin
        · repeat (refine sw_s hT rfl rfl ?_)
          refine sw_b hT rfl rfl (fun c => absurd c ((by decide))) (fun _ => ?_)
          exact fin
  repeat (refine sw_s hT rfl rfl ?_)
  refine sw_cv hT rfl (r_isPathOpen _ (u2 g.1 7 6 om, g.2) x n P hR0.1.1 hO2 hP7 hPl hP hPm) rfl rfl rfl rfl (Nat.le_of_ble_eq_true rfl) ?_
  rw [eo, hs1]
  refine sw_b hT rfl rfl (fun _ => ?_) (fun c => absurd (rfl) c)
  repeat (refine sw_s hT rfl rfl ?_)
  refine sw_b hT rfl rfl (fun _ => ?_) (fun c => absurd ((hs2)) c)
  repeat (refine sw_s hT rfl rfl ?_)
  refine sw_cvR hT rfl (r_lineUp _ g x n P cur t hR0 hG hP7 hP hPl hPm ok) rfl rfl rfl rfl (Nat.le_of_ble_eq_true rfl) ?_
  rw [← ho, ← hTT, ← hLM]
  rintro _ y ⟨rfl, yL, yf, yj⟩
  show SW X mX7_round 24 _ [] y
  obtain ⟨z, hz⟩ : ∃ z : Hp, z = (u2 y.1 83 13 0, y.2) := ⟨_, rfl⟩
  have zj : ∀ j, j ≠ 13 → z.1 83 j = y.1 83 j := fun j hj => by rw [hz]; exact u2_k y.1 83 13 0 hj
  have z13 : z.1 83 13 = 0 := by rw [hz]; exact u2_at y.1 83 13 0
  have zo : ∀ j, j ≠ 83 → z.1 j = y.1 j := fun j hj => by rw [hz]; exact u2_ne (f := y.1) (i := 83) (j := j) (k := 13) (v := 0) hj
  have zd : z.2 = y.2 := by rw [hz]
  have zf : fr [83] y z := by rw [hz]; exact fr_wI (by decide)
  have y84 : y.1 84 = x.1 84 := yf.1 84 (by decide)
  have y85 : y.2.1 85 = x.2.1 85 := yf.2.1 85 (by decide)
  have qq := K1 L [] rfl z E ⟨(zj 10 (by decide)).trans yL.1, fun i e hi => by rw [zo 89 (by decide), zd]; exact yL.2 i e hi⟩ ⟨z13, fun i e hi => by cases hi⟩ ⟨by rw [zo 84 (by decide), y84]; exact hE.1, hE.2.1, fun i c t hi => by rw [zo 84 (by decide), y84, zd, y85]; exact hE.2.2 i c t hi⟩ ⟨fr_tr (fr_mono yf (by decide)) (fr_mono zf (by decide)), fun j a b => (zj j b).trans (yj j a), fun j _ _ _ => by rw [zo 84 (by decide), y84], fun j _ _ => by rw [zd, y85]⟩ (fun k hk => by rw [zo 84 (by decide), y84]; exact hO k hk) ((zo 93 (by decide)).trans (yf.1 93 (by decide))) (by rw [hL]; exact hq)
  rw [hz] at qq
  repeat (first | (refine sw_at (n := 35) rfl ?_; exact (qq)) | refine sw_s hT rfl rfl ?_)
