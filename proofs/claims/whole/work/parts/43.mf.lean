/-! the reference's simulation, whole -/
/-- how many recloses are left -/
def phi (k : Nat → Nat) : Nat → Nat
  | 0 => 0
  | n + 1 => phi k n + (3 - k n)
theorem phi_le (k : Nat → Nat) : ∀ n, phi k n ≤ 3 * n
  | 0 => Nat.le_refl _
  | n + 1 => by have := phi_le k n; unfold phi; omega
theorem phi_mono {k j : Nat → Nat} (h : ∀ r, k r ≤ j r) : ∀ n, phi j n ≤ phi k n
  | 0 => Nat.le_refl _
  | n + 1 => by have := phi_mono h n; have := h n; unfold phi; omega
theorem phi_lt {k j : Nat → Nat} (h : ∀ r, k r ≤ j r) {l : Nat} (h1 : k l < j l) (h2 : k l < 3) : ∀ n, l < n → phi j n < phi k n
  | 0, q => absurd q (by omega)
  | n + 1, q => by
    have a := phi_mono h n
    have b := h n
    by_cases hl : l = n
    · subst hl; unfold phi; omega
    · have := phi_lt h h1 h2 n (by omega); unfold phi; omega
theorem opK_cnt {K : Nat → Int32} {k : Nat → Nat} {r : Nat} : ∀ {O : List Nat}, K r = nI (k r) → opK O K r = nI (k r + O.count r)
  | [], h => h
  | a :: O, h => by
    show opK O (vf_upd K a (K a + 1)) r = _
    by_cases ha : r = a
    · subst ha
      have := opK_cnt (K := vf_upd K r (K r + 1)) (k := fun j => k j + 1) (r := r) (O := O) (by
        show (if r = r then K r + 1 else K r) = nI (k r + 1)
        rw [if_pos rfl, h, nI_1])
      rw [this, List.count_cons_self]
      exact congrArg nI (by show k r + 1 + O.count r = _; omega)
    · have := opK_cnt (K := vf_upd K a (K a + 1)) (k := k) (r := r) (O := O) (by
        show (if r = a then K a + 1 else K r) = nI (k r)
        rw [if_neg ha, h])
      rw [this, List.count_cons_of_ne (fun q => ha q.symm)]
theorem runC_inf {m st : Int32} {sh : Nat → Int32} {o : Nat → UInt64} {dur cl : UInt64} {om : Int32} {K : Nat → Int32} {E : Ev} (h : ¬ cml 9218868437227405312 dur < 0) : ∀ d, runC m st sh o dur d 9218868437227405312 om K E cl = (om, E, cl)
  | 0 => rfl
  | d + 1 => by
    by_cases q : m &&& om = 0
    · exact runC_1 q h
    · exact runC_0 q
/-- what a simulation needs of its numbers -/
def smOK (g : Hp) (m : Int32) (P : List Nat) (cur dur : UInt64) : Prop := ¬ cml 9218868437227405312 dur < 0 ∧ (∀ t : UInt64, t.toNat ≤ 9218868437227405312 → ¬ cml t 0 < 0) ∧ ∀ t : UInt64, t.toNat ≤ 9218868437227405312 → cml t dur < 0 → luOK g P cur t ∧ ltC m (fun r => tfS g r cur) (fun r => FP.dadd t (tfS g r cur)) 12 = mlC (fun r => tfS g r cur) (fun r => FP.dadd t (tfS g r cur)) P [] ∧ ∀ r, r ∈ P → ¬ cml (tfS g r cur) 9218868437227405312 = 0 → cmg (FP.dadd t (tfS g r cur)) 9218868437227405312 < 0 ∧ vf_n64 (FP.dadd (FP.dadd t (tfS g r cur)) 4588807732320345784) ∧ vf_n64 (FP.dadd (FP.dadd (FP.dadd t (tfS g r cur)) 4588807732320345784) 4602678819172646912) ∧ (FP.dadd (FP.dadd (FP.dadd t (tfS g r cur)) 4588807732320345784) 4602678819172646912).toNat ≤ 9218868437227405312
def smF (x z : Hp) : Prop := fr [83, 84, 85, 88, 89, 90, 91, 92, 93] x z ∧ (∀ j, j ≠ 7 → j ≠ 10 → j ≠ 13 → z.1 83 j = x.1 83 j) ∧ (∀ j, j < 110 → j ≠ 1 → (∀ k, j ≠ 2 + 9 * k + 8) → z.1 84 j = x.1 84 j) ∧ ∀ j, j < 16 → j ≠ 3 → z.2.1 85 j = x.2.1 85 j
theorem smF_rn {x y z : Hp} (h : smF x y) (k : rnF y z) : smF x z := ⟨fr_tr h.1 (fr_mono k.1 (by decide)), fun j a b c => (k.2.1 j b c).trans (h.2.1 j a b c), fun j a b c => (k.2.2.1 j a b c).trans (h.2.2.1 j a b c), fun j a b => (k.2.2.2 j a b).trans (h.2.2.2 j a b)⟩
theorem sw_rounds {X : Ctx} (hT : tab X mX7_simulate tX7_simulate) (g x0 : Hp) (n ln pc : Nat) (m : Int32) (P : List Nat) (cur dur : UInt64) (hG : RG1 g n) (h12 : n ≤ 12) (hsh : ∀ r, r < n → ∃ s, s ≤ 3 ∧ g.1 12 r = nI s) (hPl : P.length ≤ 12) (hPm : ∀ e, e ∈ P → e < n) (hm : ∀ om, m &&& om = 0 ↔ opB om P = false) (ok : smOK g m P cur dur) (RES : Int32 × Ev × UInt64) {Q : Po} (hR : retP X Q) (hQ : ∀ z, OPk RES.1 z n → EVM z RES.2.1 → z.2.1 85 3 = RES.2.2 → rnF x0 z → Q (some (.int (z.1 84 1))) z) :
    ∀ d i, d + i = 37 → ∀ (y : Hp) (t : UInt64) (om : Int32) (E : Ev) (k : Nat → Nat) (cl : UInt64), phi k 12 < d → (∀ r, r < 12 → y.1 93 r = nI (k r)) → (∀ r, k r ≤ 12 * i) → t.toNat ≤ 9218868437227405312 → REL g y n → OPk om y n → EVM y E → y.2.1 85 3 = cl → y.1 83 7 = nI P.length → (∀ (j e : Nat), P[j]? = some e → y.1 88 j = nI e) → rnF x0 y → runC m (g.1 7 5) (g.1 12) (fun r => tfS g r cur) dur d t om (y.1 93) E cl = RES → SW X mX7_simulate 93 [(7, .double t), (5, .double cur), (0, .ref 83), (1, .int (nI ln)), (2, .int (nI pc)), (3, .double dur)] [] y := by
  obtain ⟨ok0, okn, okt⟩ := ok
  -- the end
  have fin : ∀ (z : Hp), OPk RES.1 z n → EVM z RES.2.1 → z.2.1 85 3 = RES.2.2 → rnF x0 z → SW X mX7_simulate 93 [(7, .double 13830554455654793216), (5, .double cur), (0, .ref 83), (1, .int (nI ln)), (2, .int (nI pc)), (3, .double dur)] [] z := by
    intro z z1 z2 z3 z4
    repeat (refine sw_s hT rfl rfl ?_)
    refine sw_b hT rfl rfl (fun _ => ?_) (fun c => absurd ((by decide +kernel)) c)
    repeat (refine sw_s hT rfl rfl ?_)
    refine sw_iald hT rfl rfl (inW (by omega : 1 < 170)) ?_
    rw [show (1 : Int32).toNatClampNeg = 1 by decide]
    refine sw_iretP hT rfl rfl rfl hR ?_
    exact hQ z z1 z2 z3 z4
  intro d
  induction d with
  | zero =>
    intro i hi y t om E k cl hphi
    exact absurd hphi (by omega)
  | succ d ih =>
    intro i hi y t om E k cl hphi hk hkb ht yR yO yE ycl y7 y88 yF hres
    repeat (refine sw_s hT rfl rfl ?_)
    refine sw_b hT rfl rfl (fun c => absurd c ((okn t ht))) (fun _ => ?_)
    repeat (refine sw_s hT rfl rfl ?_)
    by_cases hs : opB om P = true ∨ ¬ cml t dur < 0
    · have hres2 : RES = (om, E, cl) := by
        rw [← hres]
        rcases hs with hs | hs
        · refine runC_0 (fun z => ?_)
          rw [(hm om).mp z] at hs; cases hs
        · by_cases z : m &&& om = 0
          · exact runC_1 z hs
          · exact runC_0 z
      refine sw_cv hT rfl (r_round0 _ g y n om P cur t dur yR yO y7 y88 hPl hPm hs) rfl rfl rfl rfl (Nat.le_of_ble_eq_true rfl) ?_
      have q := fin y (by rw [hres2]; exact yO) (by rw [hres2]; exact yE) (by rw [hres2]; exact ycl) yF
      repeat (first | (refine sw_at (n := 93) rfl ?_; exact (sw_pick [0, 1, 2, 3, 4, 5] rfl q)) | refine sw_s hT rfl rfl ?_)
    · have hs1 : opB om P = false := by
        cases h : opB om P with
        | false => rfl
        | true => exact absurd (Or.inl h) hs
      have hs2 : cml t dur < 0 := Decidable.byContradiction (fun z => hs (Or.inr z))
      obtain ⟨k1, k2, k3⟩ := okt t ht hs2
      have hrun := runC_2 (m := m) (st := g.1 7 5) (sh := g.1 12) (o := fun r => tfS g r cur) (dur := dur) (cl := cl) (d := d) (om := om) (K := y.1 93) (E := E) ((hm om).mpr hs1) hs2
      rw [hrun] at hres
      refine sw_cvR hT rfl (r_round1 _ g y n m om P cur t dur E yR hG yO y7 y88 hPl hPm yE hs1 hs2 k1 k2 (fun r hr hc => ⟨(k3 r hr hc).1, (k3 r hr hc).2.1, (k3 r hr hc).2.2.1⟩)) rfl rfl rfl rfl (Nat.le_of_ble_eq_true rfl) ?_
      rintro rr z ⟨hN, z1, z2, z3, z4, z5⟩
      have zF := rnF_tr yF z5
      obtain ⟨q, hq⟩ : ∃ q, tkC (fun r => FP.dadd t (tfS g r cur)) (g.1 7 5) (ltC m (fun r => tfS g r cur) (fun r => FP.dadd t (tfS g r cur)) 12) 9218868437227405312 [] E = q := ⟨_, rfl⟩
      have hNq : rdN m (g.1 7 5) (g.1 12) (fun r => tfS g r cur) (fun r => FP.dadd t (tfS g r cur)) (y.1 93) E = (q.1 ≠ [] ∧ opK q.1 (y.1 93) (rlO q.1) ≤ g.1 12 (rlO q.1)) := by unfold rdN; rw [hq]
      rw [hNq] at hN
      have hqO : ∀ e, e ∈ q.1 → e ∈ P ∧ ¬ cml (tfS g e cur) 9218868437227405312 = 0 := fun e he => by
        rw [← hq, k2] at he
        rcases tkC_mem he with w | w
        · cases w
        · rcases mlC_mem.mp w with w | w
          · cases w
          · exact w
      have hql : q.1.length ≤ 12 := by
        have a := tkC_len (T := fun r => FP.dadd t (tfS g r cur)) (st := g.1 7 5) (L := ltC m (fun r => tfS g r cur) (fun r => FP.dadd t (tfS g r cur)) 12) (c := 9218868437227405312) (O := []) (E := E)
        have b := mlC_len (o := fun r => tfS g r cur) (T := fun r => FP.dadd t (tfS g r cur)) (P := P) (L := [])
        rw [hq] at a
        rw [k2] at a
        simp only [List.length_nil] at a b; omega
      rcases hN with ⟨⟨hne, hle⟩, rfl⟩ | ⟨hN, rfl⟩
      · have hrd := rdC_1 (sh := g.1 12) (om := om) (K := y.1 93) hq hne hle
        have hl := rlO_mem hne
        obtain ⟨hlP, hlc⟩ := hqO _ hl
        have hln := hPm _ hlP
        obtain ⟨s, hs3, hss⟩ := hsh _ hln
        have hcnt : 1 ≤ q.1.count (rlO q.1) := List.count_pos_iff.mpr hl
        have hk2 := opK_cnt (K := y.1 93) (k := k) (r := rlO q.1) (O := q.1) (hk _ (by omega))
        have hkl := hkb (rlO q.1)
        have hcl := List.count_le_length (a := rlO q.1) (l := q.1)
        have hks : k (rlO q.1) + q.1.count (rlO q.1) ≤ s := by
          rw [hk2, hss] at hle
          rcases Nat.lt_or_ge s (k (rlO q.1) + q.1.count (rlO q.1)) with w | w
          · exact absurd hle (nI_ge w (by omega))
          · exact w
        rw [hrd] at hres z1 z2 z3 z4 ⊢
        show SW X mX7_simulate 109 _ [_] z
        have qq := ih (i + 1) (by omega) z _ _ _ (fun r => k r + q.1.count r) _ (by
          have := phi_lt (k := k) (j := fun r => k r + q.1.count r) (fun r => Nat.le_add_right _ _) (l := rlO q.1) (by show k _ < k _ + q.1.count _; omega) (by omega) 12 (by omega)
          omega) (fun r hr => by rw [z2]; exact opK_cnt (hk r hr)) (fun r => by
          have := hkb r
          have := List.count_le_length (a := r) (l := q.1)
          show k r + q.1.count r ≤ _
          omega) ((k3 _ hlP hlc).2.2.2) (REL_rn yR z5) z1 z3 z4 ((z5.2.1 7 (by decide) (by decide)).trans y7) (fun j e hj => by rw [z5.1.1 88 (by decide)]; exact y88 j e hj) zF (by rw [z2]; exact hres)
        repeat (first | (refine sw_at (n := 93) rfl ?_; exact (sw_pick [0, 1, 2, 3, 4, 5] rfl qq)) | refine sw_s hT rfl rfl ?_)
      · have hinf : (rdC m (g.1 7 5) (g.1 12) (fun r => tfS g r cur) (fun r => FP.dadd t (tfS g r cur)) om (y.1 93) E).1 = 9218868437227405312 := by
          by_cases hne : q.1 = []
          · rw [rdC_0 hq hne]
          · rw [rdC_2 hq hne (fun w => hN ⟨hne, w⟩)]
        rw [hinf, runC_inf ok0] at hres
        rw [← hres] at fin
        show SW X mX7_simulate 109 _ [_] z
        have qq := fin z z1 z3 z4 zF
        repeat (first | (refine sw_at (n := 93) rfl ?_; exact (sw_pick [0, 1, 2, 3, 4, 5] rfl qq)) | refine sw_s hT rfl rfl ?_)
theorem OPk_fr {om : Int32} {x y : Hp} {n : Nat} (h : OPk om x n) (e : ∀ k, k < n → y.1 84 (2 + 9 * k + 8) = x.1 84 (2 + 9 * k + 8)) : OPk om y n := fun k hk => by rw [e k hk]; exact h k hk
theorem r_simulate (Y : Kx) (g x : Hp) (c n k p : Nat) (om : Int32) (dur : UInt64) (hc : c ≤ 4) (h5 : x.1 83 5 = nI c) (hR0 : REL g x n) (hG : RG1 g n) (hk : k < n) (hp : p ≤ 100) (hd : inD dur 4562254508917369340 4696837146684686336) (okc : curOK g k (nI p)) (hO : OPk om x n) (hsh : ∀ r, r < n → ∃ s, s ≤ 3 ∧ g.1 12 r = nI s) (hm : ∀ om, g.1 4 k &&& om = 0 ↔ opB om (pD (fbN g) k).reverse = false) (ok : smOK g (g.1 4 k) (pD (fbN g) k).reverse (curS g k (nI p)) dur) :
    sR Y mX7_simulate [.ref 83, .int (nI k), .int (nI p), .double dur] x (fun rr z => ∃ w, sv0 x c w ∧ ∃ K0 : Nat → Int32, (∀ j, j < 12 → K0 j = 0) ∧ rr = some (.int (z.1 84 1)) ∧ OPk (runC (g.1 4 k) (g.1 7 5) (g.1 12) (fun r => tfS g r (curS g k (nI p))) dur 37 0 om K0 [] 0).1 z n ∧ EVM z (runC (g.1 4 k) (g.1 7 5) (g.1 12) (fun r => tfS g r (curS g k (nI p))) dur 37 0 om K0 [] 0).2.1 ∧ z.2.1 85 3 = (runC (g.1 4 k) (g.1 7 5) (g.1 12) (fun r => tfS g r (curS g k (nI p))) dur 37 0 om K0 [] 0).2.2 ∧ smF w z) := by
  refine sR_of (by decide +kernel) (Nat.le_of_ble_eq_true rfl) (fun X h hY hR => ?_)
  have hT := kX7_simulate h
  have h12 := hR0.1.1
  have hfk := MBf hR0.1 k hk
  repeat (refine sw_s hT rfl rfl ?_)
  refine sw_cv hT rfl (r_isLocation _ x (nI k) (nI p)) rfl rfl rfl rfl (Nat.le_of_ble_eq_true rfl) ?_
  refine sw_b hT rfl rfl (fun c => absurd c ((isP hR0.1.2.1 h12 hk hp))) (fun _ => ?_)
  repeat (refine sw_s hT rfl rfl ?_)
  refine sw_cs hT rfl (r_inReal _ x dur _ _) rfl rfl (Nat.le_of_ble_eq_true rfl) ?_
  refine sw_b hT rfl rfl (fun c => absurd c ((hd))) (fun _ => ?_)
  repeat (refine sw_s hT rfl rfl ?_)
  rw [th_def, fks_th]
  refine sw_b hT rfl rfl (fun _ => ?_) (fun c => absurd ((by decide)) c)
  repeat (refine sw_s hT rfl rfl ?_)
  refine sw_cvR hT rfl (r_save _ (th x 0) c hc (th_5 h5)) rfl rfl rfl rfl (Nat.le_of_ble_eq_true rfl) ?_
  rintro _ w ⟨rfl, hw⟩
  have w84 := sv0_84 hw
  have w85 := sv0_85 hw
  show SW X mX7_simulate 44 _ [] w
  repeat (refine sw_s hT rfl rfl ?_)
  refine sw_iast hT rfl rfl (inW (by omega : 1 < 170)) ?_
  rw [show (1 : Int32).toNatClampNeg = 1 by decide]
  repeat (refine sw_s hT rfl rfl ?_)
  refine sw_dast hT rfl rfl (inV (by omega : 3 < 76)) ?_
  rw [show (3 : Int32).toNatClampNeg = 3 by decide]
  obtain ⟨v, hv⟩ : ∃ v : Hp, v = (u2 w.1 84 1 0, u2 w.2.1 85 3 0, w.2.2) := ⟨_, rfl⟩
  have v84 : ∀ j, j ≠ 1 → v.1 84 j = w.1 84 j := fun j hj => by rw [hv]; exact u2_k w.1 84 1 0 hj
  have v841 : v.1 84 1 = 0 := by rw [hv]; exact u2_at w.1 84 1 0
  have v85 : ∀ j, j ≠ 3 → v.2.1 85 j = w.2.1 85 j := fun j hj => by rw [hv]; exact u2_k w.2.1 85 3 0 hj
  have v853 : v.2.1 85 3 = 0 := by rw [hv]; exact u2_at w.2.1 85 3 0
  have vf : fr [84, 85] w v := by rw [hv]; exact fr_tr (fr_wI (by decide)) (fr_wD (x := (u2 w.1 84 1 0, w.2)) (by decide))
  have v83 : v.1 83 = w.1 83 := vf.1 83 (by decide)
  rw [← hv]
  -- the counters emptied
  have K : ∀ d j, d + j = 12 → ∀ y, fr [93] v y → (∀ r, r < j → y.1 93 r = 0) → SW X mX7_simulate 61 [(5, .int (nI j)), (0, .ref 83), (1, .int (nI k)), (2, .int (nI p)), (3, .double dur)] [] y := by
    intro d
    induction d with
    | zero =>
      intro j hj y hy y93
      have hj : j = 12 := by omega
      subst hj
      have y84 : y.1 84 = v.1 84 := hy.1 84 (by decide)
      have y85 : y.2.1 85 = v.2.1 85 := hy.2.1 85 (by decide)
      have ye : ∀ j, j < 110 → j ≠ 1 → (∀ k, j ≠ 2 + 9 * k + 8) → y.1 84 j = x.1 84 j := fun j _ h1 _ => by rw [y84, v84 j h1, w84]
      have yd : ∀ j, j < 16 → j ≠ 3 → y.2.1 85 j = x.2.1 85 j := fun j _ h1 => by rw [y85, v85 j h1, w85]
      have yR : REL g y n := REL_lo hR0 ye yd
      repeat (refine sw_s hT rfl rfl ?_)
      refine sw_b hT rfl rfl (fun _ => ?_) (fun c => absurd ((by decide)) c)
      repeat (refine sw_s hT rfl rfl ?_)
      refine sw_cvR hT rfl (r_currentAt _ g y n k p yR hk hp okc) rfl rfl rfl rfl (Nat.le_of_ble_eq_true rfl) ?_
      rintro _ z ⟨rfl, zs, z7, z88⟩
      have z84 : z.1 84 = y.1 84 := zs.1.1 84 (by decide)
      have z85 : z.2.1 85 = y.2.1 85 := zs.1.2.1 85 (by decide)
      have z93 : z.1 93 = y.1 93 := zs.1.1 93 (by decide)
      have wz : smF w z := by
        refine ⟨fr_tr (fr_tr (fr_mono vf (by decide)) (fr_mono hy (by decide))) (fr_mono zs.1 (by decide)), fun j a _ _ => ?_, fun j _ a _ => ?_, fun j _ a => ?_⟩
        · rw [zs.2 j a, hy.1 83 (by decide), v83]
        · rw [z84, y84, v84 j a]
        · rw [z85, y85, v85 j a]
      have hl12 : (pD (fbN g) k).reverse.length ≤ 12 := by rw [List.length_reverse]; have := pD_len hfk; omega
      have q := sw_rounds hT g z n k p (g.1 4 k) (pD (fbN g) k).reverse (curS g k (nI p)) dur hG h12 hsh hl12 (fun e he => by have := pD_le hfk e (List.mem_reverse.mp he); omega) hm ok _ hR (fun u u1 u2 u3 u4 => ⟨w, hw, z.1 93, fun j hj => by rw [z93]; exact y93 j hj, rfl, u1, u2, u3, smF_rn wz u4⟩) 37 0 rfl z 0 om [] (fun _ => 0) 0 (by
        have := phi_le (fun _ => 0) 12
        omega) (fun r hr => by rw [z93, y93 r hr]; decide) (fun r => Nat.zero_le _) (by decide +kernel) (REL_lo yR (fun j _ _ _ => by rw [z84]) (fun j _ _ => by rw [z85])) (OPk_fr hO (fun i hi => by rw [z84, y84, v84 _ (by omega), w84])) ⟨by rw [z84, y84, v841]; decide, by decide, fun i c t hi => by cases hi⟩ (by rw [z85, y85, v853]) z7 z88 rnF_rf rfl
      show SW X mX7_simulate 88 _ [_] z
      repeat (first | (refine sw_at (n := 93) rfl ?_; exact (sw_pick [0, 1, 2, 3, 4, 5] rfl q)) | refine sw_s hT rfl rfl ?_)
    | succ d ih =>
      intro j hj y hy y93
      have q := ih (j + 1) (by omega) (u2 y.1 93 j 0, y.2) (fr_tr hy (fr_wI (by decide))) (fun r hr => by
        show u2 y.1 93 j 0 93 r = 0
        by_cases hrj : r = j
        · subst hrj; exact u2_at _ _ _ _
        · rw [u2_k _ _ _ _ hrj]; exact y93 r (by omega))
      rw [← nI_1] at q
      repeat (refine sw_s hT rfl rfl ?_)
      rw [show (12 : Int32) = nI 12 by decide]
      refine sw_b hT rfl rfl (fun c => absurd c ((nI_ge (by omega) (by omega)))) (fun _ => ?_)
      repeat (refine sw_s hT rfl rfl ?_)
      refine sw_iast hT rfl rfl (in12 (by omega)) ?_
      rw [cl12 (by omega)]
      repeat (first | (refine sw_at (n := 61) rfl ?_; exact (q)) | refine sw_s hT rfl rfl ?_)
  have q := K 12 0 (by omega) v fr_rf (fun r hr => absurd hr (by omega))
  repeat (first | (refine sw_at (n := 61) rfl ?_; exact (q)) | refine sw_s hT rfl rfl ?_)
