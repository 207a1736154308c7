/-! playRound, run -/
theorem tkC_mem {T : Nat → UInt64} {st : Int32} {e : Nat} : ∀ {L : List Nat} {c : UInt64} {O : List Nat} {E : Ev}, e ∈ (tkC T st L c O E).1 → e ∈ O ∨ e ∈ L
  | [], _, _, _, h => Or.inl h
  | r :: L, c, O, E, h => by
    unfold tkC at h
    split at h
    · split at h
      · rcases tkC_mem h with q | q
        · rcases List.mem_append.mp q with q | q
          · exact Or.inl q
          · exact Or.inr (by rw [List.mem_singleton.mp q]; exact List.mem_cons_self)
        · exact Or.inr (List.mem_cons_of_mem _ q)
      · rcases tkC_mem h with q | q
        · exact Or.inl q
        · exact Or.inr (List.mem_cons_of_mem _ q)
    · exact Or.inl h
theorem tkC_len {T : Nat → UInt64} {st : Int32} : ∀ {L : List Nat} {c : UInt64} {O : List Nat} {E : Ev}, (tkC T st L c O E).1.length ≤ O.length + L.length
  | [], _, _, _ => by unfold tkC; simp
  | r :: L, c, O, E => by
    unfold tkC
    split
    · split
      · have := tkC_len (T := T) (st := st) (L := L) (c := FP.dadd (T ((O ++ [r]).headD 0)) 4588807732320345784) (O := O ++ [r]) (E := evA E (nI r) (T r))
        simp only [List.length_append, List.length_cons, List.length_nil] at this ⊢
        omega
      · have := tkC_len (T := T) (st := st) (L := L) (c := c) (O := O) (E := evA (evA E (nI r) (T r)) (100 + nI r) (T r))
        simp only [List.length_cons] at this ⊢
        omega
    · simp only [List.length_cons]; omega
theorem tkC_congr {T T' : Nat → UInt64} {st : Int32} : ∀ {L : List Nat} {c : UInt64} {O : List Nat} {E : Ev}, (∀ e, e ∈ L ∨ e ∈ O → T e = T' e) → tkC T st L c O E = tkC T' st L c O E
  | [], _, _, _, _ => rfl
  | r :: L, c, O, E, h => by
    have hr : T r = T' r := h r (Or.inl List.mem_cons_self)
    have hh : T ((O ++ [r]).headD 0) = T' ((O ++ [r]).headD 0) := by
      refine h _ ?_
      cases O with
      | nil => exact Or.inl List.mem_cons_self
      | cons a O => exact Or.inr List.mem_cons_self
    unfold tkC
    rw [hr, hh, tkC_congr (L := L) (fun e he => h e (he.elim (fun q => Or.inl (List.mem_cons_of_mem _ q)) (fun q => (List.mem_append.mp q).elim Or.inr (fun q => by rw [List.mem_singleton.mp q]; exact Or.inl List.mem_cons_self)))), tkC_congr (L := L) (fun e he => h e (he.elim (fun q => Or.inl (List.mem_cons_of_mem _ q)) Or.inr))]
theorem opE_congr {T T' : Nat → UInt64} : ∀ {O : List Nat} {E : Ev}, (∀ e, e ∈ O → T e = T' e) → opE T O E = opE T' O E
  | [], _, _ => rfl
  | r :: O, E, h => by
    unfold opE
    rw [h r List.mem_cons_self, opE_congr (fun e he => h e (List.mem_cons_of_mem _ he))]
theorem rlO_mem : ∀ {O : List Nat}, O ≠ [] → rlO O ∈ O := by
  have key : ∀ (B : List Nat) (a : Nat), B.foldl Nat.max a = a ∨ B.foldl Nat.max a ∈ B := by
    intro B
    induction B with
    | nil => exact fun a => Or.inl rfl
    | cons b B ih =>
      intro a
      rcases ih (Nat.max a b) with q | q
      · show (B.foldl Nat.max (Nat.max a b) = a) ∨ (B.foldl Nat.max (Nat.max a b) ∈ b :: B)
        rw [q]
        rcases Nat.le_total a b with z | z
        · exact Or.inr (by rw [show Nat.max a b = b from Nat.max_eq_right z]; exact List.mem_cons_self)
        · exact Or.inl (Nat.max_eq_left z)
      · exact Or.inr (List.mem_cons_of_mem _ q)
  intro O h
  cases O with
  | nil => exact absurd rfl h
  | cons f P =>
    rcases key P f with q | q
    · show P.foldl Nat.max f ∈ f :: P
      rw [q]; exact List.mem_cons_self
    · exact List.mem_cons_of_mem _ q
/-- what a round needs of its numbers -/
def rdOK (x : Hp) (m : Int32) (cur t : UInt64) : Prop := ∀ r, r < 12 → ¬ (m >>> (nI r &&& 31)) &&& 1 = 0 → tfOK x r cur ∧ (cmg (tfS x r cur) 9218868437227405312 < 0 → vf_n64 (FP.dadd t (tfS x r cur)) ∧ vf_n64 (FP.dadd (FP.dadd t (tfS x r cur)) 4588807732320345784) ∧ vf_n64 (FP.dadd (FP.dadd (FP.dadd t (tfS x r cur)) 4588807732320345784) 4602678819172646912))
def rdS (x : Hp) (m : Int32) (cur t : UInt64) (E : Ev) : UInt64 × Int32 × (Nat → Int32) × Ev × UInt64 := rdC m (x.1 7 5) (x.1 12) (fun r => tfS x r cur) (fun r => FP.dadd t (tfS x r cur)) (x.1 7 6) (x.1 82) E
def rdP (x : Hp) (R : UInt64 × Int32 × (Nat → Int32) × Ev × UInt64) : Po := fun rr x' => rr = some (.double R.1) ∧ x'.1 7 6 = R.2.1 ∧ (∀ k, k ≠ 6 → x'.1 7 k = x.1 7 k) ∧ x'.1 82 = R.2.2.1 ∧ EV x' R.2.2.2.1 ∧ x'.2.1 13 3 = R.2.2.2.2 ∧ fr [7, 13, 14, 15, 78, 79, 80, 81, 82] x x'
theorem EV_w {x : Hp} {E : Ev} {v : UInt64} (h : EV x E) : EV (x.1, u2 x.2.1 13 3 v, x.2.2) E := by
  refine ⟨h.1, h.2.1, fun i c t hi => ?_⟩
  show x.1 14 i = c ∧ u2 x.2.1 13 3 v 15 i = t
  rw [u2_ne (by decide)]
  exact h.2.2 i c t hi
theorem c_playRound (Y : Kx) (x : Hp) (m : Int32) (cur t : UInt64) (E : Ev) (hE : EV x E) (ok : rdOK x m cur t) : sR Y mX3_playRound [.ref 78, .ref 1, .int m, .double cur, .double t] x (rdP x (rdS x m cur t E)) := by
  refine sR_of (by decide +kernel) (Nat.le_of_ble_eq_true rfl) (fun X h hY hR => ?_)
  have hT := kX3_playRound h
  unfold rdS rdC at hR
  obtain ⟨o, ho⟩ : ∃ o : Nat → UInt64, o = fun r => tfS x r cur := ⟨_, rfl⟩
  obtain ⟨T, hTT⟩ : ∃ T : Nat → UInt64, T = fun r => FP.dadd t (tfS x r cur) := ⟨_, rfl⟩
  rw [← ho, ← hTT] at hR
  dsimp only at hR
  repeat (refine sw_s hT rfl rfl ?_)
  refine sw_cvR hT rfl (c_lineUpTrips _ x m cur t (fun r h1 h2 => ⟨(ok r h1 h2).1, fun h3 => ((ok r h1 h2).2 h3).1⟩)) rfl rfl rfl rfl (Nat.le_of_ble_eq_true rfl) ?_
  rw [← ho, ← hTT]
  rintro _ y ⟨rfl, y1, y2, y3⟩
  have hmL : ∀ e, e ∈ ltC m o T 12 → e < 12 := fun e he => (ltC_mem (Nat.le_refl _) he).2.1
  have hTok : ∀ e, e ∈ ltC m o T 12 → vf_n64 (FP.dadd (T e) 4588807732320345784) ∧ vf_n64 (FP.dadd (FP.dadd (T e) 4588807732320345784) 4602678819172646912) := by
    intro e he
    obtain ⟨-, h2, h3, h4⟩ := ltC_mem (Nat.le_refl _) he
    have := (ok e h2 h3).2 (by rw [ho] at h4; exact h4)
    rw [hTT]
    exact ⟨this.2.1, this.2.2⟩
  have hlL : (ltC m o T 12).length ≤ 12 := ltC_len 12
  generalize ltC m o T 12 = L at hR y1 y2 hmL hTok hlL
  have y7 : y.1 7 = x.1 7 := y3.1 7 (by decide)
  have y12 : y.1 12 = x.1 12 := y3.1 12 (by decide)
  have y82 : y.1 82 = x.1 82 := y3.1 82 (by decide)
  have hyT : ∀ e, e ∈ L → y.2.1 80 e = T e := fun e he => by rw [y2 e he, hTT]
  show SW X mX3_playRound 12 _ [] y
  repeat (refine sw_s hT rfl rfl ?_)
  refine sw_cvR hT rfl (c_takeTrips _ y L E y1 hmL hlL (EV_fr hE y3 (by decide)) (fun e he => by rw [hyT e he]; exact (hTok e he).1)) rfl rfl rfl rfl (Nat.le_of_ble_eq_true rfl) ?_
  have htk : tkC (y.2.1 80) (y.1 7 5) L 9218868437227405312 [] E = tkC T (x.1 7 5) L 9218868437227405312 [] E := by
    rw [y7]
    exact tkC_congr (fun e he => he.elim (hyT e) (fun q => by cases q))
  rw [htk]
  have hOm : ∀ e, e ∈ (tkC T (x.1 7 5) L 9218868437227405312 [] E).1 → e ∈ L := fun e he => (tkC_mem he).elim (fun q => by cases q) id
  have hOl : (tkC T (x.1 7 5) L 9218868437227405312 [] E).1.length ≤ 12 := by
    have := tkC_len (T := T) (st := x.1 7 5) (L := L) (c := 9218868437227405312) (O := []) (E := E)
    simp only [List.length_nil] at this
    omega
  generalize tkC T (x.1 7 5) L 9218868437227405312 [] E = q at hR hOm hOl
  obtain ⟨O, E1⟩ := q
  dsimp only at hR hOm hOl
  rintro _ z ⟨rfl, z1, z2, z3, z4, z5⟩
  dsimp only at z1 z2
  have z7 : z.1 7 = x.1 7 := by rw [z3.1 7 (by decide), y7]
  have z82 : z.1 82 = x.1 82 := by rw [z3.1 82 (by decide), y82]
  have z12 : z.1 12 = x.1 12 := by rw [z3.1 12 (by decide), y12]
  have z80 : z.2.1 80 = y.2.1 80 := z3.2.1 80 (by decide)
  have xz : fr [7, 13, 14, 15, 78, 79, 80, 81, 82] x z := fr_tr (fr_mono y3 (by decide)) (fr_mono z3 (by decide))
  show SW X mX3_playRound 24 _ [] z
  cases O with
  | nil =>
    rw [if_pos rfl] at hR
    repeat (refine sw_s hT rfl rfl ?_)
    rw [show fks z 78 4 0 = .int 0 from congrArg Value.int z1.1]
    refine sw_b hT rfl rfl (fun _ => ?_) (fun c => absurd (rfl) c)
    repeat (refine sw_s hT rfl rfl ?_)
    refine sw_cs hT rfl (c_infinity _ z) rfl rfl (Nat.le_of_ble_eq_true rfl) ?_
    repeat (refine sw_s hT rfl rfl ?_)
    refine sw_cs hT rfl (c_infinity _ _) rfl rfl (Nat.le_of_ble_eq_true rfl) ?_
    refine sw_dretP hT rfl rfl hR ?_
    exact ⟨rfl, by show z.1 7 6 = _; rw [z7], fun k _ => by show z.1 7 k = _; rw [z7], z82, EV_w z2, u2_at z.2.1 13 3 9218868437227405312, fr_tr xz (fr_wD (by decide))⟩
  | cons f P =>
    rw [if_neg (by simp)] at hR
    have hfL : f ∈ L := hOm f List.mem_cons_self
    have hf12 : f < 12 := hmL f hfL
    have h0 : (f :: P) ≠ [] := by simp
    generalize hOO : f :: P = O at hR hOm hOl z1 h0
    have hf0 : O[0]? = some f := by rw [← hOO]; rfl
    have hfh : O.headD 0 = f := by rw [← hOO]; rfl
    have hOlen : O.length = P.length + 1 := by rw [← hOO]; rfl
    rw [hfh] at hR
    have hO12 : ∀ e, e ∈ O → e < 12 := fun e he => hmL e (hOm e he)
    have hzT : ∀ e, e ∈ O → z.2.1 80 e = T e := fun e he => by rw [z80]; exact hyT e (hOm e he)
    repeat (refine sw_s hT rfl rfl ?_)
    rw [show fks z 78 4 0 = .int (nI O.length) from congrArg Value.int z1.1]
    refine sw_b hT rfl rfl (fun c => absurd c (by rw [hOlen]; exact nI_ne0 (by omega) (by omega))) (fun _ => ?_)
    repeat (refine sw_s hT rfl rfl ?_)
    refine sw_iald hT rfl rfl (in12 (by omega : 0 < 12)) ?_
    rw [show (0 : Int32).toNatClampNeg = 0 by decide, z1.2 0 f hf0]
    refine sw_cv hT rfl (c_openingTime _ z f hf12 (by rw [z80, hyT f hfL]; exact (hTok f hfL).1)) rfl rfl rfl rfl (Nat.le_of_ble_eq_true rfl) ?_
    rw [show z.2.1 80 f = T f by rw [z80, hyT f hfL]]
    repeat (refine sw_s hT rfl rfl ?_)
    obtain ⟨w, hw⟩ : ∃ w : Hp, w = (z.1, u2 z.2.1 13 3 (FP.dadd (T f) 4588807732320345784), z.2.2) := ⟨_, rfl⟩
    rw [← hw]
    have w1 : w.1 = z.1 := by rw [hw]
    have w80 : w.2.1 80 = z.2.1 80 := by
      rw [hw]
      show u2 z.2.1 13 3 (FP.dadd (T f) 4588807732320345784) 80 = z.2.1 80
      exact u2_ne (by decide)
    have w13 : w.2.1 13 3 = FP.dadd (T f) 4588807732320345784 := by rw [hw]; exact u2_at z.2.1 13 3 (FP.dadd (T f) 4588807732320345784)
    have wf : fr [13] z w := by rw [hw]; exact fr_wD (by decide)
    have wE : EV w E1 := by
      refine ⟨by rw [w1]; exact z2.1, z2.2.1, fun i c t hi => ?_⟩
      rw [w1, show w.2.1 15 = z.2.1 15 from wf.2.1 15 (by decide)]
      exact z2.2.2 i c t hi
    have wT : ∀ e, e ∈ O → w.2.1 80 e = T e := fun e he => by rw [w80]; exact hzT e he
    refine sw_cvR hT rfl (c_openThem _ w O E1 ⟨by rw [w1]; exact z1.1, fun i e hi => by rw [w1]; exact z1.2 i e hi⟩ hO12 hOl wE (fun e he => by rw [wT e he]; exact (hTok e (hOm e he)).1)) rfl rfl rfl rfl (Nat.le_of_ble_eq_true rfl) ?_
    rw [opE_congr (T := w.2.1 80) (T' := T) wT, w1]
    rintro _ v ⟨rfl, v1, v2, v3, v4, v5, v6⟩
    have v80 : v.2.1 80 = w.2.1 80 := v5.2.1 80 (by decide)
    have hrl := rlO_mem h0
    have hvT : v.2.1 80 (rlO O) = T (rlO O) := by rw [v80]; exact wT _ hrl
    have vO : OPl v O := ⟨by rw [v5.1 78 (by decide), w1]; exact z1.1, fun i e hi => by rw [v5.1 81 (by decide), w1]; exact z1.2 i e hi⟩
    have v12 : v.1 12 = x.1 12 := by rw [v5.1 12 (by decide), w1, z12]
    rw [z7] at v2 v3
    rw [z82] at v4
    have xv : fr [7, 13, 14, 15, 78, 79, 80, 81, 82] x v := fr_tr xz (fr_tr (fr_mono wf (by decide)) (fr_mono v5 (by decide)))
    have v13 : v.2.1 13 3 = FP.dadd (T f) 4588807732320345784 := by rw [v6, w13]
    show SW X mX3_playRound 74 _ [] v
    repeat (refine sw_s hT rfl rfl ?_)
    refine sw_cvR hT rfl (c_reclose _ v O (opE T O E1) vO hO12 hOl h0 v1 (by rw [hvT]; exact hTok _ (hOm _ hrl))) rfl rfl rfl rfl (Nat.le_of_ble_eq_true rfl) ?_
    intro rr u hu
    unfold rcP at hu
    rw [hvT, v4, v12] at hu
    split at hu
    · next hc =>
      rw [if_pos hc] at hR
      obtain ⟨rfl, u1, u2', u3, u4, u5⟩ := hu
      show SW X mX3_playRound 86 _ [_] u
      refine sw_dretP hT rfl rfl hR ?_
      exact ⟨rfl, by rw [u2', v2], fun k hk => by rw [u3 k hk, v3 k hk], by rw [u4.1 82 (by decide), v4], u1, by rw [u5, v13], fr_tr xv (fr_mono u4 (by decide))⟩
    · next hc =>
      rw [if_neg hc] at hR
      obtain ⟨rfl, rfl⟩ := hu
      show SW X mX3_playRound 86 _ [_] u
      refine sw_dretP hT rfl rfl hR ?_
      exact ⟨rfl, v2, v3, v4, v1, v13, xv⟩
