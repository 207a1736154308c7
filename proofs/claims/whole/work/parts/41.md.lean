/-! the reference's simulation: a round -/
/-- the row of what opens -/
def OPM (x : Hp) (T : Nat → UInt64) (O : List Nat) : Prop := x.1 83 13 = nI O.length ∧ ∀ (i e : Nat), O[i]? = some e → x.1 91 i = nI e ∧ x.2.1 92 i = FP.dadd (T e) 4588807732320345784
/-- which breakers are open -/
def OPk (om : Int32) (x : Hp) (n : Nat) : Prop := ∀ k, k < n → x.1 84 (2 + 9 * k + 8) = (if bS om k then 1 else 0)
/-- what a round leaves alone -/
def rnF (x z : Hp) : Prop := fr [83, 84, 85, 89, 90, 91, 92, 93] x z ∧ (∀ j, j ≠ 10 → j ≠ 13 → z.1 83 j = x.1 83 j) ∧ (∀ j, j < 110 → j ≠ 1 → (∀ k, j ≠ 2 + 9 * k + 8) → z.1 84 j = x.1 84 j) ∧ ∀ j, j < 16 → j ≠ 3 → z.2.1 85 j = x.2.1 85 j
theorem rnF_rf {x : Hp} : rnF x x := ⟨fr_rf, fun _ _ _ => rfl, fun _ _ _ _ => rfl, fun _ _ _ => rfl⟩
theorem rnF_tr {x y z : Hp} (h : rnF x y) (k : rnF y z) : rnF x z := ⟨fr_tr h.1 k.1, fun j a b => (k.2.1 j a b).trans (h.2.1 j a b), fun j a b c => (k.2.2.1 j a b c).trans (h.2.2.1 j a b c), fun j a b => (k.2.2.2 j a b).trans (h.2.2.2 j a b)⟩
theorem REL_lo {g x y : Hp} {n : Nat} (h : REL g x n) (e : ∀ j, j < 110 → j ≠ 1 → (∀ k, j ≠ 2 + 9 * k + 8) → y.1 84 j = x.1 84 j) (d : ∀ j, j < 16 → j ≠ 3 → y.2.1 85 j = x.2.1 85 j) : REL g y n := by
  obtain ⟨h1, h2, h3, h4, h5, h6⟩ := h
  have h12 := h1.1
  refine ⟨⟨h12, ?_, fun k hk => ?_⟩, h2, h3, h4, ⟨?_, ?_, ?_, fun k hk => ?_⟩, fun k hk => ?_⟩
  · rw [e 0 (by omega) (by omega) (fun k => by omega)]; exact h1.2.1
  · rw [e (2 + 9 * k) (by omega) (by omega) (fun k => by omega)]; exact h1.2.2 k hk
  · rw [d 0 (by omega) (by omega)]; exact h5.1
  · rw [d 1 (by omega) (by omega)]; exact h5.2.1
  · rw [d 2 (by omega) (by omega)]; exact h5.2.2.1
  · rw [d (4 + k) (by omega) (by omega)]; exact h5.2.2.2 k hk
  · rw [e (2 + 9 * k + 1) (by omega) (by omega) (fun k => by omega), e (2 + 9 * k + 2) (by omega) (by omega) (fun k => by omega), e (2 + 9 * k + 3) (by omega) (by omega) (fun k => by omega), e (2 + 9 * k + 4) (by omega) (by omega) (fun k => by omega), e (2 + 9 * k + 5) (by omega) (by omega) (fun k => by omega), e (2 + 9 * k + 6) (by omega) (by omega) (fun k => by omega), e (2 + 9 * k + 7) (by omega) (by omega) (fun k => by omega)]
    exact h6 k hk
theorem REL_rn {g x y : Hp} {n : Nat} (h : REL g x n) (k : rnF x y) : REL g y n := REL_lo h k.2.2.1 k.2.2.2
/-- what taking a trip changes -/
def tkF (x z : Hp) : Prop := fr [83, 84, 85, 91, 92] x z ∧ (∀ j, j ≠ 13 → z.1 83 j = x.1 83 j) ∧ (∀ k, k < 110 → k ≠ 1 → z.1 84 k = x.1 84 k) ∧ ∀ k, k < 16 → z.2.1 85 k = x.2.1 85 k
theorem tkF_rec {x y : Hp} (h : recF x y) : tkF x y := ⟨fr_mono h.1 (by decide), fun j _ => congrFun (h.1.1 83 (by decide)) j, h.2.1, h.2.2⟩
theorem tkF_tr {x y z : Hp} (h : tkF x y) (k : tkF y z) : tkF x z := ⟨fr_tr h.1 k.1, fun j a => (k.2.1 j a).trans (h.2.1 j a), fun j a b => (k.2.2.1 j a b).trans (h.2.2.1 j a b), fun j a => (k.2.2.2 j a).trans (h.2.2.2 j a)⟩
theorem tkF_rn {x y : Hp} (h : tkF x y) : rnF x y := ⟨fr_mono h.1 (by decide), fun j _ b => h.2.1 j b, fun j a b _ => h.2.2.1 j a b, fun j a _ => h.2.2.2 j a⟩
theorem LUM_tk {x y : Hp} {T : Nat → UInt64} {L : List Nat} (h : tkF x y) (hL : LUM x T L) : LUM y T L := ⟨(h.2.1 10 (by decide)).trans hL.1, fun i e hi => by rw [h.1.1 89 (by decide), h.1.2.1 90 (by decide)]; exact hL.2 i e hi⟩
theorem OPk_tk {x y : Hp} {om : Int32} {n : Nat} (hn : n ≤ 12) (h : tkF x y) (hO : OPk om x n) : OPk om y n := fun k hk => by rw [h.2.2.1 (2 + 9 * k + 8) (by omega) (by omega)]; exact hO k hk
theorem k100_0 {v : Int32} : 100 * (0 : Int32) + v = v := by rw [show (100 : Int32) * 0 = 0 by decide, Int32.zero_add]
theorem k100_1 {v : Int32} : 100 * (1 : Int32) + v = 100 + v := by rw [show (100 : Int32) * 1 = 100 by decide]
theorem k100_2 {v : Int32} : 100 * (2 : Int32) + v = 200 + v := by rw [show (100 : Int32) * 2 = 200 by decide]
theorem k100_3 {v : Int32} : 100 * (3 : Int32) + v = 300 + v := by rw [show (100 : Int32) * 3 = 300 by decide]
theorem r_trips (Y : Kx) (g x : Hp) (n k r : Nat) (T : Nat → UInt64) (L O : List Nat) (E : Ev) (hR0 : REL g x n) (hL : LUM x T L) (hk : L[k]? = some r) (hr : r < n) (hl : L.length ≤ 12) (hO : OPM x T O) (hOl : O.length < 12) (hE : EVM x E) (ok : vf_n64 (FP.dadd (T r) 4588807732320345784)) : sR Y mX7_trips [.ref 83, .int (nI k)] x (fun rr z => rr = some (.int (if bS (g.1 7 5) r then 0 else 1)) ∧ OPM z T (if bS (g.1 7 5) r then O else O ++ [r]) ∧ EVM z (if bS (g.1 7 5) r then evA (evA E (nI r) (T r)) (100 + nI r) (T r) else evA E (nI r) (T r)) ∧ tkF x z) := by
  refine sR_of (by decide +kernel) (Nat.le_of_ble_eq_true rfl) (fun X h hY hR => ?_)
  have hT := kX7_trips h
  have h12 := hR0.1.1
  have hkl : k < L.length := (List.getElem?_eq_some_iff.mp hk).1
  obtain ⟨hk1, hk2⟩ := hL.2 k r hk
  repeat (refine sw_s hT rfl rfl ?_)
  refine sw_iald hT rfl rfl (in12 (by omega)) ?_
  rw [cl12 (by omega), hk1]
  repeat (refine sw_s hT rfl rfl ?_)
  refine sw_dald hT rfl rfl (in12 (by omega)) ?_
  rw [cl12 (by omega), hk2]
  refine sw_cvR hT rfl (r_record _ x E 0 (nI r) (T r) hE) rfl rfl rfl rfl (Nat.le_of_ble_eq_true rfl) ?_
  rw [k100_0]
  rintro _ y ⟨rfl, yE, yF⟩
  have yL := LUM_tk (tkF_rec yF) hL
  obtain ⟨yk1, yk2⟩ := yL.2 k r hk
  have yJ : y.1 84 (2 + 9 * r + 7) = (if bS (g.1 7 5) r then 1 else 0) := by rw [yF.2.1 _ (by omega) (by omega)]; exact (hR0.2.2.2.2.2 r hr).2.2.2.2.2.2
  have yO : OPM y T O := ⟨(congrFun (yF.1.1 83 (by decide)) 13).trans hO.1, fun i e hi => by rw [yF.1.1 91 (by decide), yF.1.2.1 92 (by decide)]; exact hO.2 i e hi⟩
  show SW X mX7_trips 19 _ [] y
  repeat (refine sw_s hT rfl rfl ?_)
  refine sw_cs hT rfl (r_atL _ y r 7 7 (by decide)) rfl rfl (Nat.le_of_ble_eq_true rfl) ?_
  refine sw_iald hT rfl rfl (inW (by omega)) ?_
  rw [clW (by omega), yJ]
  repeat (refine sw_s hT rfl rfl ?_)
  by_cases hb : bS (g.1 7 5) r
  · rw [if_pos hb, if_pos hb, if_pos hb] at hR
    rw [if_pos hb]
    refine sw_b hT rfl rfl (fun _ => ?_) (fun c => absurd (rfl) c)
    repeat (refine sw_s hT rfl rfl ?_)
    refine sw_dald hT rfl rfl (in12 (by omega)) ?_
    rw [cl12 (by omega), yk2]
    refine sw_cvR hT rfl (r_record _ y _ 1 (nI r) (T r) yE) rfl rfl rfl rfl (Nat.le_of_ble_eq_true rfl) ?_
    rw [k100_1]
    rintro _ z ⟨rfl, zE, zF⟩
    show SW X mX7_trips 46 _ [] z
    repeat (refine sw_s hT rfl rfl ?_)
    refine sw_iretP hT rfl rfl rfl hR ?_
    exact ⟨rfl, ⟨(congrFun (zF.1.1 83 (by decide)) 13).trans yO.1, fun i e hi => by rw [zF.1.1 91 (by decide), zF.1.2.1 92 (by decide)]; exact yO.2 i e hi⟩, zE, tkF_tr (tkF_rec yF) (tkF_rec zF)⟩
  · rw [if_neg hb, if_neg hb, if_neg hb] at hR
    rw [if_neg hb]
    refine sw_b hT rfl rfl (fun c => absurd c ((by decide))) (fun _ => ?_)
    repeat (refine sw_s hT rfl rfl ?_)
    rw [show fks y 83 13 0 = .int (nI O.length) from congrArg Value.int yO.1]
    repeat (refine sw_s hT rfl rfl ?_)
    refine sw_iast hT rfl rfl (in12 hOl) ?_
    rw [cl12 hOl]
    repeat (refine sw_s hT rfl rfl ?_)
    rw [show fks (u2 y.1 91 O.length (nI r), y.2) 83 13 0 = .int (nI O.length) from congrArg Value.int ((congrFun (u2_ne (f := y.1) (i := 91) (j := 83) (k := O.length) (v := nI r) (by decide)) 13).trans yO.1)]
    repeat (refine sw_s hT rfl rfl ?_)
    refine sw_dald hT rfl rfl (in12 (by omega)) ?_
    rw [cl12 (by omega), yk2]
    repeat (refine sw_s hT rfl rfl ?_)
    refine sw_dadd hT rfl (ok) ?_
    refine sw_dast hT rfl rfl (in12 hOl) ?_
    rw [cl12 hOl]
    repeat (refine sw_s hT rfl rfl ?_)
    refine sw_iretP hT rfl rfl rfl hR ?_
    have e13 : u2 y.1 91 O.length (nI r) 83 13 = nI O.length := (congrFun (u2_ne (f := y.1) (i := 91) (j := 83) (k := O.length) (v := nI r) (by decide)) 13).trans yO.1
    refine ⟨rfl, ⟨?_, fun i e hi => ?_⟩, ⟨?_, yE.2.1, fun i c t hi => ?_⟩, tkF_tr (tkF_rec yF) ⟨?_, fun j hj => ?_, fun k a b => ?_, fun k a => rfl⟩⟩
    · show u2 (u2 y.1 91 O.length (nI r)) 83 13 (u2 y.1 91 O.length (nI r) 83 13 + 1) 83 13 = _
      rw [u2_at, e13, nI_1]; simp
    · show u2 (u2 y.1 91 O.length (nI r)) 83 13 (u2 y.1 91 O.length (nI r) 83 13 + 1) 91 i = nI e ∧ u2 y.2.1 92 O.length (FP.dadd (T r) 4588807732320345784) 92 i = _
      rw [u2_ne (by decide)]
      rcases Nat.lt_trichotomy i O.length with q | q | q
      · rw [List.getElem?_append_left q] at hi
        rw [u2_k _ _ _ _ (by omega), u2_k _ _ _ _ (by omega)]
        exact yO.2 i e hi
      · rw [List.getElem?_append_right (by omega), q, Nat.sub_self] at hi
        cases hi
        rw [q, u2_at, u2_at]
        exact ⟨rfl, rfl⟩
      · rw [List.getElem?_append_right (by omega), show i - O.length = (i - O.length - 1) + 1 by omega, List.getElem?_cons_succ] at hi
        cases hi
    · show u2 (u2 y.1 91 O.length (nI r)) 83 13 (u2 y.1 91 O.length (nI r) 83 13 + 1) 84 1 = _
      rw [u2_ne (by decide), u2_ne (by decide)]; exact yE.1
    · show u2 (u2 y.1 91 O.length (nI r)) 83 13 (u2 y.1 91 O.length (nI r) 83 13 + 1) 84 (110 + i) = c ∧ u2 y.2.1 92 O.length (FP.dadd (T r) 4588807732320345784) 85 (16 + i) = t
      rw [u2_ne (by decide), u2_ne (by decide), u2_ne (by decide)]; exact yE.2.2 i c t hi
    · exact fr_tr (fr_tr (fr_wI (by decide)) (fr_wD (x := (u2 y.1 91 O.length (nI r), y.2)) (by decide))) (fr_wI (x := (u2 y.1 91 O.length (nI r), u2 y.2.1 92 O.length (FP.dadd (T r) 4588807732320345784), y.2.2)) (by decide))
    · show u2 (u2 y.1 91 O.length (nI r)) 83 13 (u2 y.1 91 O.length (nI r) 83 13 + 1) 83 j = _
      rw [u2_k _ _ _ _ hj, u2_ne (by decide)]
    · show u2 (u2 y.1 91 O.length (nI r)) 83 13 (u2 y.1 91 O.length (nI r) 83 13 + 1) 84 k = _
      rw [u2_ne (by decide), u2_ne (by decide)]
