/-! ops that save and change: source, margin, stuck breakers, a new line, pickups, grading -/
theorem fr1D {S : List Nat} {x : Hp} {a k : Nat} {v : UInt64} {g : Nat → Nat → Int32} {f : Nat → Nat → UInt64} (h : fr S x (g, f, x.2.2)) (ha : a ∈ S) : fr S x (g, u2 f a k v, x.2.2) := fr_tr h (fr_wD (x := (g, f, x.2.2)) ha)
theorem STR_dbl {x y z : Hp} {n ne : Nat} (h : STR x x n ne) (e1 : ∀ a, a ≤ 15 → y.1 a = x.1 a) (z84 : z.1 84 = x.1 84) (hv : zr 1029 1043 (y.2.1 2 0)) (hs : zr 1016 1033 (y.2.1 2 1)) (hm : zr 1018 1026 (y.2.1 1 3)) (e5 : y.2.1 5 = x.2.1 5) (e13 : y.2.1 13 = x.2.1 13) (e15 : y.2.1 15 = x.2.1 15) (z0 : z.2.1 85 0 = y.2.1 2 0) (z1 : z.2.1 85 1 = y.2.1 2 1) (z2 : z.2.1 85 2 = y.2.1 1 3) (zk : ∀ k, 3 ≤ k → z.2.1 85 k = x.2.1 85 k) : STR y z n ne := by
  obtain ⟨⟨⟨c1, c2, c3, c4, c5, c6⟩, cn, ck, cl, cs, co⟩, ⟨v1, v2, v3, v4⟩, ⟨⟨m1, m2, m3⟩, r2, r3, r4, ⟨r5, r6, r7, r8⟩, r9⟩, o1, ⟨w1, w2, w3, w4, w5⟩⟩ := h
  have fb : fbN y = fbN x := by funext k; exact fbN_cg (by rw [e1 3 (by omega)])
  refine ⟨⟨⟨c1, hv, hs, hm, fun k hk => by rw [e5]; exact c5 k hk, fun k hk => LR_cg (by rw [e1 6 (by omega)]) (by rw [e1 8 (by omega)]) (by rw [e1 9 (by omega)]) (by rw [e1 10 (by omega)]) (by rw [e1 11 (by omega)]) (by rw [e1 12 (by omega)]) (c6 k hk)⟩, by rw [e1 2 (by omega)]; exact cn, fun k hk => by rw [e1 3 (by omega), e1 4 (by omega), fb]; exact ck k hk, fun k h1 h2 => LD_cg (by rw [e1 6 (by omega)]) (by rw [e1 8 (by omega)]) (by rw [e1 9 (by omega)]) (by rw [e1 10 (by omega)]) (by rw [e1 11 (by omega)]) (by rw [e1 12 (by omega)]) (cl k h1 h2), by rw [e1 7 (by omega)]; exact cs, by rw [e1 7 (by omega)]; exact co⟩, ⟨v1, by rw [e1 13 (by omega)]; exact v2, fun j hj => by rw [e15]; exact v3 j hj, by rw [e13]; exact v4⟩, ⟨⟨m1, by rw [z84]; exact m2, fun k hk => by rw [z84, fb]; exact m3 k hk⟩, by rw [e1 2 (by omega)]; exact r2, fun k hk => by rw [e1 3 (by omega), fb]; exact r3 k hk, fun k j hk hj => by rw [e1 4 (by omega), fb]; exact r4 k j hk hj, ⟨z0, z1, z2, fun k hk => by rw [zk _ (by omega), e5]; exact r8 k hk⟩, fun k hk => by rw [z84, e1 6 (by omega), e1 8 (by omega), e1 9 (by omega), e1 10 (by omega), e1 11 (by omega), e1 12 (by omega), e1 7 (by omega)]; exact r9 k hk⟩, fun k hk => by rw [z84, e1 7 (by omega)]; exact o1 k hk, ⟨w1, by rw [e1 13 (by omega)]; exact w2, by rw [z84]; exact w3, fun j hj => by rw [z84, zk _ (by omega), e1 14 (by omega), e15]; exact w4 j hj, by rw [zk 3 (by omega), e13]; exact w5⟩⟩
theorem STR_sim {x y z : Hp} {n ne ne2 : Nat} (h : STR x x n ne) (e : ∀ a, a = 2 ∨ a = 3 ∨ a = 4 ∨ a = 6 ∨ (8 ≤ a ∧ a ≤ 12) → y.1 a = x.1 a) (ed : ∀ a, a = 1 ∨ a = 2 ∨ a = 5 → y.2.1 a = x.2.1 a) (m5 : M12 (y.1 7 5) n) (m6 : M12 (y.1 7 6) n) (zi : ∀ k, k < 110 → k ≠ 1 → (∀ l, k ≠ 2 + 9 * l + 7 ∧ k ≠ 2 + 9 * l + 8) → z.1 84 k = x.1 84 k) (zd : ∀ k, k < 16 → k ≠ 3 → z.2.1 85 k = x.2.1 85 k) (s7 : ∀ k, k < n → z.1 84 (2 + 9 * k + 7) = (if bS (y.1 7 5) k then 1 else 0)) (s8 : OPN y z n) (hv : EVT y ne2) (hr : EVR y z ne2) : STR y z n ne2 := by
  obtain ⟨⟨⟨c1, c2, c3, c4, c5, c6⟩, cn, ck, cl, cs, co⟩, -, ⟨⟨m1, m2, m3⟩, r2, r3, r4, ⟨r5, r6, r7, r8⟩, r9⟩, -, -⟩ := h
  have e2 := e 2 (by omega)
  have e3 := e 3 (by omega)
  have e4 := e 4 (by omega)
  have e6 := e 6 (by omega)
  have e8 := e 8 (by omega)
  have e9 := e 9 (by omega)
  have e10 := e 10 (by omega)
  have e11 := e 11 (by omega)
  have e12 := e 12 (by omega)
  have d1 := ed 1 (by omega)
  have d2 := ed 2 (by omega)
  have d5 := ed 5 (by omega)
  have fb : fbN y = fbN x := by funext k; exact fbN_cg (by rw [e3])
  refine ⟨⟨⟨c1, by rw [d2]; exact c2, by rw [d2]; exact c3, by rw [d1]; exact c4, fun k hk => by rw [d5]; exact c5 k hk, fun k hk => LR_cg (by rw [e6]) (by rw [e8]) (by rw [e9]) (by rw [e10]) (by rw [e11]) (by rw [e12]) (c6 k hk)⟩, by rw [e2]; exact cn, fun k hk => by rw [e3, e4, fb]; exact ck k hk, fun k h1 h2 => LD_cg (by rw [e6]) (by rw [e8]) (by rw [e9]) (by rw [e10]) (by rw [e11]) (by rw [e12]) (cl k h1 h2), m5, m6⟩, hv, ⟨⟨m1, ?_, fun k hk => ?_⟩, by rw [e2]; exact r2, fun k hk => by rw [e3, fb]; exact r3 k hk, fun k j hk hj => by rw [e4, fb]; exact r4 k j hk hj, ⟨by rw [zd 0 (by omega) (by omega), d2]; exact r5, by rw [zd 1 (by omega) (by omega), d2]; exact r6, by rw [zd 2 (by omega) (by omega), d1]; exact r7, fun k hk => by rw [zd _ (by omega) (by omega), d5]; exact r8 k hk⟩, fun k hk => ?_⟩, s8, hr⟩
  · rw [zi 0 (by omega) (by omega) (fun l => by omega)]; exact m2
  · rw [zi _ (by omega) (by omega) (fun l => by omega), fb]; exact m3 k hk
  · obtain ⟨q1, q2, q3, q4, q5, q6, -⟩ := r9 k hk
    refine ⟨?_, ?_, ?_, ?_, ?_, ?_, s7 k hk⟩
    · rw [zi _ (by omega) (by omega) (fun l => by omega), e6]; exact q1
    · rw [zi _ (by omega) (by omega) (fun l => by omega), e8]; exact q2
    · rw [zi _ (by omega) (by omega) (fun l => by omega), e9]; exact q3
    · rw [zi _ (by omega) (by omega) (fun l => by omega), e10]; exact q4
    · rw [zi _ (by omega) (by omega) (fun l => by omega), e11]; exact q5
    · rw [zi _ (by omega) (by omega) (fun l => by omega), e12]; exact q6
theorem st_x84 {x y x2 : Hp} {i c : Nat} {S : List Nat} (hm : mid y x2) (hf : fr S (pushS x i c) y) (hi : i < 4) (hs : 84 ∉ S := by decide) : x2.1 84 = x.1 84 := (congrFun hm.1 84).trans ((hf.1 84 hs).trans (push_o1 hi (Or.inr (by decide))))
theorem st_x85 {x y x2 : Hp} {i c : Nat} {S : List Nat} (hm : mid y x2) (hf : fr S (pushS x i c) y) (hi : i < 4) (hs : 85 ∉ S := by decide) : x2.2.1 85 = x.2.1 85 := (hm.2 85 (by decide)).trans ((hf.2.1 85 hs).trans (push_o2 hi (Or.inr (by decide))))
section
variable {Y : Kx} {x : Hp} {n ne i c : Nat}
theorem op_setSource (hfl : Y.1.stackTraces = false) (hI : INVW x n ne i c) (v z : UInt64) : OPG Y mX6_setSource mX7_setSource [.double v, .double z] x ∨ OPB Y mX6_setSource mX7_setSource [.double v, .double z] x IAE 1 (.double 0) := by
  by_cases h1 : inD v 4636737291354636288 4696837146684686336
  · by_cases h2 : inD z 4576918229304087675 4652007308841189376
    · have p1 : ∀ a, a ≤ 15 → (pushS x i c).1 a = x.1 a := fun a ha => push_o1 hI.2.1.1 (Or.inl (by omega))
      have p2 : ∀ a, a ≤ 15 → (pushS x i c).2.1 a = x.2.1 a := fun a ha => push_o2 hI.2.1.1 (Or.inl (by omega))
      refine Or.inl (op_push hI (f_setSource Y x i c v z hI.2.1 h1 h2) ?_)
      rintro rr y ⟨rfl, rfl⟩
      refine ⟨_, n, ne, rfl, vok_d (zr_ok hI.1.1.1.2.2.1), fr1D (fr1D fr_rf (by decide)) (by decide), fun x2 hm h5 hS => ⟨fun r2 w q => r2 = some (.double (x2.2.1 85 1)) ∧ q = (w.1, u2 (u2 w.2.1 85 0 v) 85 1 z, w.2.2), r_setSource Y x2 c v z hI.2.1.2.1 h5 h1 h2, ?_⟩⟩
      rintro r2 w q w84 w85 ⟨rfl, rfl⟩
      refine ⟨by rw [hS.2.2.1.2.2.2.2.1.2.1], fr1D (fr1D (fr_rf (x := w)) (by decide)) (by decide), rfl, rfl, STR_dbl hI.1 p1 w84 ?_ ?_ ?_ ?_ ?_ ?_ ?_ ?_ ?_ (fun k hk => ?_)⟩
      · show zr _ _ (u2 (u2 (pushS x i c).2.1 2 0 v) 2 1 z 2 0)
        rw [u2_k _ _ _ _ (by decide), u2_at]; exact zi_vol h1
      · show zr _ _ (u2 (u2 (pushS x i c).2.1 2 0 v) 2 1 z 2 1)
        rw [u2_at]; exact zi_imp h2
      · show zr _ _ (u2 (u2 (pushS x i c).2.1 2 0 v) 2 1 z 1 3)
        rw [u2_ne (by decide), u2_ne (by decide), p2 1 (by omega)]; exact hI.1.1.1.2.2.2.1
      · show u2 (u2 (pushS x i c).2.1 2 0 v) 2 1 z 5 = _
        rw [u2_ne (by decide), u2_ne (by decide), p2 5 (by omega)]
      · show u2 (u2 (pushS x i c).2.1 2 0 v) 2 1 z 13 = _
        rw [u2_ne (by decide), u2_ne (by decide), p2 13 (by omega)]
      · show u2 (u2 (pushS x i c).2.1 2 0 v) 2 1 z 15 = _
        rw [u2_ne (by decide), u2_ne (by decide), p2 15 (by omega)]
      · show u2 (u2 w.2.1 85 0 v) 85 1 z 85 0 = u2 (u2 (pushS x i c).2.1 2 0 v) 2 1 z 2 0
        rw [u2_k _ _ _ _ (by decide), u2_at, u2_k _ _ _ _ (by decide), u2_at]
      · show u2 (u2 w.2.1 85 0 v) 85 1 z 85 1 = u2 (u2 (pushS x i c).2.1 2 0 v) 2 1 z 2 1
        rw [u2_at, u2_at]
      · show u2 (u2 w.2.1 85 0 v) 85 1 z 85 2 = u2 (u2 (pushS x i c).2.1 2 0 v) 2 1 z 1 3
        rw [u2_k _ _ _ _ (by decide), u2_k _ _ _ _ (by decide), w85, u2_ne (by decide), u2_ne (by decide), p2 1 (by omega)]
        exact hI.1.2.2.1.2.2.2.2.1.2.2.1
      · show u2 (u2 w.2.1 85 0 v) 85 1 z 85 k = _
        rw [u2_k _ _ _ _ (by omega), u2_k _ _ _ _ (by omega), w85]
    · exact Or.inr (op_ref hI (t_setSource2 Y hfl x v z h1 h2) (fun x2 hm hS => b_setSource Y x2 v z (fun q => h2 q.2)))
  · exact Or.inr (op_ref hI (t_setSource1 Y hfl x v z h1) (fun x2 hm hS => b_setSource Y x2 v z (fun q => h1 q.1)))
theorem op_setMargin (hfl : Y.1.stackTraces = false) (hI : INVW x n ne i c) (v : UInt64) : OPG Y mX6_setMargin mX7_setMargin [.double v] x ∨ OPB Y mX6_setMargin mX7_setMargin [.double v] x IAE 1 (.double 0) := by
  by_cases h1 : inD v 4587366580439587226 4617315517961601024
  · have p1 : ∀ a, a ≤ 15 → (pushS x i c).1 a = x.1 a := fun a ha => push_o1 hI.2.1.1 (Or.inl (by omega))
    have p2 : ∀ a, a ≤ 15 → (pushS x i c).2.1 a = x.2.1 a := fun a ha => push_o2 hI.2.1.1 (Or.inl (by omega))
    refine Or.inl (op_push hI (f_setMargin Y x i c v hI.2.1 h1) ?_)
    rintro rr y ⟨rfl, rfl⟩
    refine ⟨_, n, ne, rfl, vok_d (zr_ok hI.1.1.1.2.2.2.1), fr1D fr_rf (by decide), fun x2 hm h5 hS => ⟨fun r2 w q => r2 = some (.double (x2.2.1 85 2)) ∧ q = (w.1, u2 w.2.1 85 2 v, w.2.2), r_setMargin Y x2 c v hI.2.1.2.1 h5 h1, ?_⟩⟩
    rintro r2 w q w84 w85 ⟨rfl, rfl⟩
    refine ⟨by rw [hS.2.2.1.2.2.2.2.1.2.2.1], fr1D (fr_rf (x := w)) (by decide), rfl, rfl, STR_dbl hI.1 p1 w84 ?_ ?_ ?_ ?_ ?_ ?_ ?_ ?_ ?_ (fun k hk => ?_)⟩
    · show zr _ _ (u2 (pushS x i c).2.1 1 3 v 2 0)
      rw [u2_ne (by decide), p2 2 (by omega)]; exact hI.1.1.1.2.1
    · show zr _ _ (u2 (pushS x i c).2.1 1 3 v 2 1)
      rw [u2_ne (by decide), p2 2 (by omega)]; exact hI.1.1.1.2.2.1
    · show zr _ _ (u2 (pushS x i c).2.1 1 3 v 1 3)
      rw [u2_at]; exact zi_mar h1
    · show u2 (pushS x i c).2.1 1 3 v 5 = _
      rw [u2_ne (by decide), p2 5 (by omega)]
    · show u2 (pushS x i c).2.1 1 3 v 13 = _
      rw [u2_ne (by decide), p2 13 (by omega)]
    · show u2 (pushS x i c).2.1 1 3 v 15 = _
      rw [u2_ne (by decide), p2 15 (by omega)]
    · show u2 w.2.1 85 2 v 85 0 = u2 (pushS x i c).2.1 1 3 v 2 0
      rw [u2_k _ _ _ _ (by decide), w85, u2_ne (by decide), p2 2 (by omega)]
      exact hI.1.2.2.1.2.2.2.2.1.1
    · show u2 w.2.1 85 2 v 85 1 = u2 (pushS x i c).2.1 1 3 v 2 1
      rw [u2_k _ _ _ _ (by decide), w85, u2_ne (by decide), p2 2 (by omega)]
      exact hI.1.2.2.1.2.2.2.2.1.2.1
    · show u2 w.2.1 85 2 v 85 2 = u2 (pushS x i c).2.1 1 3 v 1 3
      rw [u2_at, u2_at]
    · show u2 w.2.1 85 2 v 85 k = _
      rw [u2_k _ _ _ _ (by omega), w85]
  · exact Or.inr (op_ref hI (t_setMargin1 Y hfl x v h1) (fun x2 hm hS => b_setMargin Y x2 v h1))
theorem op_setStuck (hfl : Y.1.stackTraces = false) (hI : INVW x n ne i c) (v b : Int32) : OPG Y mX6_setStuck mX7_setStuck [.int v, .int b] x ∨ OPB Y mX6_setStuck mX7_setStuck [.int v, .int b] x IAE 1 (.int 0) := by
  have h12 := hI.1.1.1.1
  by_cases h : 0 ≤ v ∧ v ≤ nI n - 1
  · obtain ⟨k, hk, rfl⟩ := nI_rng (by omega) h
    have p1 : ∀ a, a ≤ 15 → (pushS x i c).1 a = x.1 a := fun a ha => push_o1 hI.2.1.1 (Or.inl (by omega))
    have p2 : ∀ a, a ≤ 15 → (pushS x i c).2.1 a = x.2.1 a := fun a ha => push_o2 hI.2.1.1 (Or.inl (by omega))
    have cs := hI.1.1.2.2.2.2.1
    refine Or.inl (op_push hI (f_setStuck Y x i c n k b hI.2.1 (st_LN hI.1 hk)) ?_)
    rintro rr y ⟨rfl, hy⟩
    obtain ⟨mm, hmm⟩ : ∃ mm, mm = (if b = 0 then (pushS x i c).1 7 5 &&& ((1 <<< (nI k &&& 31)) ^^^ -1) else (pushS x i c).1 7 5 ||| (1 <<< (nI k &&& 31))) := ⟨_, rfl⟩
    rw [← hmm] at hy
    rw [p1 7 (by omega)] at hmm
    subst hy
    have hm12 : M12 mm n := by
      rw [hmm]
      split
      · exact M12_and cs
      · exact M12_or cs hk h12
    have hbit : ∀ j, j < n → (bS mm j ↔ if j = k then ¬ b = 0 else bS (x.1 7 5) j) := fun j hj => by
      rw [hmm]
      by_cases hb : b = 0
      · rw [if_pos hb, bS_clr (by omega) (by omega)]
        by_cases q : j = k
        · rw [if_pos q]; exact ⟨fun z => absurd q z.2, fun z => absurd hb z⟩
        · rw [if_neg q]; exact ⟨fun z => z.1, fun z => ⟨z, q⟩⟩
      · rw [if_neg hb, bS_or (by omega) (by omega)]
        by_cases q : j = k
        · rw [if_pos q]; exact ⟨fun _ => hb, fun _ => Or.inr q⟩
        · rw [if_neg q]; exact ⟨fun z => z.elim id (fun w => absurd w q), Or.inl⟩
    refine ⟨_, n, ne, rfl, vok_i, fr1 fr_rf (by decide), fun x2 hm h5 hS => ⟨fun r2 w z => r2 = some (.int (if x2.1 84 (2 + 9 * k + 7) = 1 then 1 else 0)) ∧ z = (u2 w.1 84 (2 + 9 * k + 7) (if b = 0 then 0 else 1), w.2), r_setStuck Y x2 c n k b hI.2.1.2.1 h5 (st_84 hS) h12 hk, ?_⟩⟩
    rintro r2 w z w84 w85 ⟨rfl, rfl⟩
    refine ⟨?_, fr1 (fr_rf (x := w)) (by decide), rfl, rfl, STR_sim hI.1 (fun a h1 => ?_) (fun a h1 => p2 a (by omega)) ?_ ?_ (fun j h1 h2 h3 => ?_) (fun j h1 h2 => ?_) (fun j hj => ?_) (fun j hj => ?_) ?_ ?_⟩
    · rw [(hS.2.2.1.2.2.2.2.2 k hk).2.2.2.2.2.2]
      by_cases q : bS (x.1 7 5) k
      · rw [if_pos q, if_pos rfl, bI_t q]
      · rw [if_neg q, if_neg (by decide), bI_f q]
    · show u2 (pushS x i c).1 7 5 mm a = _
      rw [u2_ne (by omega), p1 a (by omega)]
    · show M12 (u2 (pushS x i c).1 7 5 mm 7 5) n
      rw [u2_at]; exact hm12
    · show M12 (u2 (pushS x i c).1 7 5 mm 7 6) n
      rw [u2_k _ _ _ _ (by decide), p1 7 (by omega)]; exact hI.1.1.2.2.2.2.2
    · show u2 w.1 84 (2 + 9 * k + 7) (if b = 0 then 0 else 1) 84 j = _
      rw [u2_k _ _ _ _ (h3 k).1, w84]
    · show w.2.1 85 j = _
      rw [w85]
    · show u2 w.1 84 (2 + 9 * k + 7) _ 84 (2 + 9 * j + 7) = if bS (u2 (pushS x i c).1 7 5 mm 7 5) j then 1 else 0
      rw [u2_at]
      by_cases q : j = k
      · subst q
        rw [u2_at]
        by_cases hb : b = 0
        · rw [if_pos hb, if_neg (fun z => by have := (hbit j hj).mp z; rw [if_pos rfl] at this; exact this hb)]
        · rw [if_neg hb, if_pos ((hbit j hj).mpr (by rw [if_pos rfl]; exact hb))]
      · have e := hbit j hj
        rw [if_neg q] at e
        rw [u2_k _ _ _ _ (by omega), w84, (hI.1.2.2.1.2.2.2.2.2 j hj).2.2.2.2.2.2]
        by_cases z : bS (x.1 7 5) j
        · rw [if_pos z, if_pos (e.mpr z)]
        · rw [if_neg z, if_neg (fun w => z (e.mp w))]
    · show u2 w.1 84 (2 + 9 * k + 7) _ 84 (2 + 9 * j + 8) = if bS (u2 (pushS x i c).1 7 5 mm 7 6) j then 1 else 0
      rw [u2_k _ _ _ _ (by omega), u2_k _ _ _ _ (by decide), w84, p1 7 (by omega)]
      exact hI.1.2.2.2.1 j hj
    · obtain ⟨v1, v2, v3, v4⟩ := hI.1.2.1
      refine ⟨v1, ?_, fun j hj => ?_, ?_⟩
      · show u2 (pushS x i c).1 7 5 mm 13 0 = _
        rw [u2_ne (by decide), p1 13 (by omega)]; exact v2
      · show tv ((pushS x i c).2.1 15 j)
        rw [p2 15 (by omega)]; exact v3 j hj
      · show tvC ((pushS x i c).2.1 13 3)
        rw [p2 13 (by omega)]; exact v4
    · obtain ⟨w1, w2, w3, w4, w5⟩ := hI.1.2.2.2.2
      refine ⟨w1, ?_, ?_, fun j hj => ⟨?_, ?_⟩, ?_⟩
      · show u2 (pushS x i c).1 7 5 mm 13 0 = _
        rw [u2_ne (by decide), p1 13 (by omega)]; exact w2
      · show u2 w.1 84 (2 + 9 * k + 7) (if b = 0 then 0 else 1) 84 1 = _
        rw [u2_k _ _ _ _ (by omega), w84]; exact w3
      · show u2 w.1 84 (2 + 9 * k + 7) (if b = 0 then 0 else 1) 84 (110 + j) = u2 (pushS x i c).1 7 5 mm 14 j
        rw [u2_k _ _ _ _ (by omega), w84, u2_ne (by decide), p1 14 (by omega)]; exact (w4 j hj).1
      · show w.2.1 85 (16 + j) = (pushS x i c).2.1 15 j
        rw [w85, p2 15 (by omega)]; exact (w4 j hj).2
      · show w.2.1 85 3 = (pushS x i c).2.1 13 3
        rw [w85, p2 13 (by omega)]; exact w5
  · exact Or.inr (op_ref hI (t_setStuck1 Y hfl x v (by rw [hI.1.1.2.1]; exact h) b) (fun x2 hm hS => b_setStuck Y x2 v b (by rw [st_84 hS]; exact h)))
/-! grading -/
theorem CFG_st {g : Hp} {r t : Nat} (h : CFG g n) (hr : r < n) (h1 : 1 ≤ t) (h2 : t ≤ 20) : CFG (stP g r t) n := by
  obtain ⟨⟨c1, c2, c3, c4, c5, c6⟩, cn, ck, cl, cs, co⟩ := h
  have e : ∀ a, a ≠ 10 → (stP g r t).1 a = g.1 a := fun a ha => u2_ne ha
  have e10 : ∀ k, k ≠ r → (stP g r t).1 10 k = g.1 10 k := fun k hk => u2_k g.1 10 r (nI t) hk
  have er : (stP g r t).1 10 r = nI t := u2_at g.1 10 r (nI t)
  refine ⟨⟨c1, c2, c3, c4, c5, fun k hk => ?_⟩, by rw [e 2 (by decide)]; exact cn, fun k hk => by rw [e 3 (by decide), e 4 (by decide), fbN_stP]; exact ck k hk, fun k a b => LD_cg (by rw [e 6 (by decide)]) (by rw [e 8 (by decide)]) (by rw [e 9 (by decide)]) (e10 k (by omega)) (by rw [e 11 (by decide)]) (by rw [e 12 (by decide)]) (cl k a b), by rw [e 7 (by decide)]; exact cs, by rw [e 7 (by decide)]; exact co⟩
  by_cases q : k = r
  · subst q
    obtain ⟨l1, l2, l3, l4, l5, l6⟩ := c6 k hk
    unfold LR
    rw [e 6 (by decide), e 8 (by decide), e 9 (by decide), e 11 (by decide), e 12 (by decide)]
    exact ⟨l1, l2, l3, ⟨t, h1, h2, er⟩, l5, l6⟩
  · exact LR_cg (by rw [e 6 (by decide)]) (by rw [e 8 (by decide)]) (by rw [e 9 (by decide)]) (e10 k q) (by rw [e 11 (by decide)]) (by rw [e 12 (by decide)]) (c6 k hk)
theorem CFG_gr {g : Hp} (h : CFG g n) : ∀ j, j ≤ n → CFG (grG g n j).1 n
  | 0, _ => h
  | j + 1, hj => by
    have ih := CFG_gr h j (by omega)
    unfold grG
    cases hg : gsB (grG g n j).1 (n - 1 - j) n 20 1 with
    | some s =>
      obtain ⟨g1, g2, -, -⟩ := gsB_some hg
      exact CFG_st ih (by omega) g1 (by omega)
    | none => exact CFG_st ih (by omega) (by decide) (by decide)
theorem sb_MOG {g : Hp} (h : CFG g n) : MOG g n := ⟨sb_INV h, zc_RG1 h.1, zc_GOK h.1, sb_ORD h⟩
theorem op_autoGrade (hI : INVW x n ne i c) : OPG Y mX6_autoGrade mX7_autoGrade [] x := by
  have h12 := hI.1.1.1.1
  have p1 : ∀ a, a ≤ 15 → (pushS x i c).1 a = x.1 a := fun a ha => push_o1 hI.2.1.1 (Or.inl (by omega))
  have p2 : ∀ a, a ≤ 15 → (pushS x i c).2.1 a = x.2.1 a := fun a ha => push_o2 hI.2.1.1 (Or.inl (by omega))
  have hP : STR (pushS x i c) x n ne := STR_cg hI.1 (EQG_of (fun a ha => ⟨p1 a ha, p2 a ha⟩)) (EQR_of rfl rfl)
  have hM : ∀ j r t, j ≤ n → r < n → 1 ≤ t → t ≤ 20 → CFG (stP (grG (pushS x i c) n j).1 r t) n := fun j r t hj hr h1 h2 => CFG_st (CFG_gr hP.1 j hj) hr h1 h2
  have hfr := grG_fr (pushS x i c) n n
  refine op_push hI (f_autoGrade Y x i c n hI.2.1 hI.1.1.2.1 h12 (fun j r t hj hr h1 h2 => sb_INV (hM j r t hj hr h1 h2))) ?_
  rintro rr y ⟨rfl, rfl⟩
  refine ⟨_, n, ne, rfl, vok_i, fr_mono hfr (by decide), fun x2 hm h5 hS => ⟨fun r2 w z => agZ n w z ∧ REL (grG (pushS x i c) n n).1 z n ∧ r2 = some (.int (nI (grG (pushS x i c) n n).2)), r_autoGrade Y (pushS x i c) x2 c n hI.2.1.2.1 h5 (STR_cg hP (EQG_of (fun a ha => ⟨rfl, rfl⟩)) (EQR_of ((st_x84 hm hfr hI.2.1.1)) (st_x85 hm hfr hI.2.1.1))).2.2.1 (fun j r t hj hr h1 h2 => sb_MOG (hM j r t hj hr h1 h2)), ?_⟩⟩
  rintro r2 w z w84 w85 ⟨a1, a2, rfl⟩
  have z84 : ∀ k, (∀ e, e < n → k ≠ 2 + 9 * e + 4) → z.1 84 k = x.1 84 k := fun k hk => by rw [a1.2.2 k hk, w84]
  have z85 : z.2.1 85 = x.2.1 85 := (a1.1.2.1 85 (by decide)).trans w85
  have e : ∀ a, a ≤ 15 → a ≠ 10 → (grG (pushS x i c) n n).1.1 a = x.1 a := fun a ha hb => (hfr.1 a (fun q => by simp at q; omega)).trans (p1 a ha)
  have ed : ∀ a, a ≤ 15 → a ≠ 10 → (grG (pushS x i c) n n).1.2.1 a = x.2.1 a := fun a ha hb => (hfr.2.1 a (fun q => by simp at q; omega)).trans (p2 a ha)
  obtain ⟨v1, v2, v3, v4⟩ := hI.1.2.1
  obtain ⟨w1, w2, w3, w4, w5⟩ := hI.1.2.2.2.2
  refine ⟨rfl, fr_mono a1.1 (by decide), a1.2.1 5 (by decide), a1.2.1 0 (by decide), CFG_gr hP.1 n (Nat.le_refl _), ⟨v1, by rw [e 13 (by omega) (by omega)]; exact v2, fun j hj => by rw [ed 15 (by omega) (by omega)]; exact v3 j hj, by rw [ed 13 (by omega) (by omega)]; exact v4⟩, a2, fun k hk => ?_, ⟨w1, by rw [e 13 (by omega) (by omega)]; exact w2, ?_, fun j hj => ⟨?_, ?_⟩, ?_⟩⟩
  · rw [z84 _ (fun e _ => by omega), e 7 (by omega) (by omega)]; exact hI.1.2.2.2.1 k hk
  · rw [z84 _ (fun e _ => by omega)]; exact w3
  · rw [z84 _ (fun e _ => by omega), e 14 (by omega) (by omega)]; exact (w4 j hj).1
  · rw [z85, ed 15 (by omega) (by omega)]; exact (w4 j hj).2
  · rw [z85, ed 13 (by omega) (by omega)]; exact w5
end
