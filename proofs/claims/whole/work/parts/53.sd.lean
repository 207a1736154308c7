/-! ops that save and change: the frame of all of them, rows of settings -/
def frC : List Nat := [1, 2, 3, 4, 5, 6, 7, 8, 9, 10, 11, 12, 13, 14, 15, 78, 79, 80, 81, 82]
def frM : List Nat := [83, 84, 85, 88, 89, 90, 91, 92, 93]
theorem frC_in {a : Nat} (h1 : 16 ≤ a) (h2 : a ≤ 77 ∨ 83 ≤ a) : a ∉ frC := fun q => by unfold frC at q; simp at q; omega
theorem frM_in {a : Nat} (h1 : a ≤ 82 ∨ a = 86 ∨ a = 87 ∨ 94 ≤ a) : a ∉ frM := fun q => by unfold frM at q; simp at q; omega
theorem op_push {Y : Kx} {M6 M7 : MI} {as : List Value} {x : Hp} {n ne i c : Nat} (hI : INVW x n ne i c) {P : Po} (h6 : sR Y M6 (.ref 0 :: as) x P)
    (H : ∀ rr y, P rr y → ∃ v n2 ne2, rr = some v ∧ vok M6.2.2.2.1 v ∧ fr frC (pushS x i c) y ∧ ∀ x2, mid y x2 → x2.1 83 5 = nI c → STR x x2 n ne → ∃ R : Option Value → Hp → Hp → Prop, sR Y M7 (.ref 83 :: as) x2 (fun r2 z => ∃ w, sv0 x2 c w ∧ R r2 w z) ∧ ∀ r2 w z, w.1 84 = x.1 84 → w.2.1 85 = x.2.1 85 → R r2 w z → r2 = some v ∧ fr frM w z ∧ z.1 83 5 = w.1 83 5 ∧ z.1 83 0 = w.1 83 0 ∧ STR y z n2 ne2) : OPG Y M6 M7 as x := by
  have hi := hI.2.1.1
  refine ⟨P, h6, fun rr y hP => ?_⟩
  obtain ⟨v, n2, ne2, rfl, hv, hf, hR⟩ := H rr y hP
  refine ⟨v, rfl, hv, fun x2 hm => ?_⟩
  have y1 : ∀ a, 77 ≤ a → (a ≤ 77 ∨ 83 ≤ a) → y.1 a = x.1 a := fun a h1 h2 => (hf.1 a (frC_in (by omega) h2)).trans (push_o1 hi (Or.inr h1))
  have y2 : ∀ a, 77 ≤ a → (a ≤ 77 ∨ 83 ≤ a) → y.2.1 a = x.2.1 a := fun a h1 h2 => (hf.2.1 a (frC_in (by omega) h2)).trans (push_o2 hi (Or.inr (by omega)))
  have x84 : x2.1 84 = x.1 84 := (congrFun hm.1 84).trans (y1 84 (by decide) (Or.inr (by decide)))
  have x85 : x2.2.1 85 = x.2.1 85 := (hm.2 85 (by decide)).trans (y2 85 (by decide) (Or.inr (by decide)))
  have x86 : x2.1 86 = x.1 86 := (congrFun hm.1 86).trans (y1 86 (by decide) (Or.inr (by decide)))
  have x87 : x2.2.1 87 = x.2.1 87 := (hm.2 87 (by decide)).trans (y2 87 (by decide) (Or.inr (by decide)))
  have x83 : x2.1 83 = x.1 83 := (congrFun hm.1 83).trans (y1 83 (by decide) (Or.inr (by decide)))
  obtain ⟨R, r1, r2⟩ := hR x2 hm (by rw [x83]; exact hI.2.2.1) (STR_cg hI.1 (EQG_of (fun a _ => ⟨rfl, rfl⟩)) (EQR_of x84 x85))
  refine ⟨_, r1, fun ra z hz => ?_⟩
  obtain ⟨w, hw, hRz⟩ := hz
  obtain ⟨q1, q2, q3, q4, q5⟩ := r2 ra w z ((sv0_84 hw).trans x84) ((sv0_85 hw).trans x85) hRz
  have w0 : w.1 83 0 = 0 := (hw.2.1 0 (by decide)).trans th_0
  have wz1 : ∀ a, a ≤ 82 → z.1 a = y.1 a := fun a ha => by
    rw [q2.1 a (frM_in (Or.inl ha)), hw.1.1 a (fun q => by simp at q; omega), th_o (by omega), hm.1]
  have wz2 : ∀ a, a ≤ 82 → z.2.1 a = y.2.1 a := fun a ha => by
    rw [q2.2.1 a (frM_in (Or.inl ha)), hw.1.2.1 a (fun q => by simp at q; omega), ← hm.2 a (by omega)]; rfl
  have z95 : z.2.1 95 = x2.2.1 95 := by
    rw [q2.2.1 95 (frM_in (by omega)), hw.1.2.1 95 (by decide)]; rfl
  have zl : z.2.2 = x2.2.2 := by
    rw [q2.2.2, hw.1.2.2]; rfl
  obtain ⟨s1, s2, s3⟩ := SVD_push (z := z) hI (fun a h1 h2 => ⟨(wz1 a (by omega)).trans (hf.1 a (frC_in h1 (Or.inl (by omega)))), (wz2 a (by omega)).trans (hf.2.1 a (frC_in h1 (Or.inl (by omega))))⟩) hw x84 x85 x86 x87 (q2.1 86 (frM_in (by omega))) (q2.2.1 87 (frM_in (by omega))) q3
  exact ⟨q1, q4.trans w0, zl, z95, n2, ne2, _, _, STR_cg q5 (EQG_of (fun a ha => ⟨wz1 a (by omega), wz2 a (by omega)⟩)) (EQR_of rfl rfl), s1, s2, s3⟩
theorem st_LR {x r : Hp} {n ne k : Nat} (h : STR x r n ne) (hk : k < n) : LR x k := h.1.1.2.2.2.2.2 k hk
theorem STR_rows {x y z : Hp} {n ne : Nat} (h : STR x x n ne) (e : ∀ a, a = 2 ∨ a = 3 ∨ a = 4 ∨ a = 7 ∨ a = 13 ∨ a = 14 → y.1 a = x.1 a) (ed : ∀ a, a = 1 ∨ a = 2 ∨ a = 5 ∨ a = 13 ∨ a = 15 → y.2.1 a = x.2.1 a) (zd : z.2.1 85 = x.2.1 85) (zk : ∀ k, k < 170 → (∀ l, l < n → ∀ w, 1 ≤ w → w ≤ 6 → k ≠ 2 + 9 * l + w) → z.1 84 k = x.1 84 k) (rows : ∀ k, k < n → LR y k ∧ z.1 84 (2 + 9 * k + 1) = y.1 6 k ∧ z.1 84 (2 + 9 * k + 2) = y.1 8 k ∧ z.1 84 (2 + 9 * k + 3) = y.1 9 k ∧ z.1 84 (2 + 9 * k + 4) = y.1 10 k ∧ z.1 84 (2 + 9 * k + 5) = y.1 11 k ∧ z.1 84 (2 + 9 * k + 6) = y.1 12 k) (hd : ∀ k, n ≤ k → k < 12 → LD y k) : STR y z n ne := by
  obtain ⟨⟨⟨c1, c2, c3, c4, c5, c6⟩, cn, ck, cl, cs, co⟩, ⟨v1, v2, v3, v4⟩, ⟨⟨m1, m2, m3⟩, r2, r3, r4, ⟨r5, r6, r7, r8⟩, r9⟩, o1, ⟨w1, w2, w3, w4, w5⟩⟩ := h
  have e2 := e 2 (by omega)
  have e3 := e 3 (by omega)
  have e4 := e 4 (by omega)
  have e7 := e 7 (by omega)
  have e13 := e 13 (by omega)
  have e14 := e 14 (by omega)
  have fb : fbN y = fbN x := by funext k; exact fbN_cg (by rw [e3])
  refine ⟨⟨⟨c1, by rw [ed 2 (by omega)]; exact c2, by rw [ed 2 (by omega)]; exact c3, by rw [ed 1 (by omega)]; exact c4, fun k hk => by rw [ed 5 (by omega)]; exact c5 k hk, fun k hk => (rows k hk).1⟩, by rw [e2]; exact cn, fun k hk => by rw [e3, e4, fb]; exact ck k hk, hd, by rw [e7]; exact cs, by rw [e7]; exact co⟩, ⟨v1, by rw [e13]; exact v2, fun j hj => by rw [ed 15 (by omega)]; exact v3 j hj, by rw [ed 13 (by omega)]; exact v4⟩, ⟨⟨m1, ?_, fun k hk => ?_⟩, by rw [e2]; exact r2, fun k hk => by rw [e3, fb]; exact r3 k hk, fun k j hk hj => by rw [e4, fb]; exact r4 k j hk hj, ⟨by rw [zd, ed 2 (by omega)]; exact r5, by rw [zd, ed 2 (by omega)]; exact r6, by rw [zd, ed 1 (by omega)]; exact r7, fun k hk => by rw [zd, ed 5 (by omega)]; exact r8 k hk⟩, fun k hk => ?_⟩, fun k hk => ?_, ⟨w1, by rw [e13]; exact w2, ?_, fun j hj => ?_, by rw [zd, ed 13 (by omega)]; exact w5⟩⟩
  · rw [zk 0 (by omega) (fun l _ w _ _ => by omega)]; exact m2
  · rw [zk _ (by omega) (fun l _ w _ _ => by omega), fb]; exact m3 k hk
  · obtain ⟨-, s1, s2, s3, s4, s5, s6⟩ := rows k hk
    refine ⟨s1, s2, s3, s4, s5, s6, ?_⟩
    rw [zk _ (by omega) (fun l _ w _ _ => by omega), e7]
    exact (r9 k hk).2.2.2.2.2.2
  · rw [zk _ (by omega) (fun l _ w _ _ => by omega), e7]; exact o1 k hk
  · rw [zk 1 (by omega) (fun l _ w _ _ => by omega)]; exact w3
  · rw [zk _ (by omega) (fun l _ w _ _ => by omega), e14, zd, ed 15 (by omega)]; exact w4 j hj
theorem fr1 {S : List Nat} {x : Hp} {a k : Nat} {v : Int32} {f : Nat → Nat → Int32} (h : fr S x (f, x.2)) (ha : a ∈ S) : fr S x (u2 f a k v, x.2) := fr_tr h (fr_wI (x := (f, x.2)) ha)
theorem nI_rgne {v : Int32} {n : Nat} (h : 1 ≤ v ∧ v ≤ nI n) : 1 ≤ n := by
  rcases Nat.eq_zero_or_pos n with q | q
  · subst q
    exact absurd (Int32.le_trans h.1 h.2) (by decide)
  · exact q
section
variable {Y : Kx} {x : Hp} {n ne i c : Nat}
theorem yr_load (hi : i < 4) {k a : Nat} : ∀ D, D < 16 → (∀ j, (¬ (D = 6) ∨ j ≠ k) → (u2 (pushS x i c).1 6 k (nI a)) D j = x.1 D j) ∧ (D = 6 → (u2 (pushS x i c).1 6 k (nI a)) D k = nI a) := by
  intro D hD
  have hp : (pushS x i c).1 D = x.1 D := push_o1 hi (Or.inl hD)
  refine ⟨fun j hj => ?_, fun h => ?_⟩
  · rcases hj with hj | hj
    · rw [u2_ne (by omega), hp]
    · have h0 : u2 (pushS x i c).1 6 k (nI a) D j = (pushS x i c).1 D j := by
        by_cases q : D = 6
        · subst q; exact u2_k _ _ _ _ hj
        · rw [u2_ne q]
      rw [h0]
      rw [hp]
  · subst h
    rw [u2_at]
theorem op_setLoad (hfl : Y.1.stackTraces = false) (hI : INVW x n ne i c) (b v : Int32) : OPG Y mX6_setLoad mX7_setLoad [.int b, .int v] x ∨ OPB Y mX6_setLoad mX7_setLoad [.int b, .int v] x IAE 1 (.int 0) := by
  have h12 := hI.1.1.1.1
  by_cases h : (1 ≤ b ∧ b ≤ nI n) ∧ 0 ≤ v ∧ v ≤ 5000
  · obtain ⟨k1, g1, g2, rfl⟩ := nI_rg (v := b) (lo := 1) (hi := n) (by omega) (by
      have := (nI_rgne h.1); exact this) h.1
    obtain ⟨k, rfl⟩ : ∃ k, k1 = k + 1 := ⟨k1 - 1, by omega⟩
    obtain ⟨a, -, ha, rfl⟩ := nI_rg (v := v) (lo := 0) (hi := 5000) (by decide) (by decide) h.2
    have hk : k < n := by omega
    refine Or.inl (op_push hI (f_setLoad Y x i c n k a hI.2.1 (st_LN hI.1 hk) ha) ?_)
    rintro rr y ⟨rfl, rfl⟩
    refine ⟨_, n, ne, rfl, vok_i, fr1 (fr_rf) (by decide), fun x2 hm h5 hS => ⟨fun r2 w z => r2 = some (.int (x2.1 84 (2 + 9 * k + 1))) ∧ z = (u2 w.1 84 (2 + 9 * k + 1) (nI a), w.2), r_setLoad Y x2 c n k a hI.2.1.2.1 h5 (st_84 hS) h12 hk ha, ?_⟩⟩
    rintro r2 w z w84 w85 ⟨rfl, rfl⟩
    have hy := yr_load (x := x) (c := c) hI.2.1.1 (k := k) (a := a)
    have hz : ∀ j, j ≠ 2 + 9 * k + 1 → u2 w.1 84 (2 + 9 * k + 1) (nI a) 84 j = x.1 84 j := fun j z0 => by rw [u2_k _ _ _ _ z0, w84]
    have hz0 : u2 w.1 84 (2 + 9 * k + 1) (nI a) 84 (2 + 9 * k + 1) = nI a := by rw [u2_at]
    refine ⟨by rw [(hS.2.2.1.2.2.2.2.2 k hk).1], fr1 (fr_rf (x := w)) (by decide), rfl, rfl, STR_rows hI.1 (fun a ha => funext (fun j => (hy a (by omega)).1 j (Or.inl (by omega)))) (fun a ha => push_o2 (c := c) hI.2.1.1 (Or.inl (by omega))) w85 (fun j hj hh => hz j (hh k hk 1 (by decide) (by decide))) (fun j hj => ?_) (fun j h1 h2 => ?_)⟩
    · obtain ⟨s1, s2, s3, s4, s5, s6, -⟩ := hI.1.2.2.1.2.2.2.2.2 j hj
      obtain ⟨l1, l2, l3, l4, l5, l6⟩ := st_LR hI.1 hj
      by_cases qj : j = k
      · subst qj
        exact ⟨⟨⟨a, ha, (hy 6 (by decide)).2 rfl⟩, by dsimp only; rw [(hy 8 (by decide)).1 j (Or.inl (by decide))]; exact l2, by dsimp only; rw [(hy 9 (by decide)).1 j (Or.inl (by decide))]; exact l3, by dsimp only; rw [(hy 10 (by decide)).1 j (Or.inl (by decide))]; exact l4, by dsimp only; rw [(hy 11 (by decide)).1 j (Or.inl (by decide))]; exact l5, by dsimp only; rw [(hy 12 (by decide)).1 j (Or.inl (by decide))]; exact l6⟩, hz0.trans ((hy 6 (by decide)).2 rfl).symm, (hz _ (by omega)).trans (s2.trans ((hy 8 (by decide)).1 j (Or.inl (by decide))).symm), (hz _ (by omega)).trans (s3.trans ((hy 9 (by decide)).1 j (Or.inl (by decide))).symm), (hz _ (by omega)).trans (s4.trans ((hy 10 (by decide)).1 j (Or.inl (by decide))).symm), (hz _ (by omega)).trans (s5.trans ((hy 11 (by decide)).1 j (Or.inl (by decide))).symm), (hz _ (by omega)).trans (s6.trans ((hy 12 (by decide)).1 j (Or.inl (by decide))).symm)⟩
      · refine ⟨LR_cg ((hy 6 (by decide)).1 j (Or.inr qj)) ((hy 8 (by decide)).1 j (Or.inr qj)) ((hy 9 (by decide)).1 j (Or.inr qj)) ((hy 10 (by decide)).1 j (Or.inr qj)) ((hy 11 (by decide)).1 j (Or.inr qj)) ((hy 12 (by decide)).1 j (Or.inr qj)) (st_LR hI.1 hj), (hz _ (by omega)).trans (s1.trans ((hy 6 (by decide)).1 j (Or.inr qj)).symm), (hz _ (by omega)).trans (s2.trans ((hy 8 (by decide)).1 j (Or.inr qj)).symm), (hz _ (by omega)).trans (s3.trans ((hy 9 (by decide)).1 j (Or.inr qj)).symm), (hz _ (by omega)).trans (s4.trans ((hy 10 (by decide)).1 j (Or.inr qj)).symm), (hz _ (by omega)).trans (s5.trans ((hy 11 (by decide)).1 j (Or.inr qj)).symm), (hz _ (by omega)).trans (s6.trans ((hy 12 (by decide)).1 j (Or.inr qj)).symm)⟩
    · exact LD_cg ((hy 6 (by decide)).1 j (Or.inr (by omega))) ((hy 8 (by decide)).1 j (Or.inr (by omega))) ((hy 9 (by decide)).1 j (Or.inr (by omega))) ((hy 10 (by decide)).1 j (Or.inr (by omega))) ((hy 11 (by decide)).1 j (Or.inr (by omega))) ((hy 12 (by decide)).1 j (Or.inr (by omega))) (hI.1.1.2.2.2.1 j h1 h2)
  · refine Or.inr ?_
    by_cases hb : 1 ≤ b ∧ b ≤ nI n
    · exact op_ref hI (t_setLoad2 Y hfl x b v (by rw [hI.1.1.2.1]; exact hb) (fun z => h ⟨hb, z⟩)) (fun x2 hm hS => b_setLoad Y x2 b v (by rw [st_84 hS]; exact h))
    · exact op_ref hI (t_setLoad1 Y hfl x b v (by rw [hI.1.1.2.1]; exact hb)) (fun x2 hm hS => b_setLoad Y x2 b v (by rw [st_84 hS]; exact h))
theorem yr_inst (hi : i < 4) {k a : Nat} : ∀ D, D < 16 → (∀ j, (¬ (D = 11) ∨ j ≠ k) → (u2 (pushS x i c).1 11 k (nI a)) D j = x.1 D j) ∧ (D = 11 → (u2 (pushS x i c).1 11 k (nI a)) D k = nI a) := by
  intro D hD
  have hp : (pushS x i c).1 D = x.1 D := push_o1 hi (Or.inl hD)
  refine ⟨fun j hj => ?_, fun h => ?_⟩
  · rcases hj with hj | hj
    · rw [u2_ne (by omega), hp]
    · have h0 : u2 (pushS x i c).1 11 k (nI a) D j = (pushS x i c).1 D j := by
        by_cases q : D = 11
        · subst q; exact u2_k _ _ _ _ hj
        · rw [u2_ne q]
      rw [h0]
      rw [hp]
  · subst h
    rw [u2_at]
theorem op_setInstantaneous (hfl : Y.1.stackTraces = false) (hI : INVW x n ne i c) (b v : Int32) : OPG Y mX6_setInstantaneous mX7_setInstantaneous [.int b, .int v] x ∨ OPB Y mX6_setInstantaneous mX7_setInstantaneous [.int b, .int v] x IAE 1 (.int 0) := by
  have h12 := hI.1.1.1.1
  by_cases h : (0 ≤ b ∧ b ≤ nI n - 1) ∧ 0 ≤ v ∧ v ≤ 100000
  · obtain ⟨k, hk, rfl⟩ := nI_rng (by omega) h.1
    obtain ⟨a, -, ha, rfl⟩ := nI_rg (v := v) (lo := 0) (hi := 100000) (by decide) (by decide) h.2
    refine Or.inl (op_push hI (f_setInstantaneous Y x i c n k a hI.2.1 (st_LN hI.1 hk) ha) ?_)
    rintro rr y ⟨rfl, rfl⟩
    refine ⟨_, n, ne, rfl, vok_i, fr1 (fr_rf) (by decide), fun x2 hm h5 hS => ⟨fun r2 w z => r2 = some (.int (x2.1 84 (2 + 9 * k + 5))) ∧ z = (u2 w.1 84 (2 + 9 * k + 5) (nI a), w.2), r_setInstantaneous Y x2 c n k a hI.2.1.2.1 h5 (st_84 hS) h12 hk ha, ?_⟩⟩
    rintro r2 w z w84 w85 ⟨rfl, rfl⟩
    have hy := yr_inst (x := x) (c := c) hI.2.1.1 (k := k) (a := a)
    have hz : ∀ j, j ≠ 2 + 9 * k + 5 → u2 w.1 84 (2 + 9 * k + 5) (nI a) 84 j = x.1 84 j := fun j z0 => by rw [u2_k _ _ _ _ z0, w84]
    have hz0 : u2 w.1 84 (2 + 9 * k + 5) (nI a) 84 (2 + 9 * k + 5) = nI a := by rw [u2_at]
    refine ⟨by rw [(hS.2.2.1.2.2.2.2.2 k hk).2.2.2.2.1], fr1 (fr_rf (x := w)) (by decide), rfl, rfl, STR_rows hI.1 (fun a ha => funext (fun j => (hy a (by omega)).1 j (Or.inl (by omega)))) (fun a ha => push_o2 (c := c) hI.2.1.1 (Or.inl (by omega))) w85 (fun j hj hh => hz j (hh k hk 5 (by decide) (by decide))) (fun j hj => ?_) (fun j h1 h2 => ?_)⟩
    · obtain ⟨s1, s2, s3, s4, s5, s6, -⟩ := hI.1.2.2.1.2.2.2.2.2 j hj
      obtain ⟨l1, l2, l3, l4, l5, l6⟩ := st_LR hI.1 hj
      by_cases qj : j = k
      · subst qj
        exact ⟨⟨by dsimp only; rw [(hy 6 (by decide)).1 j (Or.inl (by decide))]; exact l1, by dsimp only; rw [(hy 8 (by decide)).1 j (Or.inl (by decide))]; exact l2, by dsimp only; rw [(hy 9 (by decide)).1 j (Or.inl (by decide))]; exact l3, by dsimp only; rw [(hy 10 (by decide)).1 j (Or.inl (by decide))]; exact l4, ⟨a, ha, (hy 11 (by decide)).2 rfl⟩, by dsimp only; rw [(hy 12 (by decide)).1 j (Or.inl (by decide))]; exact l6⟩, (hz _ (by omega)).trans (s1.trans ((hy 6 (by decide)).1 j (Or.inl (by decide))).symm), (hz _ (by omega)).trans (s2.trans ((hy 8 (by decide)).1 j (Or.inl (by decide))).symm), (hz _ (by omega)).trans (s3.trans ((hy 9 (by decide)).1 j (Or.inl (by decide))).symm), (hz _ (by omega)).trans (s4.trans ((hy 10 (by decide)).1 j (Or.inl (by decide))).symm), hz0.trans ((hy 11 (by decide)).2 rfl).symm, (hz _ (by omega)).trans (s6.trans ((hy 12 (by decide)).1 j (Or.inl (by decide))).symm)⟩
      · refine ⟨LR_cg ((hy 6 (by decide)).1 j (Or.inr qj)) ((hy 8 (by decide)).1 j (Or.inr qj)) ((hy 9 (by decide)).1 j (Or.inr qj)) ((hy 10 (by decide)).1 j (Or.inr qj)) ((hy 11 (by decide)).1 j (Or.inr qj)) ((hy 12 (by decide)).1 j (Or.inr qj)) (st_LR hI.1 hj), (hz _ (by omega)).trans (s1.trans ((hy 6 (by decide)).1 j (Or.inr qj)).symm), (hz _ (by omega)).trans (s2.trans ((hy 8 (by decide)).1 j (Or.inr qj)).symm), (hz _ (by omega)).trans (s3.trans ((hy 9 (by decide)).1 j (Or.inr qj)).symm), (hz _ (by omega)).trans (s4.trans ((hy 10 (by decide)).1 j (Or.inr qj)).symm), (hz _ (by omega)).trans (s5.trans ((hy 11 (by decide)).1 j (Or.inr qj)).symm), (hz _ (by omega)).trans (s6.trans ((hy 12 (by decide)).1 j (Or.inr qj)).symm)⟩
    · exact LD_cg ((hy 6 (by decide)).1 j (Or.inr (by omega))) ((hy 8 (by decide)).1 j (Or.inr (by omega))) ((hy 9 (by decide)).1 j (Or.inr (by omega))) ((hy 10 (by decide)).1 j (Or.inr (by omega))) ((hy 11 (by decide)).1 j (Or.inr (by omega))) ((hy 12 (by decide)).1 j (Or.inr (by omega))) (hI.1.1.2.2.2.1 j h1 h2)
  · refine Or.inr ?_
    by_cases hb : 0 ≤ b ∧ b ≤ nI n - 1
    · obtain ⟨k, hk, rfl⟩ := nI_rng (by omega) hb
      exact op_ref hI (t_setInstantaneous2 Y hfl x n k (st_LN hI.1 hk) v (fun z => h ⟨hb, z⟩)) (fun x2 hm hS => b_setInstantaneous Y x2 _ v (by rw [st_84 hS]; exact h))
    · exact op_ref hI (t_setInstantaneous1 Y hfl x b (by rw [hI.1.1.2.1]; exact hb) v) (fun x2 hm hS => b_setInstantaneous Y x2 b v (by rw [st_84 hS]; exact h))
theorem yr_shots (hi : i < 4) {k a : Nat} : ∀ D, D < 16 → (∀ j, (¬ (D = 12) ∨ j ≠ k) → (u2 (pushS x i c).1 12 k (nI a)) D j = x.1 D j) ∧ (D = 12 → (u2 (pushS x i c).1 12 k (nI a)) D k = nI a) := by
  intro D hD
  have hp : (pushS x i c).1 D = x.1 D := push_o1 hi (Or.inl hD)
  refine ⟨fun j hj => ?_, fun h => ?_⟩
  · rcases hj with hj | hj
    · rw [u2_ne (by omega), hp]
    · have h0 : u2 (pushS x i c).1 12 k (nI a) D j = (pushS x i c).1 D j := by
        by_cases q : D = 12
        · subst q; exact u2_k _ _ _ _ hj
        · rw [u2_ne q]
      rw [h0]
      rw [hp]
  · subst h
    rw [u2_at]
theorem op_setShots (hfl : Y.1.stackTraces = false) (hI : INVW x n ne i c) (b v : Int32) : OPG Y mX6_setShots mX7_setShots [.int b, .int v] x ∨ OPB Y mX6_setShots mX7_setShots [.int b, .int v] x IAE 1 (.int 0) := by
  have h12 := hI.1.1.1.1
  by_cases h : (0 ≤ b ∧ b ≤ nI n - 1) ∧ 0 ≤ v ∧ v ≤ 3
  · obtain ⟨k, hk, rfl⟩ := nI_rng (by omega) h.1
    obtain ⟨a, -, ha, rfl⟩ := nI_rg (v := v) (lo := 0) (hi := 3) (by decide) (by decide) h.2
    refine Or.inl (op_push hI (f_setShots Y x i c n k a hI.2.1 (st_LN hI.1 hk) ha) ?_)
    rintro rr y ⟨rfl, rfl⟩
    refine ⟨_, n, ne, rfl, vok_i, fr1 (fr_rf) (by decide), fun x2 hm h5 hS => ⟨fun r2 w z => r2 = some (.int (x2.1 84 (2 + 9 * k + 6))) ∧ z = (u2 w.1 84 (2 + 9 * k + 6) (nI a), w.2), r_setShots Y x2 c n k a hI.2.1.2.1 h5 (st_84 hS) h12 hk ha, ?_⟩⟩
    rintro r2 w z w84 w85 ⟨rfl, rfl⟩
    have hy := yr_shots (x := x) (c := c) hI.2.1.1 (k := k) (a := a)
    have hz : ∀ j, j ≠ 2 + 9 * k + 6 → u2 w.1 84 (2 + 9 * k + 6) (nI a) 84 j = x.1 84 j := fun j z0 => by rw [u2_k _ _ _ _ z0, w84]
    have hz0 : u2 w.1 84 (2 + 9 * k + 6) (nI a) 84 (2 + 9 * k + 6) = nI a := by rw [u2_at]
    refine ⟨by rw [(hS.2.2.1.2.2.2.2.2 k hk).2.2.2.2.2.1], fr1 (fr_rf (x := w)) (by decide), rfl, rfl, STR_rows hI.1 (fun a ha => funext (fun j => (hy a (by omega)).1 j (Or.inl (by omega)))) (fun a ha => push_o2 (c := c) hI.2.1.1 (Or.inl (by omega))) w85 (fun j hj hh => hz j (hh k hk 6 (by decide) (by decide))) (fun j hj => ?_) (fun j h1 h2 => ?_)⟩
    · obtain ⟨s1, s2, s3, s4, s5, s6, -⟩ := hI.1.2.2.1.2.2.2.2.2 j hj
      obtain ⟨l1, l2, l3, l4, l5, l6⟩ := st_LR hI.1 hj
      by_cases qj : j = k
      · subst qj
        exact ⟨⟨by dsimp only; rw [(hy 6 (by decide)).1 j (Or.inl (by decide))]; exact l1, by dsimp only; rw [(hy 8 (by decide)).1 j (Or.inl (by decide))]; exact l2, by dsimp only; rw [(hy 9 (by decide)).1 j (Or.inl (by decide))]; exact l3, by dsimp only; rw [(hy 10 (by decide)).1 j (Or.inl (by decide))]; exact l4, by dsimp only; rw [(hy 11 (by decide)).1 j (Or.inl (by decide))]; exact l5, ⟨a, ha, (hy 12 (by decide)).2 rfl⟩⟩, (hz _ (by omega)).trans (s1.trans ((hy 6 (by decide)).1 j (Or.inl (by decide))).symm), (hz _ (by omega)).trans (s2.trans ((hy 8 (by decide)).1 j (Or.inl (by decide))).symm), (hz _ (by omega)).trans (s3.trans ((hy 9 (by decide)).1 j (Or.inl (by decide))).symm), (hz _ (by omega)).trans (s4.trans ((hy 10 (by decide)).1 j (Or.inl (by decide))).symm), (hz _ (by omega)).trans (s5.trans ((hy 11 (by decide)).1 j (Or.inl (by decide))).symm), hz0.trans ((hy 12 (by decide)).2 rfl).symm⟩
      · refine ⟨LR_cg ((hy 6 (by decide)).1 j (Or.inr qj)) ((hy 8 (by decide)).1 j (Or.inr qj)) ((hy 9 (by decide)).1 j (Or.inr qj)) ((hy 10 (by decide)).1 j (Or.inr qj)) ((hy 11 (by decide)).1 j (Or.inr qj)) ((hy 12 (by decide)).1 j (Or.inr qj)) (st_LR hI.1 hj), (hz _ (by omega)).trans (s1.trans ((hy 6 (by decide)).1 j (Or.inr qj)).symm), (hz _ (by omega)).trans (s2.trans ((hy 8 (by decide)).1 j (Or.inr qj)).symm), (hz _ (by omega)).trans (s3.trans ((hy 9 (by decide)).1 j (Or.inr qj)).symm), (hz _ (by omega)).trans (s4.trans ((hy 10 (by decide)).1 j (Or.inr qj)).symm), (hz _ (by omega)).trans (s5.trans ((hy 11 (by decide)).1 j (Or.inr qj)).symm), (hz _ (by omega)).trans (s6.trans ((hy 12 (by decide)).1 j (Or.inr qj)).symm)⟩
    · exact LD_cg ((hy 6 (by decide)).1 j (Or.inr (by omega))) ((hy 8 (by decide)).1 j (Or.inr (by omega))) ((hy 9 (by decide)).1 j (Or.inr (by omega))) ((hy 10 (by decide)).1 j (Or.inr (by omega))) ((hy 11 (by decide)).1 j (Or.inr (by omega))) ((hy 12 (by decide)).1 j (Or.inr (by omega))) (hI.1.1.2.2.2.1 j h1 h2)
  · refine Or.inr ?_
    by_cases hb : 0 ≤ b ∧ b ≤ nI n - 1
    · obtain ⟨k, hk, rfl⟩ := nI_rng (by omega) hb
      exact op_ref hI (t_setShots2 Y hfl x n k (st_LN hI.1 hk) v (fun z => h ⟨hb, z⟩)) (fun x2 hm hS => b_setShots Y x2 _ v (by rw [st_84 hS]; exact h))
    · exact op_ref hI (t_setShots1 Y hfl x b (by rw [hI.1.1.2.1]; exact hb) v) (fun x2 hm hS => b_setShots Y x2 b v (by rw [st_84 hS]; exact h))
theorem yr_relay (hi : i < 4) {k p q s : Nat} : ∀ D, D < 16 → (∀ j, (¬ (D = 8 ∨ D = 9 ∨ D = 10) ∨ j ≠ k) → (u2 (u2 (u2 (pushS x i c).1 8 k (nI p)) 9 k (nI q)) 10 k (nI s)) D j = x.1 D j) ∧ (D = 8 → (u2 (u2 (u2 (pushS x i c).1 8 k (nI p)) 9 k (nI q)) 10 k (nI s)) D k = nI p) ∧ (D = 9 → (u2 (u2 (u2 (pushS x i c).1 8 k (nI p)) 9 k (nI q)) 10 k (nI s)) D k = nI q) ∧ (D = 10 → (u2 (u2 (u2 (pushS x i c).1 8 k (nI p)) 9 k (nI q)) 10 k (nI s)) D k = nI s) := by
  intro D hD
  have hp : (pushS x i c).1 D = x.1 D := push_o1 hi (Or.inl hD)
  refine ⟨fun j hj => ?_, fun h => ?_, fun h => ?_, fun h => ?_⟩
  · rcases hj with hj | hj
    · rw [u2_ne (by omega), u2_ne (by omega), u2_ne (by omega), hp]
    · have h2 : u2 (u2 (u2 (pushS x i c).1 8 k (nI p)) 9 k (nI q)) 10 k (nI s) D j = (u2 (u2 (pushS x i c).1 8 k (nI p)) 9 k (nI q)) D j := by
        by_cases q : D = 10
        · subst q; exact u2_k _ _ _ _ hj
        · rw [u2_ne q]
      rw [h2]
      have h1 : u2 (u2 (pushS x i c).1 8 k (nI p)) 9 k (nI q) D j = (u2 (pushS x i c).1 8 k (nI p)) D j := by
        by_cases q : D = 9
        · subst q; exact u2_k _ _ _ _ hj
        · rw [u2_ne q]
      rw [h1]
      have h0 : u2 (pushS x i c).1 8 k (nI p) D j = (pushS x i c).1 D j := by
        by_cases q : D = 8
        · subst q; exact u2_k _ _ _ _ hj
        · rw [u2_ne q]
      rw [h0]
      rw [hp]
  · subst h
    rw [u2_ne (by decide), u2_ne (by decide), u2_at]
  · subst h
    rw [u2_ne (by decide), u2_at]
  · subst h
    rw [u2_at]
theorem op_setRelay (hfl : Y.1.stackTraces = false) (hI : INVW x n ne i c) (b v1 v2 v3 : Int32) : OPG Y mX6_setRelay mX7_setRelay [.int b, .int v1, .int v2, .int v3] x ∨ OPB Y mX6_setRelay mX7_setRelay [.int b, .int v1, .int v2, .int v3] x IAE 1 (.int 0) := by
  have h12 := hI.1.1.1.1
  by_cases h : (0 ≤ b ∧ b ≤ nI n - 1) ∧ (1 ≤ v1 ∧ v1 ≤ 20000) ∧ (0 ≤ v2 ∧ v2 ≤ 3) ∧ 1 ≤ v3 ∧ v3 ≤ 20
  · obtain ⟨k, hk, rfl⟩ := nI_rng (by omega) h.1
    obtain ⟨p, p1, p2, rfl⟩ := nI_rg (v := v1) (lo := 1) (hi := 20000) (by decide) (by decide) h.2.1
    obtain ⟨q, -, q2, rfl⟩ := nI_rg (v := v2) (lo := 0) (hi := 3) (by decide) (by decide) h.2.2.1
    obtain ⟨s, t1, t2, rfl⟩ := nI_rg (v := v3) (lo := 1) (hi := 20) (by decide) (by decide) h.2.2.2
    refine Or.inl (op_push hI (f_setRelay Y x i c n k p q s hI.2.1 (st_LN hI.1 hk) ⟨p1, p2⟩ q2 ⟨t1, t2⟩) ?_)
    rintro rr y ⟨rfl, rfl⟩
    refine ⟨_, n, ne, rfl, vok_i, fr1 (fr1 (fr1 (fr_rf) (by decide)  ) (by decide)  ) (by decide), fun x2 hm h5 hS => ⟨fun r2 w z => r2 = some (.int (x2.1 84 (2 + 9 * k + 2))) ∧ z = (u2 (u2 (u2 w.1 84 (2 + 9 * k + 2) (nI p)) 84 (2 + 9 * k + 3) (nI q)) 84 (2 + 9 * k + 4) (nI s), w.2), r_setRelay Y x2 c n k p q s hI.2.1.2.1 h5 (st_84 hS) h12 hk ⟨p1, p2⟩ q2 ⟨t1, t2⟩, ?_⟩⟩
    rintro r2 w z w84 w85 ⟨rfl, rfl⟩
    have hy := yr_relay (x := x) (c := c) hI.2.1.1 (k := k) (p := p) (q := q) (s := s)
    have hz : ∀ j, j ≠ 2 + 9 * k + 2 → j ≠ 2 + 9 * k + 3 → j ≠ 2 + 9 * k + 4 → u2 (u2 (u2 w.1 84 (2 + 9 * k + 2) (nI p)) 84 (2 + 9 * k + 3) (nI q)) 84 (2 + 9 * k + 4) (nI s) 84 j = x.1 84 j := fun j z0 z1 z2 => by rw [u2_k _ _ _ _ z2, u2_k _ _ _ _ z1, u2_k _ _ _ _ z0, w84]
    have hz0 : u2 (u2 (u2 w.1 84 (2 + 9 * k + 2) (nI p)) 84 (2 + 9 * k + 3) (nI q)) 84 (2 + 9 * k + 4) (nI s) 84 (2 + 9 * k + 2) = nI p := by rw [u2_k _ _ _ _ (by omega), u2_k _ _ _ _ (by omega), u2_at]
    have hz1 : u2 (u2 (u2 w.1 84 (2 + 9 * k + 2) (nI p)) 84 (2 + 9 * k + 3) (nI q)) 84 (2 + 9 * k + 4) (nI s) 84 (2 + 9 * k + 3) = nI q := by rw [u2_k _ _ _ _ (by omega), u2_at]
    have hz2 : u2 (u2 (u2 w.1 84 (2 + 9 * k + 2) (nI p)) 84 (2 + 9 * k + 3) (nI q)) 84 (2 + 9 * k + 4) (nI s) 84 (2 + 9 * k + 4) = nI s := by rw [u2_at]
    refine ⟨by rw [(hS.2.2.1.2.2.2.2.2 k hk).2.1], fr1 (fr1 (fr1 (fr_rf (x := w)) (by decide)) (by decide)) (by decide), rfl, rfl, STR_rows hI.1 (fun a ha => funext (fun j => (hy a (by omega)).1 j (Or.inl (by omega)))) (fun a ha => push_o2 (c := c) hI.2.1.1 (Or.inl (by omega))) w85 (fun j hj hh => hz j (hh k hk 2 (by decide) (by decide)) (hh k hk 3 (by decide) (by decide)) (hh k hk 4 (by decide) (by decide))) (fun j hj => ?_) (fun j h1 h2 => ?_)⟩
    · obtain ⟨s1, s2, s3, s4, s5, s6, -⟩ := hI.1.2.2.1.2.2.2.2.2 j hj
      obtain ⟨l1, l2, l3, l4, l5, l6⟩ := st_LR hI.1 hj
      by_cases qj : j = k
      · subst qj
        exact ⟨⟨by dsimp only; rw [(hy 6 (by decide)).1 j (Or.inl (by decide))]; exact l1, ⟨p, p1, p2, (hy 8 (by decide)).2.1 rfl⟩, ⟨q, q2, (hy 9 (by decide)).2.2.1 rfl⟩, ⟨s, t1, t2, (hy 10 (by decide)).2.2.2 rfl⟩, by dsimp only; rw [(hy 11 (by decide)).1 j (Or.inl (by decide))]; exact l5, by dsimp only; rw [(hy 12 (by decide)).1 j (Or.inl (by decide))]; exact l6⟩, (hz _ (by omega) (by omega) (by omega)).trans (s1.trans ((hy 6 (by decide)).1 j (Or.inl (by decide))).symm), hz0.trans ((hy 8 (by decide)).2.1 rfl).symm, hz1.trans ((hy 9 (by decide)).2.2.1 rfl).symm, hz2.trans ((hy 10 (by decide)).2.2.2 rfl).symm, (hz _ (by omega) (by omega) (by omega)).trans (s5.trans ((hy 11 (by decide)).1 j (Or.inl (by decide))).symm), (hz _ (by omega) (by omega) (by omega)).trans (s6.trans ((hy 12 (by decide)).1 j (Or.inl (by decide))).symm)⟩
      · refine ⟨LR_cg ((hy 6 (by decide)).1 j (Or.inr qj)) ((hy 8 (by decide)).1 j (Or.inr qj)) ((hy 9 (by decide)).1 j (Or.inr qj)) ((hy 10 (by decide)).1 j (Or.inr qj)) ((hy 11 (by decide)).1 j (Or.inr qj)) ((hy 12 (by decide)).1 j (Or.inr qj)) (st_LR hI.1 hj), (hz _ (by omega) (by omega) (by omega)).trans (s1.trans ((hy 6 (by decide)).1 j (Or.inr qj)).symm), (hz _ (by omega) (by omega) (by omega)).trans (s2.trans ((hy 8 (by decide)).1 j (Or.inr qj)).symm), (hz _ (by omega) (by omega) (by omega)).trans (s3.trans ((hy 9 (by decide)).1 j (Or.inr qj)).symm), (hz _ (by omega) (by omega) (by omega)).trans (s4.trans ((hy 10 (by decide)).1 j (Or.inr qj)).symm), (hz _ (by omega) (by omega) (by omega)).trans (s5.trans ((hy 11 (by decide)).1 j (Or.inr qj)).symm), (hz _ (by omega) (by omega) (by omega)).trans (s6.trans ((hy 12 (by decide)).1 j (Or.inr qj)).symm)⟩
    · exact LD_cg ((hy 6 (by decide)).1 j (Or.inr (by omega))) ((hy 8 (by decide)).1 j (Or.inr (by omega))) ((hy 9 (by decide)).1 j (Or.inr (by omega))) ((hy 10 (by decide)).1 j (Or.inr (by omega))) ((hy 11 (by decide)).1 j (Or.inr (by omega))) ((hy 12 (by decide)).1 j (Or.inr (by omega))) (hI.1.1.2.2.2.1 j h1 h2)
  · refine Or.inr ?_
    by_cases hb : 0 ≤ b ∧ b ≤ nI n - 1
    · obtain ⟨k, hk, rfl⟩ := nI_rng (by omega) hb
      have hbb : ∀ x2, mid x x2 → STR x x2 n ne → sM Y mX7_setRelay [.ref 83, .int (nI k), .int v1, .int v2, .int v3] x2 (some (.int 0)) (th x2 1) := fun x2 hm hS => b_setRelay Y x2 _ v1 v2 v3 (by rw [st_84 hS]; exact h)
      by_cases h1 : 1 ≤ v1 ∧ v1 ≤ 20000
      · by_cases h2 : 0 ≤ v2 ∧ v2 ≤ 3
        · exact op_ref hI (t_setRelay4 Y hfl x n k (st_LN hI.1 hk) v1 v2 v3 h1 h2 (fun z => h ⟨hb, h1, h2, z⟩)) hbb
        · exact op_ref hI (t_setRelay3 Y hfl x n k (st_LN hI.1 hk) v1 v2 v3 h1 h2) hbb
      · exact op_ref hI (t_setRelay2 Y hfl x n k (st_LN hI.1 hk) v1 v2 v3 h1) hbb
    · exact op_ref hI (t_setRelay1 Y hfl x b (by rw [hI.1.1.2.1]; exact hb) v1 v2 v3) (fun x2 hm hS => b_setRelay Y x2 b v1 v2 v3 (by rw [st_84 hS]; exact h))
end
