/-! THE STATE: what class and reference hold, side by side; the saved states -/
def LD (g : Hp) (k : Nat) : Prop := g.1 6 k = 0 ∧ g.1 8 k = 100 ∧ g.1 9 k = 0 ∧ g.1 10 k = 1 ∧ g.1 11 k = 0 ∧ g.1 12 k = 0
/-- network and relays of the class -/
def CFG (g : Hp) (n : Nat) : Prop := CR g n ∧ g.1 2 2 = nI n ∧ (∀ k, k < n → g.1 3 k = nI (fbN g k) ∧ fbN g k ≤ k ∧ M12 (g.1 4 k) n ∧ ∀ j, j < 12 → (bS (g.1 4 k) j ↔ j ∈ pD (fbN g) k)) ∧ (∀ k, n ≤ k → k < 12 → LD g k) ∧ M12 (g.1 7 5) n ∧ M12 (g.1 7 6) n
/-- its events -/
def EVT (g : Hp) (ne : Nat) : Prop := ne ≤ 60 ∧ g.1 13 0 = nI ne ∧ (∀ j, j < ne → tv (g.2.1 15 j)) ∧ tvC (g.2.1 13 3)
def STR (g r : Hp) (n ne : Nat) : Prop := CFG g n ∧ EVT g ne ∧ REL g r n ∧ OPN g r n ∧ EVR g r ne
def EQG (g h : Hp) : Prop := (h.1 2 2 = g.1 2 2 ∧ h.1 7 5 = g.1 7 5 ∧ h.1 7 6 = g.1 7 6 ∧ h.1 13 0 = g.1 13 0) ∧ (∀ k, k < 12 → h.1 3 k = g.1 3 k ∧ h.1 4 k = g.1 4 k ∧ h.1 6 k = g.1 6 k ∧ h.1 8 k = g.1 8 k ∧ h.1 9 k = g.1 9 k ∧ h.1 10 k = g.1 10 k ∧ h.1 11 k = g.1 11 k ∧ h.1 12 k = g.1 12 k ∧ h.2.1 5 k = g.2.1 5 k) ∧ (∀ k, k < 60 → h.1 14 k = g.1 14 k ∧ h.2.1 15 k = g.2.1 15 k) ∧ h.2.1 2 0 = g.2.1 2 0 ∧ h.2.1 2 1 = g.2.1 2 1 ∧ h.2.1 1 3 = g.2.1 1 3 ∧ h.2.1 13 3 = g.2.1 13 3
def EQR (r s : Hp) : Prop := (∀ k, k < 170 → s.1 84 k = r.1 84 k) ∧ ∀ k, k < 76 → s.2.1 85 k = r.2.1 85 k
theorem EQR_of {r s : Hp} (h1 : s.1 84 = r.1 84) (h2 : s.2.1 85 = r.2.1 85) : EQR r s := ⟨fun k _ => by rw [h1], fun k _ => by rw [h2]⟩
theorem EQG_of {g h : Hp} (e : ∀ a, a ≤ 15 → h.1 a = g.1 a ∧ h.2.1 a = g.2.1 a) : EQG g h := by
  have e1 : ∀ a, a ≤ 15 → h.1 a = g.1 a := fun a q => (e a q).1
  have e2 : ∀ a, a ≤ 15 → h.2.1 a = g.2.1 a := fun a q => (e a q).2
  refine ⟨⟨?_, ?_, ?_, ?_⟩, fun k _ => ⟨?_, ?_, ?_, ?_, ?_, ?_, ?_, ?_, ?_⟩, fun k _ => ⟨?_, ?_⟩, ?_, ?_, ?_, ?_⟩ <;> first | rw [e1 _ (by decide)] | rw [e2 _ (by decide)]
theorem pD_cg {f h : Nat → Nat} : ∀ {k : Nat}, (∀ j, j ≤ k → f j ≤ j) → (∀ j, j ≤ k → h j = f j) → pD h k = pD f k := by
  intro k
  induction k using Nat.strongRecOn with
  | ind k ih =>
    intro hf he
    have hk := he k (Nat.le_refl _)
    have hh : ∀ j, j ≤ k → h j ≤ j := fun j hj => by rw [he j hj]; exact hf j hj
    by_cases h0 : f k = 0
    · rw [pD_0 h0, pD_0 (hk.trans h0)]
    · have := hf k (Nat.le_refl _)
      rw [pD_s hf h0, pD_s hh (by rw [hk]; exact h0), hk, ih (f k - 1) (by omega) (fun j hj => hf j (by omega)) (fun j hj => he j (by omega))]
theorem LR_cg {g h : Hp} {k : Nat} (h6 : h.1 6 k = g.1 6 k) (h8 : h.1 8 k = g.1 8 k) (h9 : h.1 9 k = g.1 9 k) (h10 : h.1 10 k = g.1 10 k) (h11 : h.1 11 k = g.1 11 k) (h12 : h.1 12 k = g.1 12 k) (q : LR g k) : LR h k := by
  unfold LR at *
  rw [h6, h8, h9, h10, h11, h12]
  exact q
theorem LD_cg {g h : Hp} {k : Nat} (h6 : h.1 6 k = g.1 6 k) (h8 : h.1 8 k = g.1 8 k) (h9 : h.1 9 k = g.1 9 k) (h10 : h.1 10 k = g.1 10 k) (h11 : h.1 11 k = g.1 11 k) (h12 : h.1 12 k = g.1 12 k) (q : LD g k) : LD h k := by
  unfold LD at *
  rw [h6, h8, h9, h10, h11, h12]
  exact q
theorem fbN_cg {g h : Hp} {k : Nat} (e : h.1 3 k = g.1 3 k) : fbN h k = fbN g k := by unfold fbN; rw [e]
theorem STR_cg {g r h s : Hp} {n ne : Nat} (q : STR g r n ne) (eg : EQG g h) (er : EQR r s) : STR h s n ne := by
  obtain ⟨⟨⟨c1, c2, c3, c4, c5, c6⟩, cn, ck, cl, cs, co⟩, ⟨v1, v2, v3, v4⟩, ⟨⟨m1, m2, m3⟩, r2, r3, r4, ⟨r5, r6, r7, r8⟩, r9⟩, o1, ⟨w1, w2, w3, w4, w5⟩⟩ := q
  obtain ⟨⟨a1, a2, a3, a4⟩, ak, ae, b1, b2, b3, b4⟩ := eg
  obtain ⟨e1, e2⟩ := er
  have fb : ∀ k, k < 12 → fbN h k = fbN g k := fun k hk => fbN_cg (ak k hk).1
  have pd : ∀ k, k < n → pD (fbN h) k = pD (fbN g) k := fun k hk => pD_cg (fun j hj => (ck j (by omega)).2.1) (fun j hj => fb j (by omega))
  refine ⟨⟨⟨c1, by rw [b1]; exact c2, by rw [b2]; exact c3, by rw [b3]; exact c4, fun k hk => ?_, fun k hk => ?_⟩, by rw [a1]; exact cn, fun k hk => ?_, fun k h1 h2 => ?_, by rw [a2]; exact cs, by rw [a3]; exact co⟩, ⟨v1, by rw [a4]; exact v2, fun j hj => ?_, by rw [b4]; exact v4⟩, ⟨⟨m1, by rw [e1 0 (by omega)]; exact m2, fun k hk => ?_⟩, by rw [a1]; exact r2, fun k hk => ?_, fun k j hk hj => ?_, ⟨by rw [e2 0 (by omega), b1]; exact r5, by rw [e2 1 (by omega), b2]; exact r6, by rw [e2 2 (by omega), b3]; exact r7, fun k hk => ?_⟩, fun k hk => ?_⟩, fun k hk => ?_, ⟨w1, by rw [a4]; exact w2, by rw [e1 1 (by omega)]; exact w3, fun j hj => ?_, by rw [e2 3 (by omega), b4]; exact w5⟩⟩
  · rw [(ak k (by omega)).2.2.2.2.2.2.2.2]; exact c5 k hk
  · obtain ⟨k1, k2, k3, k4, k5, k6, k7, k8, k9⟩ := ak k (by omega)
    exact LR_cg k3 k4 k5 k6 k7 k8 (c6 k hk)
  · obtain ⟨q1, q2, q3, q4⟩ := ck k hk
    rw [(ak k (by omega)).1, (ak k (by omega)).2.1, fb k (by omega), pd k hk]
    exact ⟨q1, q2, q3, q4⟩
  · obtain ⟨k1, k2, k3, k4, k5, k6, k7, k8, k9⟩ := ak k h2
    exact LD_cg k3 k4 k5 k6 k7 k8 (cl k h1 h2)
  · rw [(ae j (by omega)).2]; exact v3 j hj
  · rw [e1 _ (by omega), fb k (by omega)]; exact m3 k hk
  · rw [(ak k (by omega)).1, fb k (by omega)]; exact r3 k hk
  · rw [(ak k (by omega)).2.1, pd k hk]; exact r4 k j hk hj
  · rw [e2 _ (by omega), (ak k (by omega)).2.2.2.2.2.2.2.2]; exact r8 k hk
  · obtain ⟨k1, k2, k3, k4, k5, k6, k7, k8, k9⟩ := ak k (by omega)
    rw [e1 _ (by omega), e1 _ (by omega), e1 _ (by omega), e1 _ (by omega), e1 _ (by omega), e1 _ (by omega), e1 _ (by omega), k3, k4, k5, k6, k7, k8, a2]
    exact r9 k hk
  · rw [e1 _ (by omega), a3]; exact o1 k hk
  · rw [e1 _ (by omega), e2 _ (by omega), (ae j (by omega)).1, (ae j (by omega)).2]
    exact w4 j hj
/-! the saved states -/
/-- the class's cluster at b, as one at 1 -/
def cv (x : Hp) (b : Nat) : Hp := (fun a => x.1 (a + b - 1), fun a => x.2.1 (a + b - 1), x.2.2)
/-- the reference's saved state j, as the present one -/
def rvk (x : Hp) (j : Nat) : Hp := (fun a k => if a = 84 then x.1 86 (170 * j + k) else x.1 a k, fun a k => if a = 85 then x.2.1 87 (76 * j + k) else x.2.1 a k, x.2.2)
def slt (i c j : Nat) : Nat := 16 + 15 * ((i + 4 - c + j) % 4)
def SVD (x : Hp) (i c : Nat) : Prop := ∀ j, j < c → ∃ n ne, STR (cv x (slt i c j)) (rvk x j) n ne
def INVW (x : Hp) (n ne i c : Nat) : Prop := STR x x n ne ∧ US x i c ∧ x.1 83 5 = nI c ∧ SVD x i c
theorem EQG_cv {x y : Hp} {b : Nat} (e : ∀ a, b ≤ a → a ≤ b + 14 → y.1 a = x.1 a ∧ y.2.1 a = x.2.1 a) : EQG (cv x b) (cv y b) := by
  have e1 : ∀ a, 1 ≤ a → a ≤ 15 → y.1 (a + b - 1) = x.1 (a + b - 1) := fun a p q => (e _ (by omega) (by omega)).1
  have e2 : ∀ a, 1 ≤ a → a ≤ 15 → y.2.1 (a + b - 1) = x.2.1 (a + b - 1) := fun a p q => (e _ (by omega) (by omega)).2
  have c1 : ∀ a, 1 ≤ a → a ≤ 15 → (cv y b).1 a = (cv x b).1 a := e1
  have c2 : ∀ a, 1 ≤ a → a ≤ 15 → (cv y b).2.1 a = (cv x b).2.1 a := e2
  refine ⟨⟨?_, ?_, ?_, ?_⟩, fun k _ => ⟨?_, ?_, ?_, ?_, ?_, ?_, ?_, ?_, ?_⟩, fun k _ => ⟨?_, ?_⟩, ?_, ?_, ?_, ?_⟩ <;> first | rw [c1 _ (by decide) (by decide)] | rw [c2 _ (by decide) (by decide)]
theorem cpy_at {α : Type} {f g : Nat → α} {n k : Nat} (h : k < n) : va_cpy f g 0 0 n k = f k := by
  unfold va_cpy
  rw [if_pos ⟨Nat.zero_le _, by omega⟩]
  congr 1; omega
theorem EQ_push (x : Hp) (i c : Nat) (hi : i < 4) : EQG x (cv (pushS x i c) (16 + 15 * i)) := by
  rcases (show i = 0 ∨ i = 1 ∨ i = 2 ∨ i = 3 by omega) with rfl | rfl | rfl | rfl <;>
  exact ⟨⟨rfl, rfl, rfl, rfl⟩, fun k hk => ⟨cpy_at hk, cpy_at hk, cpy_at hk, cpy_at hk, cpy_at hk, cpy_at hk, cpy_at hk, cpy_at hk, cpy_at hk⟩, fun k hk => ⟨cpy_at hk, cpy_at hk⟩, rfl, rfl, rfl, rfl⟩
theorem EQ_pop (x : Hp) (j c : Nat) (hj : j < 4) : EQG (cv x (16 + 15 * j)) (popS x j c) := by
  rcases (show j = 0 ∨ j = 1 ∨ j = 2 ∨ j = 3 by omega) with rfl | rfl | rfl | rfl <;>
  exact ⟨⟨rfl, rfl, rfl, rfl⟩, fun k hk => ⟨cpy_at hk, cpy_at hk, cpy_at hk, cpy_at hk, cpy_at hk, cpy_at hk, cpy_at hk, cpy_at hk, cpy_at hk⟩, fun k hk => ⟨cpy_at hk, cpy_at hk⟩, rfl, rfl, rfl, rfl⟩
theorem push_c1 {x : Hp} {i c a : Nat} (hi : i < 4) (h1 : a ≠ 76) (h2 : a < 16 + 15 * i ∨ 16 + 15 * i + 15 ≤ a) : (pushS x i c).1 a = x.1 a ∧ (pushS x i c).2.1 a = x.2.1 a := by
  constructor
  · show u2 (u2 (cpA x (16 + 15 * i) 1).1 76 1 _) 76 0 _ a = _
    rw [u2_ne h1, u2_ne h1]
    exact cpA_o1 _ _ _ _ h2
  · exact cpA_o2 _ _ _ _ h2
theorem SVD_cg {x y : Hp} {i c : Nat} (h : SVD x i c) (e : ∀ a, 16 ≤ a → a ≤ 75 → y.1 a = x.1 a ∧ y.2.1 a = x.2.1 a) (h86 : y.1 86 = x.1 86) (h87 : y.2.1 87 = x.2.1 87) : SVD y i c := by
  intro j hj
  obtain ⟨n, ne, q⟩ := h j hj
  have hm : (i + 4 - c + j) % 4 < 4 := Nat.mod_lt _ (by decide)
  refine ⟨n, ne, STR_cg q (EQG_cv (fun a h1 h2 => e a ?_ ?_)) ⟨fun k _ => ?_, fun k _ => ?_⟩⟩
  · unfold slt at h1; omega
  · unfold slt at h2; omega
  · show y.1 86 _ = x.1 86 _; rw [h86]
  · show y.2.1 87 _ = x.2.1 87 _; rw [h87]
/-- nothing but scratch has changed -/
theorem INVW_fr {x y : Hp} {n ne i c : Nat} (h : INVW x n ne i c) (e : ∀ a, a ≤ 76 → y.1 a = x.1 a ∧ y.2.1 a = x.2.1 a) (h84 : y.1 84 = x.1 84) (h85 : y.2.1 85 = x.2.1 85) (h86 : y.1 86 = x.1 86) (h87 : y.2.1 87 = x.2.1 87) (h5 : y.1 83 5 = x.1 83 5) : INVW y n ne i c := by
  obtain ⟨h1, h2, h3, h4⟩ := h
  refine ⟨STR_cg h1 (EQG_of (fun a ha => e a (by omega))) (EQR_of h84 h85), ⟨h2.1, h2.2.1, ?_, ?_⟩, h5.trans h3, SVD_cg h4 (fun a p q => e a (by omega)) h86 h87⟩
  · rw [(e 76 (by omega)).1]; exact h2.2.2.1
  · rw [(e 76 (by omega)).1]; exact h2.2.2.2
/-- behind a call that saves -/
theorem SVD_push {x x2 w z : Hp} {n ne i c : Nat} (h : INVW x n ne i c) (hz : ∀ a, 16 ≤ a → a ≤ 76 → z.1 a = (pushS x i c).1 a ∧ z.2.1 a = (pushS x i c).2.1 a) (hw : sv0 x2 c w) (h84 : x2.1 84 = x.1 84) (h85 : x2.2.1 85 = x.2.1 85) (h86 : x2.1 86 = x.1 86) (h87 : x2.2.1 87 = x.2.1 87) (z86 : z.1 86 = w.1 86) (z87 : z.2.1 87 = w.2.1 87) (z5 : z.1 83 5 = w.1 83 5) :
    US z ((i + 1) % 4) (min (c + 1) 4) ∧ z.1 83 5 = nI (min (c + 1) 4) ∧ SVD z ((i + 1) % 4) (min (c + 1) 4) := by
  obtain ⟨h1, ⟨u1, u2, u3, u4⟩, h3, h4⟩ := h
  obtain ⟨-, -, w1, w2, w3, w4, w5⟩ := hw
  refine ⟨⟨Nat.mod_lt _ (by decide), Nat.min_le_right _ _, ?_, ?_⟩, z5.trans w1, fun j hj => ?_⟩
  · rw [(hz 76 (by omega) (by omega)).1]; rfl
  · rw [(hz 76 (by omega) (by omega)).1]; rfl
  · by_cases hl : j = min c 3
    · refine ⟨n, ne, STR_cg h1 ?_ ⟨fun k hk => ?_, fun k hk => ?_⟩⟩
      · have hs : slt ((i + 1) % 4) (min (c + 1) 4) j = 16 + 15 * i := by
          unfold slt
          rw [show ((i + 1) % 4 + 4 - min (c + 1) 4 + j) % 4 = i by omega]
        rw [hs]
        have e := EQ_push x i c u1
        have e2 : EQG (cv (pushS x i c) (16 + 15 * i)) (cv z (16 + 15 * i)) := EQG_cv (fun a p q => hz a (by omega) (by omega))
        obtain ⟨⟨a1, a2, a3, a4⟩, ak, ae, b1, b2, b3, b4⟩ := e
        obtain ⟨⟨a1', a2', a3', a4'⟩, ak', ae', b1', b2', b3', b4'⟩ := e2
        refine ⟨⟨a1'.trans a1, a2'.trans a2, a3'.trans a3, a4'.trans a4⟩, fun k hk => ?_, fun k hk => ?_, b1'.trans b1, b2'.trans b2, b3'.trans b3, b4'.trans b4⟩
        · obtain ⟨k1, k2, k3, k4, k5, k6, k7, k8, k9⟩ := ak k hk
          obtain ⟨l1, l2, l3, l4, l5, l6, l7, l8, l9⟩ := ak' k hk
          exact ⟨l1.trans k1, l2.trans k2, l3.trans k3, l4.trans k4, l5.trans k5, l6.trans k6, l7.trans k7, l8.trans k8, l9.trans k9⟩
        · exact ⟨(ae' k hk).1.trans (ae k hk).1, (ae' k hk).2.trans (ae k hk).2⟩
      · show z.1 86 (170 * j + k) = x.1 84 k
        rw [z86, hl, w2 k hk, ← h84]
        exact congrFun (th_o (by decide)) k
      · show z.2.1 87 (76 * j + k) = x.2.1 85 k
        rw [z87, hl, w4 k hk, ← h85]
        rfl
    · have hj2 : j < min c 3 := by omega
      obtain ⟨n2, ne2, q⟩ := h4 (c - min c 3 + j) (by omega)
      have hs : slt ((i + 1) % 4) (min (c + 1) 4) j = slt i c (c - min c 3 + j) := by
        unfold slt
        rw [show ((i + 1) % 4 + 4 - min (c + 1) 4 + j) % 4 = (i + 4 - c + (c - min c 3 + j)) % 4 by omega]
      have hne : (i + 4 - c + (c - min c 3 + j)) % 4 ≠ i := by omega
      have hm : (i + 4 - c + (c - min c 3 + j)) % 4 < 4 := Nat.mod_lt _ (by decide)
      refine ⟨n2, ne2, STR_cg q ?_ ⟨fun k hk => ?_, fun k hk => ?_⟩⟩
      · rw [hs]
        refine EQG_cv (fun a p q => ?_)
        unfold slt at p q
        have hq := push_c1 (x := x) (i := i) (c := c) (a := a) u1 (by omega) (by omega)
        have hzz := hz a (by omega) (by omega)
        exact ⟨hzz.1.trans hq.1, hzz.2.trans hq.2⟩
      · show z.1 86 (170 * j + k) = x.1 86 (170 * (c - min c 3 + j) + k)
        rw [z86, w3 _ (by omega), ← h86, show 170 * (c - min c 3 + j) + k = 170 * (c - min c 3) + (170 * j + k) by omega]
        exact congrFun (th_o (by decide)) _
      · show z.2.1 87 (76 * j + k) = x.2.1 87 (76 * (c - min c 3 + j) + k)
        rw [z87, w5 _ (by omega), ← h87, show 76 * (c - min c 3 + j) + k = 76 * (c - min c 3) + (76 * j + k) by omega]
        rfl
