/-! the relation of the class's cells and the reference's; currents, times, margins of the reference -/
abbrev bS (m : Int32) (j : Nat) : Prop := ¬ (m >>> (nI j &&& 31)) &&& 1 = 0
/-- network and relays: the same on both sides; the class's are the cells of g -/
def REL (g x : Hp) (n : Nat) : Prop :=
  MB g x n ∧ g.1 2 2 = nI n ∧ (∀ k, k < n → g.1 3 k = nI (fbN g k)) ∧
  (∀ k j, k < n → j < 12 → (bS (g.1 4 k) j ↔ j ∈ pD (fbN g) k)) ∧
  (x.2.1 85 0 = g.2.1 2 0 ∧ x.2.1 85 1 = g.2.1 2 1 ∧ x.2.1 85 2 = g.2.1 1 3 ∧ ∀ k, k < n → x.2.1 85 (4 + k) = g.2.1 5 k) ∧
  (∀ k, k < n → x.1 84 (2 + 9 * k + 1) = g.1 6 k ∧ x.1 84 (2 + 9 * k + 2) = g.1 8 k ∧ x.1 84 (2 + 9 * k + 3) = g.1 9 k ∧ x.1 84 (2 + 9 * k + 4) = g.1 10 k ∧ x.1 84 (2 + 9 * k + 5) = g.1 11 k ∧ x.1 84 (2 + 9 * k + 6) = g.1 12 k ∧ x.1 84 (2 + 9 * k + 7) = (if bS (g.1 7 5) k then 1 else 0))
/-- the breakers that are open -/
def OPN (g x : Hp) (n : Nat) : Prop := ∀ k, k < n → x.1 84 (2 + 9 * k + 8) = (if bS (g.1 7 6) k then 1 else 0)
/-- what curve and instantaneous pickup are -/
def RG1 (g : Hp) (n : Nat) : Prop := ∀ k, k < n → (∃ i, i ≤ 100000 ∧ g.1 11 k = nI i) ∧ ∃ c, c ≤ 3 ∧ g.1 9 k = nI c
theorem REL_fr {g x y : Hp} {n : Nat} (h : REL g x n) (e84 : y.1 84 = x.1 84) (e85 : y.2.1 85 = x.2.1 85) : REL g y n := by
  obtain ⟨h1, h2, h3, h4, h5, h6⟩ := h
  refine ⟨⟨h1.1, by rw [e84]; exact h1.2.1, fun k hk => by rw [e84]; exact h1.2.2 k hk⟩, h2, h3, h4, ?_, ?_⟩
  · rw [e85]; exact h5
  · rw [e84]; exact h6
theorem REL_scr {g x y : Hp} {n : Nat} (h : REL g x n) (hs : scr x y) : REL g y n := REL_fr h (hs.1.1 84 (by decide)) (hs.1.2.1 85 (by decide))
theorem pD_pw {f : Nat → Nat} : ∀ {k : Nat}, (∀ j, j ≤ k → f j ≤ j) → List.Pairwise (fun a b => b < a) (pD f k) := by
  intro k
  induction k using Nat.strongRecOn with
  | ind k ih =>
    intro h
    by_cases h0 : f k = 0
    · rw [pD_0 h0]; exact List.pairwise_singleton _ _
    · have := h k (Nat.le_refl _)
      rw [pD_s h h0, List.pairwise_cons]
      refine ⟨fun e he => ?_, ih (f k - 1) (by omega) (fun j hj => h j (by omega))⟩
      have := pD_le (f := f) (k := f k - 1) (fun j hj => h j (by omega)) e he
      omega
theorem pD_hd {f : Nat → Nat} {k : Nat} (h : ∀ j, j ≤ k → f j ≤ j) : ∃ D, pD f k = k :: D := by
  by_cases h0 : f k = 0
  · exact ⟨[], pD_0 h0⟩
  · exact ⟨_, pD_s h h0⟩
theorem caS_skip {x : Hp} {k a : Nat} : ∀ b, a ≤ b → (∀ j, a ≤ j → j < b → ¬ bS (x.1 4 k) j) → caS x k b = caS x k a
  | 0, h, _ => by rw [show a = 0 by omega]
  | b + 1, h, hn => by
    rcases Nat.eq_or_lt_of_le h with q | q
    · rw [q]
    · rw [show caS x k (b + 1) = if (x.1 4 k >>> (nI b &&& 31)) &&& 1 = 0 then caS x k b else FP.dadd (caS x k b) (x.2.1 5 b) from rfl, if_pos (Decidable.byContradiction (hn b (by omega) (by omega)))]
      exact caS_skip b (by omega) (fun j h1 h2 => hn j h1 (by omega))
theorem r_currentAt (Y : Kx) (g x : Hp) (n k p : Nat) (hR0 : REL g x n) (hk : k < n) (hp : p ≤ 100) (ok : curOK g k (nI p)) : sR Y mX7_currentAt [.ref 83, .int (nI k), .int (nI p)] x (fun rr x' => rr = some (.double (curS g k (nI p))) ∧ scr x x' ∧ PA x' k (pD (fbN g) k).reverse) := by
  refine sR_of (by decide +kernel) (Nat.le_of_ble_eq_true rfl) (fun X h hY hR => ?_)
  have hT := kX7_currentAt h
  have hB := hR0.1
  have h12 := hB.1
  have hfk := MBf hB k hk
  obtain ⟨L, hL⟩ : ∃ L, L = (pD (fbN g) k).reverse := ⟨_, rfl⟩
  obtain ⟨D, hD⟩ := pD_hd hfk
  have hLl : L.length = D.length + 1 := by rw [hL, hD]; simp
  have hLk : L[D.length]? = some k := by rw [hL, hD, List.reverse_cons, List.getElem?_append_right (by rw [List.length_reverse]; exact Nat.le_refl _), List.length_reverse, Nat.sub_self]; rfl
  have hLm : ∀ j, j < 12 → (bS (g.1 4 k) j ↔ j ∈ L) := fun j hj => by rw [hL, List.mem_reverse]; exact hR0.2.2.2.1 k j hk hj
  have hLp : List.Pairwise (fun a b => a < b) L := by rw [hL, List.pairwise_reverse]; exact pD_pw hfk
  have hLle : ∀ e, e ∈ L → e ≤ k := fun e he => pD_le hfk e (by rw [hL, List.mem_reverse] at he; exact he)
  have hl12 : L.length ≤ 12 := by rw [hL, List.length_reverse]; have := pD_len hfk; omega
  have hord : ∀ i j a b : Nat, L[i]? = some a → L[j]? = some b → i < j → a < b := by
    intro i j a b ha hb hij
    obtain ⟨h1, rfl⟩ := List.getElem?_eq_some_iff.mp ha
    obtain ⟨h2, rfl⟩ := List.getElem?_eq_some_iff.mp hb
    exact List.pairwise_iff_getElem.mp hLp i j h1 h2 hij
  obtain ⟨o1, o2, o3, o4, o5⟩ := ok
  repeat (refine sw_s hT rfl rfl ?_)
  refine sw_cvR hT rfl (r_findPath _ g x n k hB hk) rfl rfl rfl rfl (Nat.le_of_ble_eq_true rfl) ?_
  rw [← hL] at hR ⊢
  rintro _ y ⟨rfl, ⟨y1, y2⟩, ys⟩
  have e85 : y.2.1 85 = x.2.1 85 := ys.1.2.1 85 (by decide)
  show SW X mX7_currentAt 5 _ [] y
  repeat (refine sw_s hT rfl rfl ?_)
  refine sw_dald hT rfl rfl (inV (by omega : 1 < 76)) ?_
  rw [show (1 : Int32).toNatClampNeg = 1 by decide, e85, hR0.2.2.2.2.1.2.1]
  -- behind i lines of the path
  have K : ∀ d i, d + i = D.length → ∀ P : Nat, L[i]? = some P → SW X mX7_currentAt 15 [(5, .int (nI i)), (3, .double (caS g k P)), (0, .ref 83), (1, .int (nI k)), (2, .int (nI p))] [] y := by
    intro d
    induction d with
    | zero =>
      intro i hi P hP
      have hPk : P = k := by
        rw [show i = D.length by omega, hLk] at hP
        exact (Option.some.inj hP).symm
      subst hPk
      repeat (refine sw_s hT rfl rfl ?_)
      rw [y1, hLl, nI_pred]
      refine sw_b hT rfl rfl (fun _ => ?_) (fun c => absurd (nI_le (by omega) (by omega)) c)
      repeat (refine sw_s hT rfl rfl ?_)
      rw [show (4 : Int32) + nI P = nI (4 + P) by rw [show (4 : Int32) = nI 4 by decide, nI_add]]
      refine sw_dald hT rfl rfl (inV (by omega)) ?_
      rw [clW (by omega), e85, hR0.2.2.2.2.1.2.2.2 P hk]
      repeat (refine sw_s hT rfl rfl ?_)
      refine sw_dmul hT rfl (o2) ?_
      repeat (refine sw_s hT rfl rfl ?_)
      refine sw_ddiv hT rfl (o3) ?_
      refine sw_dadd hT rfl (o4) ?_
      repeat (refine sw_s hT rfl rfl ?_)
      refine sw_dald hT rfl rfl (inV (by omega : 0 < 76)) ?_
      rw [show (0 : Int32).toNatClampNeg = 0 by decide, e85, hR0.2.2.2.2.1.1]
      repeat (refine sw_s hT rfl rfl ?_)
      refine sw_ddiv hT rfl (o5) ?_
      refine sw_dretP hT rfl rfl hR ?_
      exact ⟨rfl, ys, y1, y2⟩
    | succ d ih =>
      intro i hi P hP
      obtain ⟨Q, hQ⟩ : ∃ Q, L[i + 1]? = some Q := ⟨_, List.getElem?_eq_getElem (show i + 1 < L.length by omega)⟩
      have hPm : P ∈ L := List.mem_of_getElem? hP
      have hPk : P < k := hord i D.length P k hP hLk (by omega)
      have hPQ : P < Q := hord i (i + 1) P Q hP hQ (by omega)
      have hbP : ¬ (g.1 4 k >>> (nI P &&& 31)) &&& 1 = 0 := (hLm P (by omega)).mpr hPm
      have hQ12 : Q ≤ k := hLle Q (List.mem_of_getElem? hQ)
      have e1 : caS g k (P + 1) = FP.dadd (caS g k P) (g.2.1 5 P) := by
        rw [show caS g k (P + 1) = if (g.1 4 k >>> (nI P &&& 31)) &&& 1 = 0 then caS g k P else FP.dadd (caS g k P) (g.2.1 5 P) from rfl, if_neg hbP]
      have e2 : caS g k Q = caS g k (P + 1) := by
        refine caS_skip Q (by omega) (fun j h1 h2 hb => ?_)
        obtain ⟨t, ht⟩ := List.getElem?_of_mem ((hLm j (by omega)).mp hb)
        rcases Nat.lt_trichotomy t i with q | q | q
        · have := hord t i j P ht hP q; omega
        · subst q; rw [hP] at ht; cases ht; omega
        · rcases Nat.eq_or_lt_of_le (show i + 1 ≤ t from q) with z | z
          · subst z; rw [hQ] at ht; cases ht; omega
          · have := hord (i + 1) t Q j hQ ht z; omega
      have q := ih (i + 1) (by omega) Q hQ
      rw [e2, e1, ← nI_1] at q
      repeat (refine sw_s hT rfl rfl ?_)
      rw [y1, hLl, nI_pred]
      refine sw_b hT rfl rfl (fun c => absurd c ((nI_ge (by omega) (by omega)))) (fun _ => ?_)
      repeat (refine sw_s hT rfl rfl ?_)
      refine sw_iald hT rfl rfl (in12 (by omega : i < 12)) ?_
      rw [cl12 (by omega : i < 12), y2 i P hP]
      repeat (refine sw_s hT rfl rfl ?_)
      rw [show (4 : Int32) + nI P = nI (4 + P) by rw [show (4 : Int32) = nI 4 by decide, nI_add]]
      refine sw_dald hT rfl rfl (inV (by omega)) ?_
      rw [clW (by omega), e85, hR0.2.2.2.2.1.2.2.2 P (by omega)]
      refine sw_dadd hT rfl (o1 P hPk hbP) ?_
      repeat (first | (refine sw_at (n := 15) rfl ?_; exact (q)) | refine sw_s hT rfl rfl ?_)
  obtain ⟨P0, hP0⟩ : ∃ P, L[0]? = some P := ⟨_, List.getElem?_eq_getElem (show 0 < L.length by omega)⟩
  have q0 := K D.length 0 (by omega) P0 hP0
  have e0 : caS g k P0 = g.2.1 2 1 := by
    refine (caS_skip P0 (Nat.zero_le _) (fun j _ h2 hb => ?_)).trans rfl
    have hj : j < 12 := by have := hLle P0 (List.mem_of_getElem? hP0); omega
    obtain ⟨t, ht⟩ := List.getElem?_of_mem ((hLm j hj).mp hb)
    rcases Nat.eq_zero_or_pos t with z | z
    · subst z; rw [hP0] at ht; cases ht; omega
    · have := hord 0 t P0 j hP0 ht z; omega
  rw [e0] at q0
  repeat (first | (refine sw_at (n := 15) rfl ?_; exact (q0)) | refine sw_s hT rfl rfl ?_)
theorem r_timeOf (Y : Kx) (g x : Hp) (n k : Nat) (cur : UInt64) (hR0 : REL g x n) (hG : RG1 g n) (hk : k < n) (ok : tfOK g k cur) : sM Y mX7_timeOf [.ref 83, .int (nI k), .double cur] x (some (.double (tfS g k cur))) x := by
  refine sM_of (by decide +kernel) (Nat.le_of_ble_eq_true rfl) (fun X h hY hR => ?_)
  have hT := kX7_timeOf h
  have h12 := hR0.1.1
  obtain ⟨g1, g2, g3, g4, g5, g6, g7⟩ := hR0.2.2.2.2.2 k hk
  obtain ⟨⟨i0, hi0, hi1⟩, c0, hc0, hc1⟩ := hG k hk
  obtain ⟨ok1, ok2⟩ := ok
  unfold tfS tmS at hR
  rw [hi1] at hR
  have tail : retOK X (some (.double (tm2 (g.1 8 k) (g.1 9 k) (g.1 10 k) cur))) x → SW X mX7_timeOf 29 [(4, .int (nI i0)), (0, .ref 83), (1, .int (nI k)), (2, .double cur)] [] x := by
    intro hR
    unfold tm2 at hR
    repeat (refine sw_s hT rfl rfl ?_)
    refine sw_cs hT rfl (r_atL _ x k 2 2 (by decide)) rfl rfl (Nat.le_of_ble_eq_true rfl) ?_
    refine sw_iald hT rfl rfl (inW (by omega)) ?_
    rw [clW (by omega), g2]
    repeat (refine sw_s hT rfl rfl ?_)
    refine sw_ddiv hT rfl (ok1) ?_
    repeat (refine sw_s hT rfl rfl ?_)
    refine sw_b hT rfl rfl (fun c1 => ?_) (fun c1 => ?_)
    · obtain ⟨o3, o4, o5, o6, o7⟩ := ok2 c1
      rw [if_pos (show 0 < cml (FP.ddiv cur (FP.i2d (g.1 8 k))) 4607182418800017408 from c1)] at hR
      generalize FP.ddiv cur (FP.i2d (g.1 8 k)) = mm at *
      generalize hbb : FP.dmul 4587366580439587226 (FP.i2d (g.1 10 k)) = bb at *
      repeat (refine sw_s hT rfl rfl ?_)
      refine sw_cs hT rfl (r_atL _ x k 4 4 (by decide)) rfl rfl (Nat.le_of_ble_eq_true rfl) ?_
      refine sw_iald hT rfl rfl (inW (by omega)) ?_
      rw [clW (by omega), g4]
      repeat (refine sw_s hT rfl rfl ?_)
      refine sw_dmul hT rfl ((by rw [hbb]; exact o3)) ?_
      rw [hbb]
      repeat (refine sw_s hT rfl rfl ?_)
      refine sw_cs hT rfl (r_atL _ x k 3 3 (by decide)) rfl rfl (Nat.le_of_ble_eq_true rfl) ?_
      refine sw_iald hT rfl rfl (inW (by omega)) ?_
      rw [clW (by omega), g3, hc1]
      unfold dlS at hR o7
      rw [hc1] at hR o4 o5 o6 o7
      match c0, hc0 with
      | 0, _ =>
        rw [if_neg (by decide), if_neg (by decide), if_neg (by decide)] at hR
        refine sw_tsw hT rfl (fun j q hv hq => ?_) (fun hv => absurd hv (by decide))
        match j, hq with
        | 0, hq =>
          cases hq
          repeat (refine sw_s hT rfl rfl ?_)
          exact sw_dret hT rfl rfl (hR)
        | 1, _ => exact absurd hv (by decide)
        | 2, _ => exact absurd hv (by decide)
        | j + 3, hq => cases hq
      | 1, _ =>
        rw [if_pos (by decide)] at hR o7
        refine sw_tsw hT rfl (fun j q hv hq => ?_) (fun hv => absurd hv (by decide))
        match j, hq with
        | 0, _ => exact absurd hv (by decide)
        | 1, hq =>
          cases hq
          repeat (refine sw_s hT rfl rfl ?_)
          refine sw_dmul hT rfl ((o4 (by decide)).1) ?_
          repeat (refine sw_s hT rfl rfl ?_)
          refine sw_dsub hT rfl ((o4 (by decide)).2) ?_
          refine sw_ddiv hT rfl (o7) ?_
          exact sw_dret hT rfl rfl (hR)
        | 2, _ => exact absurd hv (by decide)
        | j + 3, hq => cases hq
      | 2, _ =>
        rw [if_neg (by decide), if_pos (by decide)] at hR o7
        refine sw_tsw hT rfl (fun j q hv hq => ?_) (fun hv => absurd hv (by decide))
        match j, hq with
        | 0, _ => exact absurd hv (by decide)
        | 1, _ => exact absurd hv (by decide)
        | 2, hq =>
          cases hq
          repeat (refine sw_s hT rfl rfl ?_)
          refine sw_dmul hT rfl ((o5 (by decide)).1) ?_
          repeat (refine sw_s hT rfl rfl ?_)
          refine sw_dmul hT rfl ((o5 (by decide)).2.1) ?_
          repeat (refine sw_s hT rfl rfl ?_)
          refine sw_dsub hT rfl ((o5 (by decide)).2.2) ?_
          refine sw_ddiv hT rfl (o7) ?_
          exact sw_dret hT rfl rfl (hR)
        | j + 3, hq => cases hq
      | 3, _ =>
        rw [if_neg (by decide), if_neg (by decide), if_pos (by decide)] at hR o7
        refine sw_tsw hT rfl (fun j q hv hq => ?_) (fun hv => ?_)
        · match j, hq with
          | 0, _ => exact absurd hv (by decide)
          | 1, _ => exact absurd hv (by decide)
          | 2, _ => exact absurd hv (by decide)
          | j + 3, hq => cases hq
        · repeat (refine sw_s hT rfl rfl ?_)
          refine sw_dmul hT rfl ((o6 (by decide)).1) ?_
          repeat (refine sw_s hT rfl rfl ?_)
          refine sw_dsub hT rfl ((o6 (by decide)).2) ?_
          refine sw_ddiv hT rfl (o7) ?_
          exact sw_dret hT rfl rfl (hR)
      | c + 4, hc => exact absurd hc (by omega)
    · rw [if_neg (show ¬ 0 < cml (FP.ddiv cur (FP.i2d (g.1 8 k))) 4607182418800017408 from c1)] at hR
      repeat (refine sw_s hT rfl rfl ?_)
      exact sw_dret hT rfl rfl (hR)
  repeat (refine sw_s hT rfl rfl ?_)
  refine sw_cs hT rfl (r_atL _ x k 5 5 (by decide)) rfl rfl (Nat.le_of_ble_eq_true rfl) ?_
  refine sw_iald hT rfl rfl (inW (by omega)) ?_
  rw [clW (by omega), g5, hi1]
  repeat (refine sw_s hT rfl rfl ?_)
  cases i0 with
  | zero =>
    rw [if_pos (by decide)] at hR
    refine sw_b hT rfl rfl (fun _ => ?_) (fun c => absurd ((by decide)) c)
    exact tail hR
  | succ i0 =>
    rw [if_neg (nI_ne0 (Nat.succ_pos _) (by omega))] at hR
    refine sw_b hT rfl rfl (fun c => absurd c ((nI_nle (Nat.succ_pos _) (by omega)))) (fun _ => ?_)
    repeat (refine sw_s hT rfl rfl ?_)
    refine sw_b hT rfl rfl (fun c2 => ?_) (fun c2 => ?_)
    · rw [if_pos (show cml cur (FP.i2d (nI (i0 + 1))) < 0 from c2)] at hR
      exact tail hR
    · rw [if_neg (show ¬ cml cur (FP.i2d (nI (i0 + 1))) < 0 from c2)] at hR
      repeat (refine sw_s hT rfl rfl ?_)
      exact sw_dret hT rfl rfl (hR)
