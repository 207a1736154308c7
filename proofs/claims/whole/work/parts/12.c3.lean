/-! counting violations, grading -/
def reqS (x : Hp) : UInt64 := x.2.1 1 3
def vioS (x : Hp) (k : Nat) : Prop := cmg (woS x k) (reqS x) < 0
def cvS (x : Hp) : Nat → Nat
  | 0 => 0
  | j + 1 => if cmg (woS x j) (reqS x) < 0 then cvS x j + 1 else cvS x j
theorem cvS_le (x : Hp) : ∀ j, cvS x j ≤ j
  | 0 => Nat.le_refl _
  | j + 1 => by
    have := cvS_le x j
    show (if cmg (woS x j) (reqS x) < 0 then cvS x j + 1 else cvS x j) ≤ j + 1
    split <;> omega
theorem c_countViolations (Y : Kx) (x : Hp) (n : Nat) (hI : INV x n) : sM Y mX4_countViolations [.ref 1] x (some (.int (nI (cvS x n)))) x := by
  refine sM_of (by decide +kernel) (Nat.le_of_ble_eq_true rfl) (fun X h hY hR => ?_)
  have hT := kX4_countViolations h
  have hn := hI.2.1
  have h12 := hI.1
  have K : ∀ d j, d + j = n → SW X mX4_countViolations 4 [(2, .int (nI j)), (1, .int (nI (cvS x j))), (0, .ref 1)] [] x := by
    intro d
    induction d with
    | zero =>
      intro j hj
      have hjn : j = n := by omega
      subst hjn
      repeat (refine sw_s hT rfl rfl ?_)
      refine sw_b hT rfl rfl (fun _ => ?_) (fun c => absurd (by rw [hn]; exact Int32.le_refl _) c)
      repeat (refine sw_s hT rfl rfl ?_)
      exact sw_iret hT rfl rfl rfl (hR)
    | succ d ih =>
      intro j hj
      repeat (refine sw_s hT rfl rfl ?_)
      refine sw_b hT rfl rfl (fun c => absurd c ((by rw [hn]; exact nI_ge (by omega) (by omega)))) (fun _ => ?_)
      repeat (refine sw_s hT rfl rfl ?_)
      refine sw_cv hT rfl (c_worstMargin _ x n j hI (by omega)) rfl rfl rfl rfl (Nat.le_of_ble_eq_true rfl) ?_
      repeat (refine sw_s hT rfl rfl ?_)
      have q := ih (j + 1) (by omega)
      have hl : cvS x (j + 1) = if cmg (woS x j) (reqS x) < 0 then cvS x j + 1 else cvS x j := rfl
      rw [hl, ← nI_1] at q
      refine sw_b hT rfl rfl (fun c1 => ?_) (fun c1 => ?_)
      · rw [if_neg (show ¬ cmg (woS x j) (reqS x) < 0 from Int32.not_lt.mpr c1)] at q
        repeat (first | exact (q) | refine sw_s hT rfl rfl ?_)
      · rw [if_pos (show cmg (woS x j) (reqS x) < 0 from Int32.not_le.mp c1), ← nI_1] at q
        repeat (first | exact (sw_pick [0, 1, 2] rfl q) | refine sw_s hT rfl rfl ?_)
  repeat (first | exact (K n 0 (by omega)) | refine sw_s hT rfl rfl ?_)
/-- how many are worse than w, the own number k deciding among equals -/
def rwS (x : Hp) (k : Nat) (w : UInt64) : Nat → Nat
  | 0 => 0
  | j + 1 => if cmg (woS x j) w < 0 ∨ (cml (woS x j) w = 0 ∧ j < k) then rwS x k w j + 1 else rwS x k w j
theorem rwS_le (x : Hp) (k : Nat) (w : UInt64) : ∀ j, rwS x k w j ≤ j
  | 0 => Nat.le_refl _
  | j + 1 => by
    have := rwS_le x k w j
    show (if cmg (woS x j) w < 0 ∨ (cml (woS x j) w = 0 ∧ j < k) then rwS x k w j + 1 else rwS x k w j) ≤ j + 1
    split <;> omega
theorem c_relaysWorseThan (Y : Kx) (x : Hp) (n k : Nat) (hI : INV x n) (hk : k < n) : sM Y mX4_relaysWorseThan [.ref 1, .int (nI k)] x (some (.int (nI (rwS x k (woS x k) n)))) x := by
  refine sM_of (by decide +kernel) (Nat.le_of_ble_eq_true rfl) (fun X h hY hR => ?_)
  have hT := kX4_relaysWorseThan h
  have hn := hI.2.1
  have h12 := hI.1
  have K : ∀ d j, d + j = n → SW X mX4_relaysWorseThan 12 [(5, .int (nI j)), (4, .int (nI (rwS x k (woS x k) j))), (2, .double (woS x k)), (0, .ref 1), (1, .int (nI k))] [] x := by
    intro d
    induction d with
    | zero =>
      intro j hj
      have hjn : j = n := by omega
      subst hjn
      repeat (refine sw_s hT rfl rfl ?_)
      refine sw_b hT rfl rfl (fun _ => ?_) (fun c => absurd (by rw [hn]; exact Int32.le_refl _) c)
      repeat (refine sw_s hT rfl rfl ?_)
      exact sw_iret hT rfl rfl rfl (hR)
    | succ d ih =>
      intro j hj
      repeat (refine sw_s hT rfl rfl ?_)
      refine sw_b hT rfl rfl (fun c => absurd c ((by rw [hn]; exact nI_ge (by omega) (by omega)))) (fun _ => ?_)
      repeat (refine sw_s hT rfl rfl ?_)
      refine sw_cv hT rfl (c_worstMargin _ x n j hI (by omega)) rfl rfl rfl rfl (Nat.le_of_ble_eq_true rfl) ?_
      repeat (refine sw_s hT rfl rfl ?_)
      have q := ih (j + 1) (by omega)
      have hl : rwS x k (woS x k) (j + 1) = if cmg (woS x j) (woS x k) < 0 ∨ (cml (woS x j) (woS x k) = 0 ∧ j < k) then rwS x k (woS x k) j + 1 else rwS x k (woS x k) j := rfl
      rw [hl, ← nI_1] at q
      refine sw_b hT rfl rfl (fun c1 => ?_) (fun c1 => ?_)
      · rw [if_pos (show cmg (woS x j) (woS x k) < 0 ∨ (cml (woS x j) (woS x k) = 0 ∧ j < k) from Or.inl c1), ← nI_1] at q
        repeat (first | exact (sw_pick [0, 1, 3, 4, 5] rfl q) | refine sw_s hT rfl rfl ?_)
      · repeat (refine sw_s hT rfl rfl ?_)
        refine sw_b hT rfl rfl (fun c2 => ?_) (fun c2 => ?_)
        · repeat (refine sw_s hT rfl rfl ?_)
          refine sw_b hT rfl rfl (fun c3 => ?_) (fun c3 => ?_)
          · have : ¬ (cmg (woS x j) (woS x k) < 0 ∨ (cml (woS x j) (woS x k) = 0 ∧ j < k)) := by
              rintro (h | ⟨-, h⟩)
              · exact c1 h
              · exact nI_ge (a := j) (b := k) h (by omega) c3
            rw [if_neg this] at q
            repeat (first | exact (sw_pick [0, 2, 3, 4, 5] rfl q) | refine sw_s hT rfl rfl ?_)
          · have hjk : j < k := by
              rcases Nat.lt_or_ge j k with z | z
              · exact z
              · exact absurd (nI_le z (by omega)) c3
            rw [if_pos (show cmg (woS x j) (woS x k) < 0 ∨ (cml (woS x j) (woS x k) = 0 ∧ j < k) from Or.inr ⟨c2, hjk⟩), ← nI_1] at q
            repeat (first | exact (sw_pick [0, 1, 3, 4, 5] rfl q) | refine sw_s hT rfl rfl ?_)
        · have : ¬ (cmg (woS x j) (woS x k) < 0 ∨ (cml (woS x j) (woS x k) = 0 ∧ j < k)) := by
            rintro (h | ⟨h, -⟩)
            · exact c1 h
            · exact c2 h
          rw [if_neg this] at q
          repeat (first | exact (sw_pick [0, 2, 3, 4, 5] rfl q) | refine sw_s hT rfl rfl ?_)
  repeat (refine sw_s hT rfl rfl ?_)
  refine sw_cv hT rfl (c_worstMargin _ x n k hI hk) rfl rfl rfl rfl (Nat.le_of_ble_eq_true rfl) ?_
  repeat (first | exact (sw_pick [0, 1, 2, 3, 4] rfl (K n 0 (by omega))) | refine sw_s hT rfl rfl ?_)
/-- the violation of this rank, from k on -/
def voS (x : Hp) (n : Nat) (r : Int32) : Nat → Nat → Int32
  | 0, _ => -1
  | d + 1, k => if cmg (woS x k) (reqS x) < 0 ∧ nI (rwS x k (woS x k) n) = r then nI k else voS x n r d (k + 1)
theorem c_violationOfRank (Y : Kx) (x : Hp) (n : Nat) (r : Int32) (hI : INV x n) : sM Y mX4_violationOfRank [.ref 1, .int r] x (some (.int (voS x n r n 0))) x := by
  refine sM_of (by decide +kernel) (Nat.le_of_ble_eq_true rfl) (fun X h hY hR => ?_)
  have hT := kX4_violationOfRank h
  have hn := hI.2.1
  have h12 := hI.1
  have K : ∀ d j, d + j = n → voS x n r n 0 = voS x n r d j → SW X mX4_violationOfRank 2 [(2, .int (nI j)), (0, .ref 1), (1, .int r)] [] x := by
    intro d
    induction d with
    | zero =>
      intro j hj he
      have hjn : j = n := by omega
      subst hjn
      rw [he] at hR
      repeat (refine sw_s hT rfl rfl ?_)
      refine sw_b hT rfl rfl (fun _ => ?_) (fun c => absurd (by rw [hn]; exact Int32.le_refl _) c)
      repeat (refine sw_s hT rfl rfl ?_)
      exact sw_iret hT rfl rfl rfl (hR)
    | succ d ih =>
      intro j hj he
      have q := ih (j + 1) (by omega)
      have hl : voS x n r (d + 1) j = if cmg (woS x j) (reqS x) < 0 ∧ nI (rwS x j (woS x j) n) = r then nI j else voS x n r d (j + 1) := rfl
      repeat (refine sw_s hT rfl rfl ?_)
      refine sw_b hT rfl rfl (fun c => absurd c ((by rw [hn]; exact nI_ge (by omega) (by omega)))) (fun _ => ?_)
      repeat (refine sw_s hT rfl rfl ?_)
      refine sw_cv hT rfl (c_worstMargin _ x n j hI (by omega)) rfl rfl rfl rfl (Nat.le_of_ble_eq_true rfl) ?_
      repeat (refine sw_s hT rfl rfl ?_)
      refine sw_b hT rfl rfl (fun c1 => ?_) (fun c1 => ?_)
      · rw [hl, if_neg (fun h => Int32.not_lt.mpr c1 h.1)] at he
        have q := q he
        rw [← nI_1] at q
        repeat (first | exact (q) | refine sw_s hT rfl rfl ?_)
      · repeat (refine sw_s hT rfl rfl ?_)
        refine sw_cv hT rfl (c_relaysWorseThan _ x n j hI (by omega)) rfl rfl rfl rfl (Nat.le_of_ble_eq_true rfl) ?_
        repeat (refine sw_s hT rfl rfl ?_)
        refine sw_b hT rfl rfl (fun c2 => ?_) (fun c2 => ?_)
        · rw [hl, if_pos ⟨Int32.not_le.mp c1, c2⟩] at he
          rw [he] at hR
          repeat (refine sw_s hT rfl rfl ?_)
          exact sw_iret hT rfl rfl rfl (hR)
        · rw [hl, if_neg (fun h => c2 h.2)] at he
          have q := q he
          rw [← nI_1] at q
          repeat (first | exact (q) | refine sw_s hT rfl rfl ?_)
  repeat (first | exact (K n 0 (by omega) rfl) | refine sw_s hT rfl rfl ?_)
/-- whether the first j relays that hang on r keep the margin -/
def kpS (x : Hp) (r : Nat) : Nat → Prop
  | 0 => True
  | j + 1 => kpS x r j ∧ (r < j → fbN x j = r + 1 → ¬ cmg (woS x j) (reqS x) < 0)
theorem c_keepsMargins (Y : Kx) (x : Hp) (n r : Nat) (b : Int32) (hI : INV x n) (hr : r < n) (hb : (b = 1 ∧ kpS x r n) ∨ (b = 0 ∧ ¬ kpS x r n)) : sM Y mX4_keepsMargins [.ref 1, .int (nI r)] x (some (.int b)) x := by
  refine sM_of (by decide +kernel) (Nat.le_of_ble_eq_true rfl) (fun X h hY hR => ?_)
  have hT := kX4_keepsMargins h
  have hn := hI.2.1
  have h12 := hI.1
  have bad : ¬ kpS x r n → SW X mX4_keepsMargins 40 [(0, .ref 1)] [] x := by
    intro h
    rcases hb with ⟨-, hb⟩ | ⟨rfl, -⟩
    · exact absurd hb h
    · repeat (refine sw_s hT rfl rfl ?_)
      exact sw_iret hT rfl rfl rfl (hR)
  have mono : ∀ d j, kpS x r (j + d) → kpS x r j := by
    intro d
    induction d with
    | zero => exact fun j h => h
    | succ d ih => exact fun j h => ih j h.1
  have K : ∀ d j, d + j = n → r < j → kpS x r j → SW X mX4_keepsMargins 4 [(2, .int (nI j)), (0, .ref 1), (1, .int (nI r))] [] x := by
    intro d
    induction d with
    | zero =>
      intro j hj hrj hkp
      have hjn : j = n := by omega
      subst hjn
      repeat (refine sw_s hT rfl rfl ?_)
      refine sw_b hT rfl rfl (fun _ => ?_) (fun c => absurd (by rw [hn]; exact Int32.le_refl _) c)
      repeat (refine sw_s hT rfl rfl ?_)
      rcases hb with ⟨rfl, -⟩ | ⟨-, hb⟩
      · exact sw_iret hT rfl rfl rfl (hR)
      · exact absurd hkp hb
    | succ d ih =>
      intro j hj hrj hkp
      obtain ⟨f1, f2⟩ := hI.2.2.1 j (by omega)
      have q := ih (j + 1) (by omega) (by omega)
      rw [← nI_1] at q
      repeat (refine sw_s hT rfl rfl ?_)
      refine sw_b hT rfl rfl (fun c => absurd c ((by rw [hn]; exact nI_ge (by omega) (by omega)))) (fun _ => ?_)
      repeat (refine sw_s hT rfl rfl ?_)
      cases hu : fbN x j with
      | zero =>
        refine sw_cv hT rfl (c_lineB0 _ x j (by omega) f1 hu) rfl rfl rfl rfl (Nat.le_of_ble_eq_true rfl) ?_
        repeat (refine sw_s hT rfl rfl ?_)
        refine sw_b hT rfl rfl (fun c => absurd c ?_) (fun _ => ?_)
        · intro c
          have := nI_pos' (n := r) (by omega)
          rw [← c] at this
          exact absurd this (by decide)
        have q := q ⟨hkp, fun _ h => by rw [hu] at h; omega⟩
        repeat (first | exact (q) | refine sw_s hT rfl rfl ?_)
      | succ u =>
        refine sw_cv hT rfl (c_lineB1 _ x j u (by omega) f1 hu (by omega)) rfl rfl rfl rfl (Nat.le_of_ble_eq_true rfl) ?_
        repeat (refine sw_s hT rfl rfl ?_)
        refine sw_b hT rfl rfl (fun c1 => ?_) (fun c1 => ?_)
        · have hur : u = r := (nI_eq (by omega) (by omega)).mp c1
          subst hur
          repeat (refine sw_s hT rfl rfl ?_)
          refine sw_cv hT rfl (c_worstMargin _ x n j hI (by omega)) rfl rfl rfl rfl (Nat.le_of_ble_eq_true rfl) ?_
          repeat (refine sw_s hT rfl rfl ?_)
          refine sw_b hT rfl rfl (fun c2 => ?_) (fun c2 => ?_)
          · have q := q ⟨hkp, fun _ _ => Int32.not_lt.mpr c2⟩
            repeat (first | exact (q) | refine sw_s hT rfl rfl ?_)
          · refine sw_pick [1] rfl (bad fun h => ?_)
            have h2 := mono d (j + 1) (by rw [show j + 1 + d = n by omega]; exact h)
            exact h2.2 hrj hu (Int32.not_le.mp c2)
        · have q := q ⟨hkp, fun _ h => by rw [hu] at h; exact absurd (by rw [show u = r by omega]) c1⟩
          repeat (first | exact (q) | refine sw_s hT rfl rfl ?_)
  have pre : ∀ j, j ≤ r + 1 → kpS x r j := by
    intro j
    induction j with
    | zero => exact fun _ => trivial
    | succ j ih => exact fun h => ⟨ih (by omega), fun h2 => absurd h2 (by omega)⟩
  have k0 := K (n - (r + 1)) (r + 1) (by omega) (by omega) (pre _ (Nat.le_refl _))
  rw [← nI_1] at k0
  repeat (first | exact (k0) | refine sw_s hT rfl rfl ?_)
theorem u2_u2 {α : Type} (f : Nat → Nat → α) (i k : Nat) (v w : α) : u2 (u2 f i k v) i k w = u2 f i k w := by
  funext a b
  unfold u2 vf_upd
  by_cases h : a = i
  · simp only [h, if_true]
    by_cases h2 : b = k
    · simp only [h2, if_true]
    · simp only [h2, if_false]
  · simp only [h, if_false]
def stP (x : Hp) (r s : Nat) : Hp := (u2 x.1 10 r (nI s), x.2)
theorem stP_stP (x : Hp) (r s t : Nat) : stP (stP x r s) r t = stP x r t := by
  unfold stP
  rw [u2_u2]
/-- the first number of steps, from s on and d of them left, that keeps the margins; 0: there is none -/
def gsF (x : Hp) (r n : Nat) : Nat → Nat → Prop
  | 0, _ => True
  | d + 1, s => ¬ kpS (stP x r s) r n ∧ gsF x r n d (s + 1)
theorem c_gradeOK (Y : Kx) (x : Hp) (n r s : Nat) (hI : ∀ t, 1 ≤ t → t ≤ 20 → INV (stP x r t) n) (hr : r < n) (hs : 1 ≤ s ∧ s ≤ 20) (h1 : ∀ t, 1 ≤ t → t < s → ¬ kpS (stP x r t) r n) (h2 : kpS (stP x r s) r n) : sM Y mX4_gradeSteps [.ref 1, .int (nI r)] x (some (.int 1)) (stP x r s) := by
  refine sM_of (by decide +kernel) (Nat.le_of_ble_eq_true rfl) (fun X h hY hR => ?_)
  have hT := kX4_gradeSteps h
  have h12 := (hI 1 (by omega) (by omega)).1
  have K : ∀ d t, d + t = s → 1 ≤ t → ∀ x', (∀ v, stP x' r v = stP x r v) → SW X mX4_gradeSteps 2 [(2, .int (nI t)), (0, .ref 1), (1, .int (nI r))] [] x' := by
    intro d
    induction d with
    | zero =>
      intro t ht h1t x' hx'
      have hts : t = s := by omega
      subst hts
      repeat (refine sw_s hT rfl rfl ?_)
      refine sw_b hT rfl rfl (fun c => absurd c ((by exact Int32.not_lt.mpr (nI_le (a := t) (b := 20) (by omega) (by omega))))) (fun _ => ?_)
      repeat (refine sw_s hT rfl rfl ?_)
      refine sw_iast hT rfl rfl (in12 (by omega)) ?_
      rw [cl12 (by omega)]
      have e : (u2 x'.1 10 r (nI t), x'.2) = stP x r t := hx' t
      rw [e]
      repeat (refine sw_s hT rfl rfl ?_)
      refine sw_cv hT rfl (c_keepsMargins _ _ n r 1 (hI t (by omega) (by omega)) hr (Or.inl ⟨rfl, h2⟩)) rfl rfl rfl rfl (Nat.le_of_ble_eq_true rfl) ?_
      refine sw_b hT rfl rfl (fun c => absurd c ((by decide))) (fun _ => ?_)
      repeat (refine sw_s hT rfl rfl ?_)
      exact sw_iret hT rfl rfl rfl (hR)
    | succ d ih =>
      intro t ht h1t x' hx'
      repeat (refine sw_s hT rfl rfl ?_)
      refine sw_b hT rfl rfl (fun c => absurd c ((by exact Int32.not_lt.mpr (nI_le (a := t) (b := 20) (by omega) (by omega))))) (fun _ => ?_)
      repeat (refine sw_s hT rfl rfl ?_)
      refine sw_iast hT rfl rfl (in12 (by omega)) ?_
      rw [cl12 (by omega)]
      have e : (u2 x'.1 10 r (nI t), x'.2) = stP x r t := hx' t
      rw [e]
      repeat (refine sw_s hT rfl rfl ?_)
      refine sw_cv hT rfl (c_keepsMargins _ _ n r 0 (hI t (by omega) (by omega)) hr (Or.inr ⟨rfl, h1 t (by omega) (by omega)⟩)) rfl rfl rfl rfl (Nat.le_of_ble_eq_true rfl) ?_
      refine sw_b hT rfl rfl (fun _ => ?_) (fun c => absurd (rfl) c)
      have q := ih (t + 1) (by omega) (by omega) (stP x r t) (fun v => stP_stP x r t v)
      rw [← nI_1] at q
      repeat (first | exact (q) | refine sw_s hT rfl rfl ?_)
  repeat (first | exact (K (s - 1) 1 (by omega) (by omega) x (fun _ => rfl)) | refine sw_s hT rfl rfl ?_)
theorem c_gradeNO (Y : Kx) (x : Hp) (n r : Nat) (hI : ∀ t, 1 ≤ t → t ≤ 20 → INV (stP x r t) n) (hr : r < n) (h1 : ∀ t, 1 ≤ t → t ≤ 20 → ¬ kpS (stP x r t) r n) : sM Y mX4_gradeSteps [.ref 1, .int (nI r)] x (some (.int 0)) (stP x r 20) := by
  refine sM_of (by decide +kernel) (Nat.le_of_ble_eq_true rfl) (fun X h hY hR => ?_)
  have hT := kX4_gradeSteps h
  have h12 := (hI 1 (by omega) (by omega)).1
  have K : ∀ d t, d + t = 21 → 1 ≤ t → ∀ x', (∀ v, stP x' r v = stP x r v) → (t = 21 → x' = stP x r 20) → SW X mX4_gradeSteps 2 [(2, .int (nI t)), (0, .ref 1), (1, .int (nI r))] [] x' := by
    intro d
    induction d with
    | zero =>
      intro t ht h1t x' hx' hx2
      have hts : t = 21 := by omega
      subst hts
      rw [hx2 rfl]
      repeat (refine sw_s hT rfl rfl ?_)
      refine sw_b hT rfl rfl (fun _ => ?_) (fun c => absurd ((by decide)) c)
      repeat (refine sw_s hT rfl rfl ?_)
      exact sw_iret hT rfl rfl rfl (hR)
    | succ d ih =>
      intro t ht h1t x' hx' _
      repeat (refine sw_s hT rfl rfl ?_)
      refine sw_b hT rfl rfl (fun c => absurd c ((by exact Int32.not_lt.mpr (nI_le (a := t) (b := 20) (by omega) (by omega))))) (fun _ => ?_)
      repeat (refine sw_s hT rfl rfl ?_)
      refine sw_iast hT rfl rfl (in12 (by omega)) ?_
      rw [cl12 (by omega)]
      have e : (u2 x'.1 10 r (nI t), x'.2) = stP x r t := hx' t
      rw [e]
      repeat (refine sw_s hT rfl rfl ?_)
      refine sw_cv hT rfl (c_keepsMargins _ _ n r 0 (hI t (by omega) (by omega)) hr (Or.inr ⟨rfl, h1 t (by omega) (by omega)⟩)) rfl rfl rfl rfl (Nat.le_of_ble_eq_true rfl) ?_
      refine sw_b hT rfl rfl (fun _ => ?_) (fun c => absurd (rfl) c)
      have q := ih (t + 1) (by omega) (by omega) (stP x r t) (fun v => stP_stP x r t v) (fun h => by rw [show t = 20 by omega])
      rw [← nI_1] at q
      repeat (first | exact (q) | refine sw_s hT rfl rfl ?_)
  repeat (first | exact (K 20 1 (by omega) (by omega) x (fun _ => rfl) (fun h => absurd h (by decide))) | refine sw_s hT rfl rfl ?_)
