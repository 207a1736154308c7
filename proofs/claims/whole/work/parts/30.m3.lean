/-! the reference's margins; FP facts that the comparison of two margins needs, as one hypothesis each -/
/-- of a time that is no NaN: below infinity, or infinity -/
def tIN (t : UInt64) : Prop := (cml t 9218868437227405312 < 0 ∧ ¬ cml t 9218868437227405312 = 0) ∨ (¬ cml t 9218868437227405312 < 0 ∧ cml t 9218868437227405312 = 0 ∧ t = 9218868437227405312)
/-- number minus infinity is minus infinity -/
def sIN (u t : UInt64) : Prop := cml u 9218868437227405312 < 0 → cml t 9218868437227405312 = 0 → FP.dsub u t = 18442240474082181120
/-- the grading's times and margins, as they come -/
def GOK (x : Hp) (n : Nat) : Prop := ∀ k, k < n → ∀ p : Nat, p ≤ 100 → ∀ i j, i < n → j < n → tIN (tfS x i (curS x k (nI p))) ∧ sIN (tfS x i (curS x k (nI p))) (tfS x j (curS x k (nI p)))
theorem NOK_scr {x y : Hp} (hs : scr x y) : (∀ k p, curS y k p = curS x k p) ∧ (∀ k p, curOK y k p ↔ curOK x k p) ∧ (∀ k c, tfS y k c = tfS x k c) ∧ ∀ k c, tfOK y k c ↔ tfOK x k c := by
  have e : ∀ i, i ≠ 83 → i ≠ 88 → y.1 i = x.1 i := fun i a b => hs.1.1 i (by simp [a, b])
  have e2 : ∀ i, i ≠ 83 → i ≠ 88 → y.2.1 i = x.2.1 i := fun i a b => hs.1.2.1 i (by simp [a, b])
  have cq : ∀ k j, caS y k j = caS x k j := by
    intro k j
    induction j with
    | zero => show y.2.1 2 1 = x.2.1 2 1; rw [e2 2 (by decide) (by decide)]
    | succ j ih => unfold caS; rw [ih, e 4 (by decide) (by decide), e2 5 (by decide) (by decide)]
  have zq : ∀ k p, zS y k p = zS x k p := fun k p => by unfold zS; rw [cq, e2 5 (by decide) (by decide)]
  have uq : ∀ k p, curS y k p = curS x k p := fun k p => by unfold curS; rw [zq, e2 2 (by decide) (by decide)]
  refine ⟨uq, fun k p => ?_, fun k c => tfS_eq (e 8 (by decide) (by decide)) (e 9 (by decide) (by decide)) (e 10 (by decide) (by decide)) (e 11 (by decide) (by decide)), fun k c => tfOK_eq (e 8 (by decide) (by decide)) (e 9 (by decide) (by decide)) (e 10 (by decide) (by decide))⟩
  unfold curOK
  rw [zq, uq, e 4 (by decide) (by decide), e2 5 (by decide) (by decide)]
  simp only [cq]
theorem fbN_scr {x y : Hp} (hs : scr x y) : fbN y = fbN x := fbN_fr hs.1 (by decide)
theorem mgS_scr {x y : Hp} (hs : scr x y) (k u : Nat) (p : Int32) : mgS y k u p = mgS x k u p := by
  obtain ⟨h1, -, h3, -⟩ := NOK_scr hs
  unfold mgS
  simp only [h1, h3]
theorem woS_scr {x y : Hp} (hs : scr x y) (k : Nat) : woS y k = woS x k := by
  unfold woS
  rw [fbN_scr hs]
  simp only [mgS_scr hs]
theorem INV_scr {x y : Hp} {n : Nat} (hs : scr x y) (h : INV x n) : INV y n := by
  obtain ⟨h1, h2, h3, h4⟩ := h
  obtain ⟨e1, e2, e3, e4⟩ := NOK_scr hs
  refine ⟨h1, by rw [hs.1.1 2 (by decide)]; exact h2, by rw [fbN_scr hs, hs.1.1 3 (by decide)]; exact h3, fun k hk p hp => ?_⟩
  obtain ⟨a, b, c⟩ := h4 k hk p hp
  refine ⟨(e2 k _).mpr a, fun j hj => by rw [e1]; exact (e4 j _).mpr (b j hj), fun i j hi hj => ?_⟩
  rw [e1, e3, e3]
  exact c i j hi hj
theorem RG1_scr {x y : Hp} {n : Nat} (hs : scr x y) (h : RG1 x n) : RG1 y n := fun k hk => by
  rw [hs.1.1 11 (by decide), hs.1.1 9 (by decide)]; exact h k hk
theorem GOK_scr {x y : Hp} {n : Nat} (hs : scr x y) (h : GOK x n) : GOK y n := fun k hk p hp i j hi hj => by
  obtain ⟨e1, -, e3, -⟩ := NOK_scr hs
  rw [e1, e3, e3]; exact h k hk p hp i j hi hj
/-- what a walk of the reference's grading rests on -/
def MG (x : Hp) (n : Nat) : Prop := REL x n ∧ INV x n ∧ RG1 x n ∧ GOK x n
theorem MG_scr {x y : Hp} {n : Nat} (hs : scr x y) (h : MG x n) : MG y n := ⟨REL_scr h.1 hs, INV_scr hs h.2.1, RG1_scr hs h.2.2.1, GOK_scr hs h.2.2.2⟩
theorem r_marginOf (Y : Kx) (x : Hp) (n k u p : Nat) (hM : MG x n) (hk : k < n) (hu : fbN x k = u + 1) (hp : p ≤ 100) : sR Y mX7_marginOf [.ref 83, .int (nI k), .int (nI p)] x (fun rr x' => rr = some (.double (mgS x k u (nI p))) ∧ scr x x') := by
  refine sR_of (by decide +kernel) (Nat.le_of_ble_eq_true rfl) (fun X h hY hR => ?_)
  have hT := kX7_marginOf h
  obtain ⟨hR0, hI, hG, hO⟩ := hM
  have h12 := hI.1
  obtain ⟨f1, f2⟩ := hI.2.2.1 k hk
  obtain ⟨n1, n2, n3⟩ := hI.2.2.2 k hk p hp
  have hu12 : u < n := by omega
  repeat (refine sw_s hT rfl rfl ?_)
  refine sw_cvR hT rfl (r_currentAt _ x n k p hR0 hk hp n1) rfl rfl rfl rfl (Nat.le_of_ble_eq_true rfl) ?_
  rintro _ y ⟨rfl, ys⟩
  obtain ⟨e1, e2, e3, e4⟩ := NOK_scr ys
  have yR := REL_scr hR0 ys
  have yG := RG1_scr ys hG
  obtain ⟨c1, c2⟩ := hO k hk p hp u k hu12 hk
  obtain ⟨c3, -⟩ := hO k hk p hp k k hk hk
  show SW X mX7_marginOf 6 _ [_] y
  repeat (refine sw_s hT rfl rfl ?_)
  refine sw_cv hT rfl (r_above _ y n k yR.1 hk) rfl rfl rfl rfl (Nat.le_of_ble_eq_true rfl) ?_
  rw [fbN_scr ys, hu, nI_pred]
  repeat (refine sw_s hT rfl rfl ?_)
  refine sw_cv hT rfl (r_timeOf _ y n u _ yR yG hu12 ((e4 u _).mpr (n2 u hu12))) rfl rfl rfl rfl (Nat.le_of_ble_eq_true rfl) ?_
  rw [e3]
  repeat (refine sw_s hT rfl rfl ?_)
  refine sw_cv hT rfl (r_timeOf _ y n k _ yR yG hk ((e4 k _).mpr (n2 k hk))) rfl rfl rfl rfl (Nat.le_of_ble_eq_true rfl) ?_
  rw [e3]
  have n4 := n3 u k hu12 hk
  unfold mgS at hR
  generalize tfS x u (curS x k (nI p)) = tu at *
  generalize tfS x k (curS x k (nI p)) = tk at *
  repeat (refine sw_s hT rfl rfl ?_)
  rcases c1 with ⟨a1, a2⟩ | ⟨a1, a2, a3⟩
  · rw [if_pos a1] at hR
    refine sw_b hT rfl rfl (fun c => absurd c ((a2))) (fun _ => ?_)
    repeat (refine sw_s hT rfl rfl ?_)
    rcases c3 with ⟨b1, b2⟩ | ⟨b1, b2, b3⟩
    · refine sw_b hT rfl rfl (fun c => absurd c ((b2))) (fun _ => ?_)
      repeat (refine sw_s hT rfl rfl ?_)
      refine sw_dsub hT rfl (n4 a1) ?_
      refine sw_dretP hT rfl rfl hR ?_
      exact ⟨rfl, ys⟩
    · refine sw_b hT rfl rfl (fun _ => ?_) (fun c => absurd ((b2)) c)
      repeat (refine sw_s hT rfl rfl ?_)
      refine sw_dretP hT rfl rfl hR ?_
      exact ⟨by rw [c2 a1 b2], ys⟩
  · rw [if_neg a1] at hR
    refine sw_b hT rfl rfl (fun _ => ?_) (fun c => absurd ((a2)) c)
    repeat (refine sw_s hT rfl rfl ?_)
    refine sw_dretP hT rfl rfl hR ?_
    exact ⟨rfl, ys⟩
