/-! the reference's margins; FP facts that the comparison of two margins needs, as one hypothesis each -/
/-- of a time that is no NaN: below infinity, or infinity -/
def tIN (t : UInt64) : Prop := (cml t 9218868437227405312 < 0 ∧ ¬ cml t 9218868437227405312 = 0) ∨ (¬ cml t 9218868437227405312 < 0 ∧ cml t 9218868437227405312 = 0 ∧ t = 9218868437227405312)
/-- number minus infinity is minus infinity -/
def sIN (u t : UInt64) : Prop := cml u 9218868437227405312 < 0 → cml t 9218868437227405312 = 0 → FP.dsub u t = 18442240474082181120
/-- the grading's times and margins, as they come -/
def GOK (g : Hp) (n : Nat) : Prop := ∀ k, k < n → ∀ p : Nat, p ≤ 100 → ∀ i j, i < n → j < n → tIN (tfS g i (curS g k (nI p))) ∧ sIN (tfS g i (curS g k (nI p))) (tfS g j (curS g k (nI p)))
theorem fbN_scr {x y : Hp} (hs : scr x y) : fbN y = fbN x := by
  funext k
  unfold fbN
  rw [hs.1.1 3 (by decide)]
/-- what a walk of the reference's grading rests on -/
def MG (g x : Hp) (n : Nat) : Prop := REL g x n ∧ INV g n ∧ RG1 g n ∧ GOK g n
theorem MG_scr {g x y : Hp} {n : Nat} (hs : scr x y) (h : MG g x n) : MG g y n := ⟨REL_scr h.1 hs, h.2⟩
theorem r_marginOf (Y : Kx) (g x : Hp) (n k u p : Nat) (hM : MG g x n) (hk : k < n) (hu : fbN g k = u + 1) (hp : p ≤ 100) : sR Y mX7_marginOf [.ref 83, .int (nI k), .int (nI p)] x (fun rr x' => rr = some (.double (mgS g k u (nI p))) ∧ scr x x') := by
  refine sR_of (by decide +kernel) (Nat.le_of_ble_eq_true rfl) (fun X h hY hR => ?_)
  have hT := kX7_marginOf h
  obtain ⟨hR0, hI, hG, hO⟩ := hM
  have h12 := hI.1
  obtain ⟨f1, f2⟩ := hI.2.2.1 k hk
  obtain ⟨n1, n2, n3⟩ := hI.2.2.2 k hk p hp
  have hu12 : u < n := by omega
  repeat (refine sw_s hT rfl rfl ?_)
  refine sw_cvR hT rfl (r_currentAt _ g x n k p hR0 hk hp n1) rfl rfl rfl rfl (Nat.le_of_ble_eq_true rfl) ?_
  rintro _ y ⟨rfl, ys, -⟩
  have yR := REL_scr hR0 ys
  obtain ⟨c1, c2⟩ := hO k hk p hp u k hu12 hk
  obtain ⟨c3, -⟩ := hO k hk p hp k k hk hk
  show SW X mX7_marginOf 6 _ [_] y
  repeat (refine sw_s hT rfl rfl ?_)
  refine sw_cv hT rfl (r_above _ g y n k yR.1 hk) rfl rfl rfl rfl (Nat.le_of_ble_eq_true rfl) ?_
  rw [hu, nI_pred]
  repeat (refine sw_s hT rfl rfl ?_)
  refine sw_cv hT rfl (r_timeOf _ g y n u _ yR hG hu12 (n2 u hu12)) rfl rfl rfl rfl (Nat.le_of_ble_eq_true rfl) ?_
  repeat (refine sw_s hT rfl rfl ?_)
  refine sw_cv hT rfl (r_timeOf _ g y n k _ yR hG hk (n2 k hk)) rfl rfl rfl rfl (Nat.le_of_ble_eq_true rfl) ?_
  have n4 := n3 u k hu12 hk
  unfold mgS at hR
  generalize tfS g u (curS g k (nI p)) = tu at *
  generalize tfS g k (curS g k (nI p)) = tk at *
  repeat (refine sw_s hT rfl rfl ?_)
  rcases c1 with ⟨a1, a2⟩ | ⟨a1, a2, a3⟩
  · rw [if_pos a1] at hR
    refine sw_b hT rfl rfl (fun c => absurd c ((a2))) (fun _ => ?_)
    repeat (refine sw_s hT rfl rfl ?_)
    rcases c3 with ⟨b1, b2⟩ | ⟨b1, b2, b3⟩
    · refine sw_b hT rfl rfl (fun c => absurd c ((b2))) (fun _ => ?_)
      repeat (refine sw_s hT rfl rfl ?_)
      refine sw_dsub hT rfl (n4 a1) ?_
      refine sw_dretP hT rfl rfl hR ?_
      exact ⟨rfl, ys⟩
    · refine sw_b hT rfl rfl (fun _ => ?_) (fun c => absurd ((b2)) c)
      repeat (refine sw_s hT rfl rfl ?_)
      refine sw_dretP hT rfl rfl hR ?_
      exact ⟨by rw [c2 a1 b2], ys⟩
  · rw [if_neg a1] at hR
    refine sw_b hT rfl rfl (fun _ => ?_) (fun c => absurd ((a2)) c)
    repeat (refine sw_s hT rfl rfl ?_)
    refine sw_dretP hT rfl rfl hR ?_
    exact ⟨rfl, ys⟩
