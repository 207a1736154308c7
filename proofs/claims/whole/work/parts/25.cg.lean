/-! autoGrade -/
def kpB (x : Hp) (r : Nat) : Nat → Bool
  | 0 => true
  | j + 1 => kpB x r j && !(decide (r < j) && decide (fbN x j = r + 1) && decide (cmg (woS x j) (reqS x) < 0))
theorem kpB_iff (x : Hp) (r : Nat) : ∀ j, kpB x r j = true ↔ kpS x r j
  | 0 => ⟨fun _ => trivial, fun _ => rfl⟩
  | j + 1 => by
    unfold kpB kpS
    rw [Bool.and_eq_true, kpB_iff x r j]
    constructor
    · rintro ⟨h1, h2⟩
      refine ⟨h1, fun h3 h4 h5 => ?_⟩
      simp [h3, h4, h5] at h2
    · rintro ⟨h1, h2⟩
      refine ⟨h1, ?_⟩
      by_cases h3 : r < j
      · by_cases h4 : fbN x j = r + 1
        · have h5 := h2 h3 h4
          simp [h5]
        · simp [h4]
      · simp [h3]
/-- the first number of steps from s on, of d, that keeps the margins -/
def gsB (x : Hp) (r n : Nat) : Nat → Nat → Option Nat
  | 0, _ => none
  | d + 1, s => if kpB (stP x r s) r n = true then some s else gsB x r n d (s + 1)
theorem gsB_some {x : Hp} {r n t : Nat} : ∀ {d s : Nat}, gsB x r n d s = some t → s ≤ t ∧ t < s + d ∧ kpS (stP x r t) r n ∧ ∀ u, s ≤ u → u < t → ¬ kpS (stP x r u) r n
  | 0, _, h => by cases h
  | d + 1, s, h => by
    unfold gsB at h
    split at h
    · next hk =>
      cases h
      exact ⟨Nat.le_refl _, by omega, (kpB_iff _ _ _).mp hk, fun u h1 h2 => absurd h2 (by omega)⟩
    · next hk =>
      obtain ⟨h1, h2, h3, h4⟩ := gsB_some h
      refine ⟨by omega, by omega, h3, fun u h5 h6 => ?_⟩
      rcases Nat.eq_or_lt_of_le h5 with q | q
      · subst q; exact fun z => hk ((kpB_iff _ _ _).mpr z)
      · exact h4 u q h6
theorem gsB_none {x : Hp} {r n : Nat} : ∀ {d s : Nat}, gsB x r n d s = none → ∀ u, s ≤ u → u < s + d → ¬ kpS (stP x r u) r n
  | 0, _, _, u, h1, h2 => absurd h2 (by omega)
  | d + 1, s, h, u, h1, h2 => by
    unfold gsB at h
    split at h
    · cases h
    · next hk =>
      rcases Nat.eq_or_lt_of_le h1 with q | q
      · subst q; exact fun z => hk ((kpB_iff _ _ _).mpr z)
      · exact gsB_none h u q (by omega)
/-- the first j relays graded, from the last one down; how many failed -/
def grG (y : Hp) (n : Nat) : Nat → Hp × Nat
  | 0 => (y, 0)
  | j + 1 => match gsB (grG y n j).1 (n - 1 - j) n 20 1 with
    | some s => (stP (grG y n j).1 (n - 1 - j) s, (grG y n j).2)
    | none => (stP (grG y n j).1 (n - 1 - j) 20, (grG y n j).2 + 1)
theorem grG_le (y : Hp) (n : Nat) : ∀ j, (grG y n j).2 ≤ j
  | 0 => Nat.le_refl _
  | j + 1 => by
    have := grG_le y n j
    unfold grG
    split
    · show (grG y n j).2 ≤ j + 1; omega
    · show (grG y n j).2 + 1 ≤ j + 1; omega
theorem grG_fr (y : Hp) (n : Nat) : ∀ j, fr [10] y (grG y n j).1
  | 0 => fr_rf
  | j + 1 => by
    have h := grG_fr y n j
    unfold grG
    split
    · exact fr_tr h (fr_wI (by decide))
    · exact fr_tr h (fr_wI (by decide))
theorem f_autoGrade (Y : Kx) (x : Hp) (i c n : Nat) (hU : US x i c) (hn : x.1 2 2 = nI n) (h12 : n ≤ 12) (hI : ∀ j r t, j ≤ n → r < n → 1 ≤ t → t ≤ 20 → INV (stP (grG (pushS x i c) n j).1 r t) n) : sM Y mX6_autoGrade [.ref 0] x (some (.int (nI (grG (pushS x i c) n n).2))) (grG (pushS x i c) n n).1 := by
  refine sM_of (by decide +kernel) (Nat.le_of_ble_eq_true rfl) (fun X h hY hR => ?_)
  have hT := kX6_autoGrade h
  repeat (refine sw_s hT rfl rfl ?_)
  refine sw_cv0 hT rfl (c_pushU _ x i c hU) rfl rfl rfl rfl (Nat.le_of_ble_eq_true rfl) ?_
  have e2 : (pushS x i c).1 2 2 = nI n := (congrFun (push_o1 hU.1 (Or.inl (by decide))) 2).trans hn
  generalize pushS x i c = y at hR hI e2 ⊢
  have K : ∀ d j, d + j = n → SW X mX6_autoGrade 26 [(2, .int (nI d + -1)), (1, .int (nI (grG y n j).2)), (0, .ref 0)] [] (grG y n j).1 := by
    intro d
    induction d with
    | zero =>
      intro j hj
      have hjn : j = n := by omega
      subst hjn
      repeat (refine sw_s hT rfl rfl ?_)
      refine sw_b hT rfl rfl (fun _ => ?_) (fun c => absurd ((by decide)) c)
      repeat (refine sw_s hT rfl rfl ?_)
      exact sw_iret hT rfl rfl rfl (hR)
    | succ d ih =>
      intro j hj
      have k := ih (j + 1) (by omega)
      have hd : n - 1 - j = d := by omega
      rw [pk_m1]
      repeat (refine sw_s hT rfl rfl ?_)
      refine sw_b hT rfl rfl (fun c => absurd c ((nI_pos (by omega)))) (fun _ => ?_)
      repeat (refine sw_s hT rfl rfl ?_)
      cases hg : gsB (grG y n j).1 d n 20 1 with
      | some s =>
        obtain ⟨g1, g2, g3, g4⟩ := gsB_some hg
        have hgr : grG y n (j + 1) = (stP (grG y n j).1 d s, (grG y n j).2) := by
          rw [grG, hd, hg]
        rw [hgr] at k
        refine sw_cv hT rfl (c_gradeOK _ (grG y n j).1 n d s (fun t h1 h2 => hI j d t (by omega) (by omega) h1 h2) (by omega) ⟨g1, by omega⟩ g4 g3) rfl rfl rfl rfl (Nat.le_of_ble_eq_true rfl) ?_
        refine sw_b hT rfl rfl (fun c => absurd c ((by decide))) (fun _ => ?_)
        repeat (first | (refine sw_at (n := 26) rfl ?_; exact (k)) | refine sw_s hT rfl rfl ?_)
      | none =>
        have hgr : grG y n (j + 1) = (stP (grG y n j).1 d 20, (grG y n j).2 + 1) := by
          rw [grG, hd, hg]
        rw [hgr, ← nI_1] at k
        refine sw_cv hT rfl (c_gradeNO _ (grG y n j).1 n d (fun t h1 h2 => hI j d t (by omega) (by omega) h1 h2) (by omega) (fun t h1 h2 => gsB_none hg t h1 (by omega))) rfl rfl rfl rfl (Nat.le_of_ble_eq_true rfl) ?_
        refine sw_b hT rfl rfl (fun _ => ?_) (fun c => absurd (rfl) c)
        repeat (first | (refine sw_at (n := 26) rfl ?_; exact (k)) | refine sw_s hT rfl rfl ?_)
  have k0 := K n 0 (by omega)
  rw [show nI n + -1 = nI n - 1 from (Int32.sub_eq_add_neg _ _).symm, ← e2] at k0
  repeat (first | (refine sw_at (n := 26) rfl ?_; exact (k0)) | refine sw_s hT rfl rfl ?_)
