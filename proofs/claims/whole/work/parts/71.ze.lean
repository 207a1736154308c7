/-! the world that the constructors leave, as numbers; it is in the law's relation -/
def x0i : Nat → Nat → Int32 := fun i => match i with
  | 8 => fill12 (fun _ => 0) 100
  | 10 => fill12 (fun _ => 0) 1
  | 23 => fill12 (fun _ => 0) 100
  | 25 => fill12 (fun _ => 0) 1
  | 38 => fill12 (fun _ => 0) 100
  | 40 => fill12 (fun _ => 0) 1
  | 53 => fill12 (fun _ => 0) 100
  | 55 => fill12 (fun _ => 0) 1
  | 68 => fill12 (fun _ => 0) 100
  | 70 => fill12 (fun _ => 0) 1
  | _ => fun _ => 0
def x0m : Nat → UInt64 := fun k => match k with
  | 3 => 4599075939470750515
  | _ => 0
def x0v : Nat → UInt64 := fun k => match k with
  | 0 => 4666723172467343360
  | 1 => 4607182418800017408
  | _ => 0
def x0w : Nat → UInt64 := vf_upd (vf_upd (vf_upd (fun _ => 0) 0 4666723172467343360) 1 4607182418800017408) 2 4599075939470750515
def x0d : Nat → Nat → UInt64 := fun i => match i with
  | 1 => x0m
  | 2 => x0v
  | 16 => x0m
  | 17 => x0v
  | 31 => x0m
  | 32 => x0v
  | 46 => x0m
  | 47 => x0v
  | 61 => x0m
  | 62 => x0v
  | 85 => x0w
  | _ => fun _ => 0
def x0 : Hp := (x0i, x0d, fun _ _ => 0)
theorem x0_ld : ∀ k, k < 12 → LD x0 k := by
  show ∀ k, k < 12 → x0.1 6 k = 0 ∧ x0.1 8 k = 100 ∧ x0.1 9 k = 0 ∧ x0.1 10 k = 1 ∧ x0.1 11 k = 0 ∧ x0.1 12 k = 0
  decide +kernel
theorem x0_m : M12 (0 : Int32) 0 := fun j _ => by simp
theorem x0_inv : INVX x0 := by
  have hCR : CR x0 0 := ⟨by decide, ⟨by decide +kernel, by decide +kernel, by decide, by decide⟩, ⟨by decide +kernel, by decide +kernel, by decide, by decide⟩, ⟨by decide +kernel, by decide +kernel, by decide, by decide⟩, fun k h => absurd h (Nat.not_lt_zero k), fun k h => absurd h (Nat.not_lt_zero k)⟩
  have hC : CFG x0 0 := ⟨hCR, rfl, fun k h => absurd h (Nat.not_lt_zero k), fun k _ h => x0_ld k h, x0_m, x0_m⟩
  have hE : EVT x0 0 := ⟨by decide, rfl, fun k h => absurd h (Nat.not_lt_zero k), Or.inl rfl⟩
  have hR : REL x0 x0 0 := ⟨⟨by decide, rfl, fun k h => absurd h (Nat.not_lt_zero k)⟩, rfl, fun k h => absurd h (Nat.not_lt_zero k), fun k j h => absurd h (Nat.not_lt_zero k), ⟨rfl, rfl, rfl, fun k h => absurd h (Nat.not_lt_zero k)⟩, fun k h => absurd h (Nat.not_lt_zero k)⟩
  have hO : OPN x0 x0 0 := fun k h => absurd h (Nat.not_lt_zero k)
  have hV : EVR x0 x0 0 := ⟨by decide, rfl, rfl, fun k h => absurd h (Nat.not_lt_zero k), rfl⟩
  exact ⟨0, 0, 0, 0, ⟨hC, hE, hR, hO, hV⟩, ⟨by decide, by decide, rfl, rfl⟩, rfl, fun j h => absurd h (Nat.not_lt_zero j)⟩
def aF (h u q y z c : Nat) (b a0 a1 a2 a3 s m : Nat → Nat) : Nat → Nat := fun i => [h, b 0, b 1, b 2, b 3, b 4, b 5, b 6, b 7, b 8, b 9, b 10, b 11, b 12, b 13, b 14, a0 0, a0 1, a0 2, a0 3, a0 4, a0 5, a0 6, a0 7, a0 8, a0 9, a0 10, a0 11, a0 12, a0 13, a0 14, a1 0, a1 1, a1 2, a1 3, a1 4, a1 5, a1 6, a1 7, a1 8, a1 9, a1 10, a1 11, a1 12, a1 13, a1 14, a2 0, a2 1, a2 2, a2 3, a2 4, a2 5, a2 6, a2 7, a2 8, a2 9, a2 10, a2 11, a2 12, a2 13, a2 14, a3 0, a3 1, a3 2, a3 3, a3 4, a3 5, a3 6, a3 7, a3 8, a3 9, a3 10, a3 11, a3 12, a3 13, a3 14, u, q, s 0, s 1, s 2, s 3, s 4, m 0, m 1, m 2, m 3, m 4, m 5, m 6, m 7, m 8, m 9, m 10, y, z, c].getD i 0
def W0 (tc : Tc) (h u q y z : Nat) (b a0 a1 a2 a3 s m : Nat → Nat) : va_W := tFp tc h u q b a0 a1 a2 a3 s ++ (tMo tc m ++ [(y, .inl (tc 2, 1, .inr (.inl (fun _ => 0)))), (z, .inl (tc 1, 1, .inr (.inr (.inr (.inl (fun _ => 0))))))])
def piF (k : Nat) : Nat := if k < 16 then k else if k < 76 then k + 2 else if k < 78 then k - 60 else k
theorem we_0 {tc : Tc} {h u q y z c : Nat} {b a0 a1 a2 a3 s m : Nat → Nat} : (W0 tc h u q y z b a0 a1 a2 a3 s m)[0]? = some ((aF h u q y z c b a0 a1 a2 a3 s m) 0, ent (aF h u q y z c b a0 a1 a2 a3 s m) tc x0 0) := rfl
theorem we_1 {tc : Tc} {h u q y z c : Nat} {b a0 a1 a2 a3 s m : Nat → Nat} : (W0 tc h u q y z b a0 a1 a2 a3 s m)[1]? = some ((aF h u q y z c b a0 a1 a2 a3 s m) 1, ent (aF h u q y z c b a0 a1 a2 a3 s m) tc x0 1) := rfl
theorem we_2 {tc : Tc} {h u q y z c : Nat} {b a0 a1 a2 a3 s m : Nat → Nat} : (W0 tc h u q y z b a0 a1 a2 a3 s m)[2]? = some ((aF h u q y z c b a0 a1 a2 a3 s m) 2, ent (aF h u q y z c b a0 a1 a2 a3 s m) tc x0 2) := rfl
theorem we_3 {tc : Tc} {h u q y z c : Nat} {b a0 a1 a2 a3 s m : Nat → Nat} : (W0 tc h u q y z b a0 a1 a2 a3 s m)[3]? = some ((aF h u q y z c b a0 a1 a2 a3 s m) 3, ent (aF h u q y z c b a0 a1 a2 a3 s m) tc x0 3) := rfl
theorem we_4 {tc : Tc} {h u q y z c : Nat} {b a0 a1 a2 a3 s m : Nat → Nat} : (W0 tc h u q y z b a0 a1 a2 a3 s m)[4]? = some ((aF h u q y z c b a0 a1 a2 a3 s m) 4, ent (aF h u q y z c b a0 a1 a2 a3 s m) tc x0 4) := rfl
theorem we_5 {tc : Tc} {h u q y z c : Nat} {b a0 a1 a2 a3 s m : Nat → Nat} : (W0 tc h u q y z b a0 a1 a2 a3 s m)[5]? = some ((aF h u q y z c b a0 a1 a2 a3 s m) 5, ent (aF h u q y z c b a0 a1 a2 a3 s m) tc x0 5) := rfl
theorem we_6 {tc : Tc} {h u q y z c : Nat} {b a0 a1 a2 a3 s m : Nat → Nat} : (W0 tc h u q y z b a0 a1 a2 a3 s m)[6]? = some ((aF h u q y z c b a0 a1 a2 a3 s m) 6, ent (aF h u q y z c b a0 a1 a2 a3 s m) tc x0 6) := rfl
theorem we_7 {tc : Tc} {h u q y z c : Nat} {b a0 a1 a2 a3 s m : Nat → Nat} : (W0 tc h u q y z b a0 a1 a2 a3 s m)[7]? = some ((aF h u q y z c b a0 a1 a2 a3 s m) 7, ent (aF h u q y z c b a0 a1 a2 a3 s m) tc x0 7) := rfl
theorem we_8 {tc : Tc} {h u q y z c : Nat} {b a0 a1 a2 a3 s m : Nat → Nat} : (W0 tc h u q y z b a0 a1 a2 a3 s m)[8]? = some ((aF h u q y z c b a0 a1 a2 a3 s m) 8, ent (aF h u q y z c b a0 a1 a2 a3 s m) tc x0 8) := rfl
theorem we_9 {tc : Tc} {h u q y z c : Nat} {b a0 a1 a2 a3 s m : Nat → Nat} : (W0 tc h u q y z b a0 a1 a2 a3 s m)[9]? = some ((aF h u q y z c b a0 a1 a2 a3 s m) 9, ent (aF h u q y z c b a0 a1 a2 a3 s m) tc x0 9) := rfl
theorem we_10 {tc : Tc} {h u q y z c : Nat} {b a0 a1 a2 a3 s m : Nat → Nat} : (W0 tc h u q y z b a0 a1 a2 a3 s m)[10]? = some ((aF h u q y z c b a0 a1 a2 a3 s m) 10, ent (aF h u q y z c b a0 a1 a2 a3 s m) tc x0 10) := rfl
theorem we_11 {tc : Tc} {h u q y z c : Nat} {b a0 a1 a2 a3 s m : Nat → Nat} : (W0 tc h u q y z b a0 a1 a2 a3 s m)[11]? = some ((aF h u q y z c b a0 a1 a2 a3 s m) 11, ent (aF h u q y z c b a0 a1 a2 a3 s m) tc x0 11) := rfl
theorem we_12 {tc : Tc} {h u q y z c : Nat} {b a0 a1 a2 a3 s m : Nat → Nat} : (W0 tc h u q y z b a0 a1 a2 a3 s m)[12]? = some ((aF h u q y z c b a0 a1 a2 a3 s m) 12, ent (aF h u q y z c b a0 a1 a2 a3 s m) tc x0 12) := rfl
theorem we_13 {tc : Tc} {h u q y z c : Nat} {b a0 a1 a2 a3 s m : Nat → Nat} : (W0 tc h u q y z b a0 a1 a2 a3 s m)[13]? = some ((aF h u q y z c b a0 a1 a2 a3 s m) 13, ent (aF h u q y z c b a0 a1 a2 a3 s m) tc x0 13) := rfl
theorem we_14 {tc : Tc} {h u q y z c : Nat} {b a0 a1 a2 a3 s m : Nat → Nat} : (W0 tc h u q y z b a0 a1 a2 a3 s m)[14]? = some ((aF h u q y z c b a0 a1 a2 a3 s m) 14, ent (aF h u q y z c b a0 a1 a2 a3 s m) tc x0 14) := rfl
theorem we_15 {tc : Tc} {h u q y z c : Nat} {b a0 a1 a2 a3 s m : Nat → Nat} : (W0 tc h u q y z b a0 a1 a2 a3 s m)[15]? = some ((aF h u q y z c b a0 a1 a2 a3 s m) 15, ent (aF h u q y z c b a0 a1 a2 a3 s m) tc x0 15) := rfl
theorem we_16 {tc : Tc} {h u q y z c : Nat} {b a0 a1 a2 a3 s m : Nat → Nat} : (W0 tc h u q y z b a0 a1 a2 a3 s m)[18]? = some ((aF h u q y z c b a0 a1 a2 a3 s m) 16, ent (aF h u q y z c b a0 a1 a2 a3 s m) tc x0 16) := rfl
theorem we_17 {tc : Tc} {h u q y z c : Nat} {b a0 a1 a2 a3 s m : Nat → Nat} : (W0 tc h u q y z b a0 a1 a2 a3 s m)[19]? = some ((aF h u q y z c b a0 a1 a2 a3 s m) 17, ent (aF h u q y z c b a0 a1 a2 a3 s m) tc x0 17) := rfl
theorem we_18 {tc : Tc} {h u q y z c : Nat} {b a0 a1 a2 a3 s m : Nat → Nat} : (W0 tc h u q y z b a0 a1 a2 a3 s m)[20]? = some ((aF h u q y z c b a0 a1 a2 a3 s m) 18, ent (aF h u q y z c b a0 a1 a2 a3 s m) tc x0 18) := rfl
theorem we_19 {tc : Tc} {h u q y z c : Nat} {b a0 a1 a2 a3 s m : Nat → Nat} : (W0 tc h u q y z b a0 a1 a2 a3 s m)[21]? = some ((aF h u q y z c b a0 a1 a2 a3 s m) 19, ent (aF h u q y z c b a0 a1 a2 a3 s m) tc x0 19) := rfl
theorem we_20 {tc : Tc} {h u q y z c : Nat} {b a0 a1 a2 a3 s m : Nat → Nat} : (W0 tc h u q y z b a0 a1 a2 a3 s m)[22]? = some ((aF h u q y z c b a0 a1 a2 a3 s m) 20, ent (aF h u q y z c b a0 a1 a2 a3 s m) tc x0 20) := rfl
theorem we_21 {tc : Tc} {h u q y z c : Nat} {b a0 a1 a2 a3 s m : Nat → Nat} : (W0 tc h u q y z b a0 a1 a2 a3 s m)[23]? = some ((aF h u q y z c b a0 a1 a2 a3 s m) 21, ent (aF h u q y z c b a0 a1 a2 a3 s m) tc x0 21) := rfl
theorem we_22 {tc : Tc} {h u q y z c : Nat} {b a0 a1 a2 a3 s m : Nat → Nat} : (W0 tc h u q y z b a0 a1 a2 a3 s m)[24]? = some ((aF h u q y z c b a0 a1 a2 a3 s m) 22, ent (aF h u q y z c b a0 a1 a2 a3 s m) tc x0 22) := rfl
theorem we_23 {tc : Tc} {h u q y z c : Nat} {b a0 a1 a2 a3 s m : Nat → Nat} : (W0 tc h u q y z b a0 a1 a2 a3 s m)[25]? = some ((aF h u q y z c b a0 a1 a2 a3 s m) 23, ent (aF h u q y z c b a0 a1 a2 a3 s m) tc x0 23) := rfl
theorem we_24 {tc : Tc} {h u q y z c : Nat} {b a0 a1 a2 a3 s m : Nat → Nat} : (W0 tc h u q y z b a0 a1 a2 a3 s m)[26]? = some ((aF h u q y z c b a0 a1 a2 a3 s m) 24, ent (aF h u q y z c b a0 a1 a2 a3 s m) tc x0 24) := rfl
theorem we_25 {tc : Tc} {h u q y z c : Nat} {b a0 a1 a2 a3 s m : Nat → Nat} : (W0 tc h u q y z b a0 a1 a2 a3 s m)[27]? = some ((aF h u q y z c b a0 a1 a2 a3 s m) 25, ent (aF h u q y z c b a0 a1 a2 a3 s m) tc x0 25) := rfl
theorem we_26 {tc : Tc} {h u q y z c : Nat} {b a0 a1 a2 a3 s m : Nat → Nat} : (W0 tc h u q y z b a0 a1 a2 a3 s m)[28]? = some ((aF h u q y z c b a0 a1 a2 a3 s m) 26, ent (aF h u q y z c b a0 a1 a2 a3 s m) tc x0 26) := rfl
theorem we_27 {tc : Tc} {h u q y z c : Nat} {b a0 a1 a2 a3 s m : Nat → Nat} : (W0 tc h u q y z b a0 a1 a2 a3 s m)[29]? = some ((aF h u q y z c b a0 a1 a2 a3 s m) 27, ent (aF h u q y z c b a0 a1 a2 a3 s m) tc x0 27) := rfl
theorem we_28 {tc : Tc} {h u q y z c : Nat} {b a0 a1 a2 a3 s m : Nat → Nat} : (W0 tc h u q y z b a0 a1 a2 a3 s m)[30]? = some ((aF h u q y z c b a0 a1 a2 a3 s m) 28, ent (aF h u q y z c b a0 a1 a2 a3 s m) tc x0 28) := rfl
theorem we_29 {tc : Tc} {h u q y z c : Nat} {b a0 a1 a2 a3 s m : Nat → Nat} : (W0 tc h u q y z b a0 a1 a2 a3 s m)[31]? = some ((aF h u q y z c b a0 a1 a2 a3 s m) 29, ent (aF h u q y z c b a0 a1 a2 a3 s m) tc x0 29) := rfl
theorem we_30 {tc : Tc} {h u q y z c : Nat} {b a0 a1 a2 a3 s m : Nat → Nat} : (W0 tc h u q y z b a0 a1 a2 a3 s m)[32]? = some ((aF h u q y z c b a0 a1 a2 a3 s m) 30, ent (aF h u q y z c b a0 a1 a2 a3 s m) tc x0 30) := rfl
theorem we_31 {tc : Tc} {h u q y z c : Nat} {b a0 a1 a2 a3 s m : Nat → Nat} : (W0 tc h u q y z b a0 a1 a2 a3 s m)[33]? = some ((aF h u q y z c b a0 a1 a2 a3 s m) 31, ent (aF h u q y z c b a0 a1 a2 a3 s m) tc x0 31) := rfl
theorem we_32 {tc : Tc} {h u q y z c : Nat} {b a0 a1 a2 a3 s m : Nat → Nat} : (W0 tc h u q y z b a0 a1 a2 a3 s m)[34]? = some ((aF h u q y z c b a0 a1 a2 a3 s m) 32, ent (aF h u q y z c b a0 a1 a2 a3 s m) tc x0 32) := rfl
theorem we_33 {tc : Tc} {h u q y z c : Nat} {b a0 a1 a2 a3 s m : Nat → Nat} : (W0 tc h u q y z b a0 a1 a2 a3 s m)[35]? = some ((aF h u q y z c b a0 a1 a2 a3 s m) 33, ent (aF h u q y z c b a0 a1 a2 a3 s m) tc x0 33) := rfl
theorem we_34 {tc : Tc} {h u q y z c : Nat} {b a0 a1 a2 a3 s m : Nat → Nat} : (W0 tc h u q y z b a0 a1 a2 a3 s m)[36]? = some ((aF h u q y z c b a0 a1 a2 a3 s m) 34, ent (aF h u q y z c b a0 a1 a2 a3 s m) tc x0 34) := rfl
theorem we_35 {tc : Tc} {h u q y z c : Nat} {b a0 a1 a2 a3 s m : Nat → Nat} : (W0 tc h u q y z b a0 a1 a2 a3 s m)[37]? = some ((aF h u q y z c b a0 a1 a2 a3 s m) 35, ent (aF h u q y z c b a0 a1 a2 a3 s m) tc x0 35) := rfl
theorem we_36 {tc : Tc} {h u q y z c : Nat} {b a0 a1 a2 a3 s m : Nat → Nat} : (W0 tc h u q y z b a0 a1 a2 a3 s m)[38]? = some ((aF h u q y z c b a0 a1 a2 a3 s m) 36, ent (aF h u q y z c b a0 a1 a2 a3 s m) tc x0 36) := rfl
theorem we_37 {tc : Tc} {h u q y z c : Nat} {b a0 a1 a2 a3 s m : Nat → Nat} : (W0 tc h u q y z b a0 a1 a2 a3 s m)[39]? = some ((aF h u q y z c b a0 a1 a2 a3 s m) 37, ent (aF h u q y z c b a0 a1 a2 a3 s m) tc x0 37) := rfl
theorem we_38 {tc : Tc} {h u q y z c : Nat} {b a0 a1 a2 a3 s m : Nat → Nat} : (W0 tc h u q y z b a0 a1 a2 a3 s m)[40]? = some ((aF h u q y z c b a0 a1 a2 a3 s m) 38, ent (aF h u q y z c b a0 a1 a2 a3 s m) tc x0 38) := rfl
theorem we_39 {tc : Tc} {h u q y z c : Nat} {b a0 a1 a2 a3 s m : Nat → Nat} : (W0 tc h u q y z b a0 a1 a2 a3 s m)[41]? = some ((aF h u q y z c b a0 a1 a2 a3 s m) 39, ent (aF h u q y z c b a0 a1 a2 a3 s m) tc x0 39) := rfl
theorem we_40 {tc : Tc} {h u q y z c : Nat} {b a0 a1 a2 a3 s m : Nat → Nat} : (W0 tc h u q y z b a0 a1 a2 a3 s m)[42]? = some ((aF h u q y z c b a0 a1 a2 a3 s m) 40, ent (aF h u q y z c b a0 a1 a2 a3 s m) tc x0 40) := rfl
theorem we_41 {tc : Tc} {h u q y z c : Nat} {b a0 a1 a2 a3 s m : Nat → Nat} : (W0 tc h u q y z b a0 a1 a2 a3 s m)[43]? = some ((aF h u q y z c b a0 a1 a2 a3 s m) 41, ent (aF h u q y z c b a0 a1 a2 a3 s m) tc x0 41) := rfl
theorem we_42 {tc : Tc} {h u q y z c : Nat} {b a0 a1 a2 a3 s m : Nat → Nat} : (W0 tc h u q y z b a0 a1 a2 a3 s m)[44]? = some ((aF h u q y z c b a0 a1 a2 a3 s m) 42, ent (aF h u q y z c b a0 a1 a2 a3 s m) tc x0 42) := rfl
theorem we_43 {tc : Tc} {h u q y z c : Nat} {b a0 a1 a2 a3 s m : Nat → Nat} : (W0 tc h u q y z b a0 a1 a2 a3 s m)[45]? = some ((aF h u q y z c b a0 a1 a2 a3 s m) 43, ent (aF h u q y z c b a0 a1 a2 a3 s m) tc x0 43) := rfl
theorem we_44 {tc : Tc} {h u q y z c : Nat} {b a0 a1 a2 a3 s m : Nat → Nat} : (W0 tc h u q y z b a0 a1 a2 a3 s m)[46]? = some ((aF h u q y z c b a0 a1 a2 a3 s m) 44, ent (aF h u q y z c b a0 a1 a2 a3 s m) tc x0 44) := rfl
theorem we_45 {tc : Tc} {h u q y z c : Nat} {b a0 a1 a2 a3 s m : Nat → Nat} : (W0 tc h u q y z b a0 a1 a2 a3 s m)[47]? = some ((aF h u q y z c b a0 a1 a2 a3 s m) 45, ent (aF h u q y z c b a0 a1 a2 a3 s m) tc x0 45) := rfl
theorem we_46 {tc : Tc} {h u q y z c : Nat} {b a0 a1 a2 a3 s m : Nat → Nat} : (W0 tc h u q y z b a0 a1 a2 a3 s m)[48]? = some ((aF h u q y z c b a0 a1 a2 a3 s m) 46, ent (aF h u q y z c b a0 a1 a2 a3 s m) tc x0 46) := rfl
theorem we_47 {tc : Tc} {h u q y z c : Nat} {b a0 a1 a2 a3 s m : Nat → Nat} : (W0 tc h u q y z b a0 a1 a2 a3 s m)[49]? = some ((aF h u q y z c b a0 a1 a2 a3 s m) 47, ent (aF h u q y z c b a0 a1 a2 a3 s m) tc x0 47) := rfl
theorem we_48 {tc : Tc} {h u q y z c : Nat} {b a0 a1 a2 a3 s m : Nat → Nat} : (W0 tc h u q y z b a0 a1 a2 a3 s m)[50]? = some ((aF h u q y z c b a0 a1 a2 a3 s m) 48, ent (aF h u q y z c b a0 a1 a2 a3 s m) tc x0 48) := rfl
theorem we_49 {tc : Tc} {h u q y z c : Nat} {b a0 a1 a2 a3 s m : Nat → Nat} : (W0 tc h u q y z b a0 a1 a2 a3 s m)[51]? = some ((aF h u q y z c b a0 a1 a2 a3 s m) 49, ent (aF h u q y z c b a0 a1 a2 a3 s m) tc x0 49) := rfl
theorem we_50 {tc : Tc} {h u q y z c : Nat} {b a0 a1 a2 a3 s m : Nat → Nat} : (W0 tc h u q y z b a0 a1 a2 a3 s m)[52]? = some ((aF h u q y z c b a0 a1 a2 a3 s m) 50, ent (aF h u q y z c b a0 a1 a2 a3 s m) tc x0 50) := rfl
theorem we_51 {tc : Tc} {h u q y z c : Nat} {b a0 a1 a2 a3 s m : Nat → Nat} : (W0 tc h u q y z b a0 a1 a2 a3 s m)[53]? = some ((aF h u q y z c b a0 a1 a2 a3 s m) 51, ent (aF h u q y z c b a0 a1 a2 a3 s m) tc x0 51) := rfl
theorem we_52 {tc : Tc} {h u q y z c : Nat} {b a0 a1 a2 a3 s m : Nat → Nat} : (W0 tc h u q y z b a0 a1 a2 a3 s m)[54]? = some ((aF h u q y z c b a0 a1 a2 a3 s m) 52, ent (aF h u q y z c b a0 a1 a2 a3 s m) tc x0 52) := rfl
theorem we_53 {tc : Tc} {h u q y z c : Nat} {b a0 a1 a2 a3 s m : Nat → Nat} : (W0 tc h u q y z b a0 a1 a2 a3 s m)[55]? = some ((aF h u q y z c b a0 a1 a2 a3 s m) 53, ent (aF h u q y z c b a0 a1 a2 a3 s m) tc x0 53) := rfl
theorem we_54 {tc : Tc} {h u q y z c : Nat} {b a0 a1 a2 a3 s m : Nat → Nat} : (W0 tc h u q y z b a0 a1 a2 a3 s m)[56]? = some ((aF h u q y z c b a0 a1 a2 a3 s m) 54, ent (aF h u q y z c b a0 a1 a2 a3 s m) tc x0 54) := rfl
theorem we_55 {tc : Tc} {h u q y z c : Nat} {b a0 a1 a2 a3 s m : Nat → Nat} : (W0 tc h u q y z b a0 a1 a2 a3 s m)[57]? = some ((aF h u q y z c b a0 a1 a2 a3 s m) 55, ent (aF h u q y z c b a0 a1 a2 a3 s m) tc x0 55) := rfl
theorem we_56 {tc : Tc} {h u q y z c : Nat} {b a0 a1 a2 a3 s m : Nat → Nat} : (W0 tc h u q y z b a0 a1 a2 a3 s m)[58]? = some ((aF h u q y z c b a0 a1 a2 a3 s m) 56, ent (aF h u q y z c b a0 a1 a2 a3 s m) tc x0 56) := rfl
theorem we_57 {tc : Tc} {h u q y z c : Nat} {b a0 a1 a2 a3 s m : Nat → Nat} : (W0 tc h u q y z b a0 a1 a2 a3 s m)[59]? = some ((aF h u q y z c b a0 a1 a2 a3 s m) 57, ent (aF h u q y z c b a0 a1 a2 a3 s m) tc x0 57) := rfl
theorem we_58 {tc : Tc} {h u q y z c : Nat} {b a0 a1 a2 a3 s m : Nat → Nat} : (W0 tc h u q y z b a0 a1 a2 a3 s m)[60]? = some ((aF h u q y z c b a0 a1 a2 a3 s m) 58, ent (aF h u q y z c b a0 a1 a2 a3 s m) tc x0 58) := rfl
theorem we_59 {tc : Tc} {h u q y z c : Nat} {b a0 a1 a2 a3 s m : Nat → Nat} : (W0 tc h u q y z b a0 a1 a2 a3 s m)[61]? = some ((aF h u q y z c b a0 a1 a2 a3 s m) 59, ent (aF h u q y z c b a0 a1 a2 a3 s m) tc x0 59) := rfl
theorem we_60 {tc : Tc} {h u q y z c : Nat} {b a0 a1 a2 a3 s m : Nat → Nat} : (W0 tc h u q y z b a0 a1 a2 a3 s m)[62]? = some ((aF h u q y z c b a0 a1 a2 a3 s m) 60, ent (aF h u q y z c b a0 a1 a2 a3 s m) tc x0 60) := rfl
theorem we_61 {tc : Tc} {h u q y z c : Nat} {b a0 a1 a2 a3 s m : Nat → Nat} : (W0 tc h u q y z b a0 a1 a2 a3 s m)[63]? = some ((aF h u q y z c b a0 a1 a2 a3 s m) 61, ent (aF h u q y z c b a0 a1 a2 a3 s m) tc x0 61) := rfl
theorem we_62 {tc : Tc} {h u q y z c : Nat} {b a0 a1 a2 a3 s m : Nat → Nat} : (W0 tc h u q y z b a0 a1 a2 a3 s m)[64]? = some ((aF h u q y z c b a0 a1 a2 a3 s m) 62, ent (aF h u q y z c b a0 a1 a2 a3 s m) tc x0 62) := rfl
theorem we_63 {tc : Tc} {h u q y z c : Nat} {b a0 a1 a2 a3 s m : Nat → Nat} : (W0 tc h u q y z b a0 a1 a2 a3 s m)[65]? = some ((aF h u q y z c b a0 a1 a2 a3 s m) 63, ent (aF h u q y z c b a0 a1 a2 a3 s m) tc x0 63) := rfl
theorem we_64 {tc : Tc} {h u q y z c : Nat} {b a0 a1 a2 a3 s m : Nat → Nat} : (W0 tc h u q y z b a0 a1 a2 a3 s m)[66]? = some ((aF h u q y z c b a0 a1 a2 a3 s m) 64, ent (aF h u q y z c b a0 a1 a2 a3 s m) tc x0 64) := rfl
theorem we_65 {tc : Tc} {h u q y z c : Nat} {b a0 a1 a2 a3 s m : Nat → Nat} : (W0 tc h u q y z b a0 a1 a2 a3 s m)[67]? = some ((aF h u q y z c b a0 a1 a2 a3 s m) 65, ent (aF h u q y z c b a0 a1 a2 a3 s m) tc x0 65) := rfl
theorem we_66 {tc : Tc} {h u q y z c : Nat} {b a0 a1 a2 a3 s m : Nat → Nat} : (W0 tc h u q y z b a0 a1 a2 a3 s m)[68]? = some ((aF h u q y z c b a0 a1 a2 a3 s m) 66, ent (aF h u q y z c b a0 a1 a2 a3 s m) tc x0 66) := rfl
theorem we_67 {tc : Tc} {h u q y z c : Nat} {b a0 a1 a2 a3 s m : Nat → Nat} : (W0 tc h u q y z b a0 a1 a2 a3 s m)[69]? = some ((aF h u q y z c b a0 a1 a2 a3 s m) 67, ent (aF h u q y z c b a0 a1 a2 a3 s m) tc x0 67) := rfl
theorem we_68 {tc : Tc} {h u q y z c : Nat} {b a0 a1 a2 a3 s m : Nat → Nat} : (W0 tc h u q y z b a0 a1 a2 a3 s m)[70]? = some ((aF h u q y z c b a0 a1 a2 a3 s m) 68, ent (aF h u q y z c b a0 a1 a2 a3 s m) tc x0 68) := rfl
theorem we_69 {tc : Tc} {h u q y z c : Nat} {b a0 a1 a2 a3 s m : Nat → Nat} : (W0 tc h u q y z b a0 a1 a2 a3 s m)[71]? = some ((aF h u q y z c b a0 a1 a2 a3 s m) 69, ent (aF h u q y z c b a0 a1 a2 a3 s m) tc x0 69) := rfl
theorem we_70 {tc : Tc} {h u q y z c : Nat} {b a0 a1 a2 a3 s m : Nat → Nat} : (W0 tc h u q y z b a0 a1 a2 a3 s m)[72]? = some ((aF h u q y z c b a0 a1 a2 a3 s m) 70, ent (aF h u q y z c b a0 a1 a2 a3 s m) tc x0 70) := rfl
theorem we_71 {tc : Tc} {h u q y z c : Nat} {b a0 a1 a2 a3 s m : Nat → Nat} : (W0 tc h u q y z b a0 a1 a2 a3 s m)[73]? = some ((aF h u q y z c b a0 a1 a2 a3 s m) 71, ent (aF h u q y z c b a0 a1 a2 a3 s m) tc x0 71) := rfl
theorem we_72 {tc : Tc} {h u q y z c : Nat} {b a0 a1 a2 a3 s m : Nat → Nat} : (W0 tc h u q y z b a0 a1 a2 a3 s m)[74]? = some ((aF h u q y z c b a0 a1 a2 a3 s m) 72, ent (aF h u q y z c b a0 a1 a2 a3 s m) tc x0 72) := rfl
theorem we_73 {tc : Tc} {h u q y z c : Nat} {b a0 a1 a2 a3 s m : Nat → Nat} : (W0 tc h u q y z b a0 a1 a2 a3 s m)[75]? = some ((aF h u q y z c b a0 a1 a2 a3 s m) 73, ent (aF h u q y z c b a0 a1 a2 a3 s m) tc x0 73) := rfl
theorem we_74 {tc : Tc} {h u q y z c : Nat} {b a0 a1 a2 a3 s m : Nat → Nat} : (W0 tc h u q y z b a0 a1 a2 a3 s m)[76]? = some ((aF h u q y z c b a0 a1 a2 a3 s m) 74, ent (aF h u q y z c b a0 a1 a2 a3 s m) tc x0 74) := rfl
theorem we_75 {tc : Tc} {h u q y z c : Nat} {b a0 a1 a2 a3 s m : Nat → Nat} : (W0 tc h u q y z b a0 a1 a2 a3 s m)[77]? = some ((aF h u q y z c b a0 a1 a2 a3 s m) 75, ent (aF h u q y z c b a0 a1 a2 a3 s m) tc x0 75) := rfl
theorem we_76 {tc : Tc} {h u q y z c : Nat} {b a0 a1 a2 a3 s m : Nat → Nat} : (W0 tc h u q y z b a0 a1 a2 a3 s m)[16]? = some ((aF h u q y z c b a0 a1 a2 a3 s m) 76, ent (aF h u q y z c b a0 a1 a2 a3 s m) tc x0 76) := rfl
theorem we_78 {tc : Tc} {h u q y z c : Nat} {b a0 a1 a2 a3 s m : Nat → Nat} : (W0 tc h u q y z b a0 a1 a2 a3 s m)[78]? = some ((aF h u q y z c b a0 a1 a2 a3 s m) 78, ent (aF h u q y z c b a0 a1 a2 a3 s m) tc x0 78) := rfl
theorem we_79 {tc : Tc} {h u q y z c : Nat} {b a0 a1 a2 a3 s m : Nat → Nat} : (W0 tc h u q y z b a0 a1 a2 a3 s m)[79]? = some ((aF h u q y z c b a0 a1 a2 a3 s m) 79, ent (aF h u q y z c b a0 a1 a2 a3 s m) tc x0 79) := rfl
theorem we_80 {tc : Tc} {h u q y z c : Nat} {b a0 a1 a2 a3 s m : Nat → Nat} : (W0 tc h u q y z b a0 a1 a2 a3 s m)[80]? = some ((aF h u q y z c b a0 a1 a2 a3 s m) 80, ent (aF h u q y z c b a0 a1 a2 a3 s m) tc x0 80) := rfl
theorem we_81 {tc : Tc} {h u q y z c : Nat} {b a0 a1 a2 a3 s m : Nat → Nat} : (W0 tc h u q y z b a0 a1 a2 a3 s m)[81]? = some ((aF h u q y z c b a0 a1 a2 a3 s m) 81, ent (aF h u q y z c b a0 a1 a2 a3 s m) tc x0 81) := rfl
theorem we_82 {tc : Tc} {h u q y z c : Nat} {b a0 a1 a2 a3 s m : Nat → Nat} : (W0 tc h u q y z b a0 a1 a2 a3 s m)[82]? = some ((aF h u q y z c b a0 a1 a2 a3 s m) 82, ent (aF h u q y z c b a0 a1 a2 a3 s m) tc x0 82) := rfl
theorem we_83 {tc : Tc} {h u q y z c : Nat} {b a0 a1 a2 a3 s m : Nat → Nat} : (W0 tc h u q y z b a0 a1 a2 a3 s m)[83]? = some ((aF h u q y z c b a0 a1 a2 a3 s m) 83, ent (aF h u q y z c b a0 a1 a2 a3 s m) tc x0 83) := rfl
theorem we_84 {tc : Tc} {h u q y z c : Nat} {b a0 a1 a2 a3 s m : Nat → Nat} : (W0 tc h u q y z b a0 a1 a2 a3 s m)[84]? = some ((aF h u q y z c b a0 a1 a2 a3 s m) 84, ent (aF h u q y z c b a0 a1 a2 a3 s m) tc x0 84) := rfl
theorem we_85 {tc : Tc} {h u q y z c : Nat} {b a0 a1 a2 a3 s m : Nat → Nat} : (W0 tc h u q y z b a0 a1 a2 a3 s m)[85]? = some ((aF h u q y z c b a0 a1 a2 a3 s m) 85, ent (aF h u q y z c b a0 a1 a2 a3 s m) tc x0 85) := rfl
theorem we_86 {tc : Tc} {h u q y z c : Nat} {b a0 a1 a2 a3 s m : Nat → Nat} : (W0 tc h u q y z b a0 a1 a2 a3 s m)[86]? = some ((aF h u q y z c b a0 a1 a2 a3 s m) 86, ent (aF h u q y z c b a0 a1 a2 a3 s m) tc x0 86) := rfl
theorem we_87 {tc : Tc} {h u q y z c : Nat} {b a0 a1 a2 a3 s m : Nat → Nat} : (W0 tc h u q y z b a0 a1 a2 a3 s m)[87]? = some ((aF h u q y z c b a0 a1 a2 a3 s m) 87, ent (aF h u q y z c b a0 a1 a2 a3 s m) tc x0 87) := rfl
theorem we_88 {tc : Tc} {h u q y z c : Nat} {b a0 a1 a2 a3 s m : Nat → Nat} : (W0 tc h u q y z b a0 a1 a2 a3 s m)[88]? = some ((aF h u q y z c b a0 a1 a2 a3 s m) 88, ent (aF h u q y z c b a0 a1 a2 a3 s m) tc x0 88) := rfl
theorem we_89 {tc : Tc} {h u q y z c : Nat} {b a0 a1 a2 a3 s m : Nat → Nat} : (W0 tc h u q y z b a0 a1 a2 a3 s m)[89]? = some ((aF h u q y z c b a0 a1 a2 a3 s m) 89, ent (aF h u q y z c b a0 a1 a2 a3 s m) tc x0 89) := rfl
theorem we_90 {tc : Tc} {h u q y z c : Nat} {b a0 a1 a2 a3 s m : Nat → Nat} : (W0 tc h u q y z b a0 a1 a2 a3 s m)[90]? = some ((aF h u q y z c b a0 a1 a2 a3 s m) 90, ent (aF h u q y z c b a0 a1 a2 a3 s m) tc x0 90) := rfl
theorem we_91 {tc : Tc} {h u q y z c : Nat} {b a0 a1 a2 a3 s m : Nat → Nat} : (W0 tc h u q y z b a0 a1 a2 a3 s m)[91]? = some ((aF h u q y z c b a0 a1 a2 a3 s m) 91, ent (aF h u q y z c b a0 a1 a2 a3 s m) tc x0 91) := rfl
theorem we_92 {tc : Tc} {h u q y z c : Nat} {b a0 a1 a2 a3 s m : Nat → Nat} : (W0 tc h u q y z b a0 a1 a2 a3 s m)[92]? = some ((aF h u q y z c b a0 a1 a2 a3 s m) 92, ent (aF h u q y z c b a0 a1 a2 a3 s m) tc x0 92) := rfl
theorem we_93 {tc : Tc} {h u q y z c : Nat} {b a0 a1 a2 a3 s m : Nat → Nat} : (W0 tc h u q y z b a0 a1 a2 a3 s m)[93]? = some ((aF h u q y z c b a0 a1 a2 a3 s m) 93, ent (aF h u q y z c b a0 a1 a2 a3 s m) tc x0 93) := rfl
theorem we_94 {tc : Tc} {h u q y z c : Nat} {b a0 a1 a2 a3 s m : Nat → Nat} : (W0 tc h u q y z b a0 a1 a2 a3 s m)[94]? = some ((aF h u q y z c b a0 a1 a2 a3 s m) 94, ent (aF h u q y z c b a0 a1 a2 a3 s m) tc x0 94) := rfl
theorem we_95 {tc : Tc} {h u q y z c : Nat} {b a0 a1 a2 a3 s m : Nat → Nat} : (W0 tc h u q y z b a0 a1 a2 a3 s m)[95]? = some ((aF h u q y z c b a0 a1 a2 a3 s m) 95, ent (aF h u q y z c b a0 a1 a2 a3 s m) tc x0 95) := rfl
theorem we_77 {tc : Tc} {h u q y z c : Nat} {b a0 a1 a2 a3 s m : Nat → Nat} : (W0 tc h u q y z b a0 a1 a2 a3 s m)[17]? = some ((aF h u q y z c b a0 a1 a2 a3 s m) 77, .inl (tc 3, 4, .inr (.inr (.inr (.inr (q4 (a0 0) (a1 0) (a2 0) (a3 0))))))) := rfl
theorem we_all {tc : Tc} {h u q y z c : Nat} {b a0 a1 a2 a3 s m : Nat → Nat} {k : Nat} (hk : k < 96) (h7 : k ≠ 77) : (W0 tc h u q y z b a0 a1 a2 a3 s m)[piF k]? = some ((aF h u q y z c b a0 a1 a2 a3 s m) k, ent (aF h u q y z c b a0 a1 a2 a3 s m) tc x0 k) := by
  match k, hk, h7 with
  | 0, _, _ => exact we_0
  | 1, _, _ => exact we_1
  | 2, _, _ => exact we_2
  | 3, _, _ => exact we_3
  | 4, _, _ => exact we_4
  | 5, _, _ => exact we_5
  | 6, _, _ => exact we_6
  | 7, _, _ => exact we_7
  | 8, _, _ => exact we_8
  | 9, _, _ => exact we_9
  | 10, _, _ => exact we_10
  | 11, _, _ => exact we_11
  | 12, _, _ => exact we_12
  | 13, _, _ => exact we_13
  | 14, _, _ => exact we_14
  | 15, _, _ => exact we_15
  | 16, _, _ => exact we_16
  | 17, _, _ => exact we_17
  | 18, _, _ => exact we_18
  | 19, _, _ => exact we_19
  | 20, _, _ => exact we_20
  | 21, _, _ => exact we_21
  | 22, _, _ => exact we_22
  | 23, _, _ => exact we_23
  | 24, _, _ => exact we_24
  | 25, _, _ => exact we_25
  | 26, _, _ => exact we_26
  | 27, _, _ => exact we_27
  | 28, _, _ => exact we_28
  | 29, _, _ => exact we_29
  | 30, _, _ => exact we_30
  | 31, _, _ => exact we_31
  | 32, _, _ => exact we_32
  | 33, _, _ => exact we_33
  | 34, _, _ => exact we_34
  | 35, _, _ => exact we_35
  | 36, _, _ => exact we_36
  | 37, _, _ => exact we_37
  | 38, _, _ => exact we_38
  | 39, _, _ => exact we_39
  | 40, _, _ => exact we_40
  | 41, _, _ => exact we_41
  | 42, _, _ => exact we_42
  | 43, _, _ => exact we_43
  | 44, _, _ => exact we_44
  | 45, _, _ => exact we_45
  | 46, _, _ => exact we_46
  | 47, _, _ => exact we_47
  | 48, _, _ => exact we_48
  | 49, _, _ => exact we_49
  | 50, _, _ => exact we_50
  | 51, _, _ => exact we_51
  | 52, _, _ => exact we_52
  | 53, _, _ => exact we_53
  | 54, _, _ => exact we_54
  | 55, _, _ => exact we_55
  | 56, _, _ => exact we_56
  | 57, _, _ => exact we_57
  | 58, _, _ => exact we_58
  | 59, _, _ => exact we_59
  | 60, _, _ => exact we_60
  | 61, _, _ => exact we_61
  | 62, _, _ => exact we_62
  | 63, _, _ => exact we_63
  | 64, _, _ => exact we_64
  | 65, _, _ => exact we_65
  | 66, _, _ => exact we_66
  | 67, _, _ => exact we_67
  | 68, _, _ => exact we_68
  | 69, _, _ => exact we_69
  | 70, _, _ => exact we_70
  | 71, _, _ => exact we_71
  | 72, _, _ => exact we_72
  | 73, _, _ => exact we_73
  | 74, _, _ => exact we_74
  | 75, _, _ => exact we_75
  | 76, _, _ => exact we_76
  | 78, _, _ => exact we_78
  | 79, _, _ => exact we_79
  | 80, _, _ => exact we_80
  | 81, _, _ => exact we_81
  | 82, _, _ => exact we_82
  | 83, _, _ => exact we_83
  | 84, _, _ => exact we_84
  | 85, _, _ => exact we_85
  | 86, _, _ => exact we_86
  | 87, _, _ => exact we_87
  | 88, _, _ => exact we_88
  | 89, _, _ => exact we_89
  | 90, _, _ => exact we_90
  | 91, _, _ => exact we_91
  | 92, _, _ => exact we_92
  | 93, _, _ => exact we_93
  | 94, _, _ => exact we_94
  | 95, _, _ => exact we_95
  | 77, _, z => exact absurd rfl z
  | k + 96, z, _ => exact absurd z (by omega)
theorem arrV_eq {c : ClassId} {n : Nat} {f g : Nat → Value} (h : ∀ j, j < n → f j = g j) : arrV c n f = arrV c n g := by
  unfold arrV
  have e : (Array.ofFn (n := n) fun j => f j.val) = Array.ofFn (n := n) fun j => g j.val := congrArg _ (funext fun j => h j.val j.isLt)
  rw [e]
theorem q4_eq {a b c d : Nat} {f : Nat → Nat} (h0 : f 0 = a) (h1 : f 1 = b) (h2 : f 2 = c) (h3 : f 3 = d) : ∀ j, j < 4 → q4 a b c d j = some (f j) := by
  intro j hj
  match j, hj with
  | 0, _ => rw [h0]; rfl
  | 1, _ => rw [h1]; rfl
  | 2, _ => rw [h2]; rfl
  | 3, _ => rw [h3]; rfl
  | j + 4, z => exact absurd z (by omega)
theorem we_ex {tc : Tc} {h u q y z c : Nat} {b a0 a1 a2 a3 s m : Nat → Nat} {k : Nat} (hk : k < 96) : ∃ E, (W0 tc h u q y z b a0 a1 a2 a3 s m)[piF k]? = some ((aF h u q y z c b a0 a1 a2 a3 s m) k, E) := by
  by_cases h7 : k = 77
  · subst h7
    exact ⟨_, we_77⟩
  · exact ⟨_, we_all hk h7⟩
theorem w0_P {tc : Tc} {h u q y z c : Nat} {b a0 a1 a2 a3 s m : Nat → Nat} {G : va_G} {H : Heap} (hP : va_P G vwCl (W0 tc h u q y z b a0 a1 a2 a3 s m) H) : va_P G vwCl (wd (aF h u q y z c b a0 a1 a2 a3 s m) tc x0) H := by
  intro k x hx
  obtain ⟨hk, rfl⟩ := wd_some hx
  by_cases h7 : k = 77
  · subst h7
    have e : H[(aF h u q y z c b a0 a1 a2 a3 s m) 77]? = some (vp_cell (tc 3) (4, .inr (.inr (.inr (.inr (q4 (a0 0) (a1 0) (a2 0) (a3 0))))))) := hP 17 _ (we_77 (c := c))
    show H[(aF h u q y z c b a0 a1 a2 a3 s m) 77]? = some (vp_cell (tc 3) (4, .inr (.inr (.inr (.inr (fun j => some ((aF h u q y z c b a0 a1 a2 a3 s m) (16 + 15 * j))))))))
    rw [e, vp_cell_q, vp_cell_q]
    exact congrArg some (arrV_eq (fun j hj => congrArg va_rf (q4_eq (a := a0 0) (b := a1 0) (c := a2 0) (d := a3 0) (f := fun j => (aF h u q y z c b a0 a1 a2 a3 s m) (16 + 15 * j)) rfl rfl rfl rfl j hj)))
  · exact hP (piF k) _ (we_all hk h7)
theorem w0_D {tc : Tc} {h u q y z c : Nat} {b a0 a1 a2 a3 s m : Nat → Nat} {B : Nat → Prop} (hD : va_D B (W0 tc h u q y z b a0 a1 a2 a3 s m)) : va_D B (wd (aF h u q y z c b a0 a1 a2 a3 s m) tc x0) := by
  refine ⟨fun i j p r hi hj e => ?_, fun k x hx => ?_⟩
  · obtain ⟨h1, rfl⟩ := wd_some hi
    obtain ⟨h2, rfl⟩ := wd_some hj
    obtain ⟨E1, e1⟩ := we_ex (tc := tc) (h := h) (u := u) (q := q) (y := y) (z := z) (c := c) (b := b) (a0 := a0) (a1 := a1) (a2 := a2) (a3 := a3) (s := s) (m := m) h1
    obtain ⟨E2, e2⟩ := we_ex (tc := tc) (h := h) (u := u) (q := q) (y := y) (z := z) (c := c) (b := b) (a0 := a0) (a1 := a1) (a2 := a2) (a3 := a3) (s := s) (m := m) h2
    have e3 := hD.1 _ _ _ _ e1 e2 e
    unfold piF at e3
    (repeat' split at e3) <;> omega
  · obtain ⟨h1, rfl⟩ := wd_some hx
    obtain ⟨E1, e1⟩ := we_ex (tc := tc) (h := h) (u := u) (q := q) (y := y) (z := z) (c := c) (b := b) (a0 := a0) (a1 := a1) (a2 := a2) (a3 := a3) (s := s) (m := m) h1
    have e3 := hD.2 _ _ e1
    exact e3
