/-! bits of the masks -/
theorem sh_nat : ∀ j : Nat, j < 12 → ((nI j &&& 31).toBitVec.smod 32).toNat = j := by decide +kernel
theorem bS_iff {m : Int32} {j : Nat} (h : j < 12) : bS m j ↔ m.toBitVec.getLsbD j = true := by
  have e1 : (m >>> (nI j &&& 31)).toBitVec = m.toBitVec.sshiftRight j := by
    show m.toBitVec.sshiftRight (((nI j &&& 31).toBitVec.smod 32).toNat) = _
    rw [sh_nat j h]
  have e2 : ((m >>> (nI j &&& 31)) &&& 1 = 0) ↔ m.toBitVec.getLsbD j = false := by
    rw [← Int32.toBitVec_inj]
    have : ((m >>> (nI j &&& 31)) &&& 1).toBitVec = m.toBitVec.sshiftRight j &&& 1#32 := by
      rw [Int32.toBitVec_and, e1]; rfl
    rw [this]
    show _ = 0#32 ↔ _
    constructor
    · intro q
      have := congrArg (fun b : BitVec 32 => b.getLsbD 0) q
      simp only [BitVec.getLsbD_and, BitVec.getLsbD_sshiftRight] at this
      simpa [show j < 32 by omega] using this
    · intro q
      apply BitVec.eq_of_getLsbD_eq
      intro i hi
      rw [BitVec.getLsbD_and, BitVec.getLsbD_sshiftRight]
      cases i with
      | zero => rw [if_pos (show j + 0 < 32 by omega), show m.toBitVec.getLsbD (j + 0) = false from q]; rfl
      | succ i => simp
  unfold bS
  rw [e2]
  cases m.toBitVec.getLsbD j <;> simp
theorem bit1 : ∀ r, r < 12 → ∀ k, k < 12 → (1 <<< (nI r &&& 31) : Int32).toBitVec.getLsbD k = decide (k = r) := by decide +kernel
theorem bit2 : ∀ r, r < 12 → ∀ k, k < 12 → ((1 <<< (nI r &&& 31) : Int32) ^^^ -1).toBitVec.getLsbD k = !decide (k = r) := by decide +kernel
theorem bit3 : ∀ r, r < 12 → ∀ k, k < 32 → 12 ≤ k → (1 <<< (nI r &&& 31) : Int32).toBitVec.getLsbD k = false := by decide +kernel
theorem bS_or {m : Int32} {r k : Nat} (hr : r < 12) (hk : k < 12) : bS (m ||| (1 <<< (nI r &&& 31))) k ↔ bS m k ∨ k = r := by
  rw [bS_iff hk, bS_iff hk, Int32.toBitVec_or, BitVec.getLsbD_or, bit1 r hr k hk]
  simp
theorem bS_clr {m : Int32} {r k : Nat} (hr : r < 12) (hk : k < 12) : bS (m &&& ((1 <<< (nI r &&& 31)) ^^^ -1)) k ↔ bS m k ∧ ¬ k = r := by
  rw [bS_iff hk, bS_iff hk, Int32.toBitVec_and, BitVec.getLsbD_and, bit2 r hr k hk]
  simp
theorem bS_bit {r k : Nat} (hr : r < 12) (hk : k < 12) : bS (1 <<< (nI r &&& 31)) k ↔ k = r := by
  rw [bS_iff hk, bit1 r hr k hk]
  simp
theorem bS_0 {k : Nat} (hk : k < 12) : ¬ bS 0 k := by
  rw [bS_iff hk]
  simp
/-- a mask of the lines below n -/
def M12 (m : Int32) (n : Nat) : Prop := ∀ j, n ≤ j → m.toBitVec.getLsbD j = false
theorem M12_0 {n : Nat} : M12 0 n := fun j _ => by simp
theorem M12_or {m : Int32} {n r : Nat} (h : M12 m n) (hr : r < n) (hn : n ≤ 12) : M12 (m ||| (1 <<< (nI r &&& 31))) n := by
  intro j hj
  rw [Int32.toBitVec_or, BitVec.getLsbD_or, h j hj, Bool.false_or]
  by_cases h12 : j < 12
  · rw [bit1 r (by omega) j h12]; exact decide_eq_false (by omega)
  · by_cases h32 : j < 32
    · exact bit3 r (by omega) j h32 (by omega)
    · exact BitVec.getLsbD_of_ge _ _ (by omega)
theorem M12_and {m k : Int32} {n : Nat} (h : M12 m n) : M12 (m &&& k) n := by
  intro j hj
  rw [Int32.toBitVec_and, BitVec.getLsbD_and, h j hj, Bool.false_and]
theorem M12_or2 {m k : Int32} {n : Nat} (h : M12 m n) (hk : M12 k n) : M12 (m ||| k) n := by
  intro j hj
  rw [Int32.toBitVec_or, BitVec.getLsbD_or, h j hj, hk j hj, Bool.false_or]
theorem M12_bit {n r : Nat} (hr : r < n) (hn : n ≤ 12) : M12 (1 <<< (nI r &&& 31)) n := by
  intro j hj
  by_cases h12 : j < 12
  · rw [bit1 r (by omega) j h12]; exact decide_eq_false (by omega)
  · by_cases h32 : j < 32
    · exact bit3 r (by omega) j h32 (by omega)
    · exact BitVec.getLsbD_of_ge _ _ (by omega)
theorem M12_le {m : Int32} {n k : Nat} (h : M12 m n) (hk : n ≤ k) : M12 m k := fun j hj => h j (by omega)
theorem M12_eq {m k : Int32} {n : Nat} (hn : n ≤ 12) (h : M12 m n) (h2 : M12 k n) (h3 : ∀ j, j < n → (bS m j ↔ bS k j)) : m = k := by
  apply Int32.toBitVec_inj.mp
  apply BitVec.eq_of_getLsbD_eq
  intro i hi
  by_cases q : i < n
  · have := h3 i q
    rw [bS_iff (by omega), bS_iff (by omega)] at this
    exact Bool.eq_iff_iff.mpr this
  · rw [h i (by omega), h2 i (by omega)]
theorem and_0 {m k : Int32} {n : Nat} (hn : n ≤ 12) (h : M12 m n) : m &&& k = 0 ↔ ∀ j, j < n → ¬ (bS m j ∧ bS k j) := by
  constructor
  · intro q j hj ⟨h1, h2⟩
    rw [bS_iff (by omega)] at h1 h2
    have := congrArg (fun b : Int32 => b.toBitVec.getLsbD j) q
    simp only [Int32.toBitVec_and, BitVec.getLsbD_and, h1, h2] at this
    simp at this
  · intro q
    refine M12_eq hn (M12_and h) M12_0 (fun j hj => ?_)
    refine ⟨fun z => absurd ?_ (q j hj), fun z => absurd z (bS_0 (by omega))⟩
    rw [bS_iff (by omega), Int32.toBitVec_and, BitVec.getLsbD_and, Bool.and_eq_true] at z
    exact ⟨(bS_iff (by omega)).mpr z.1, (bS_iff (by omega)).mpr z.2⟩
/-- the reference's gathered mask -/
theorem bit4 : ∀ r, r < 12 → ((if True then (1 : Int32) else 0) <<< (nI r &&& 31)) = 1 <<< (nI r &&& 31) := by decide +kernel
theorem bit5 : ∀ r, r < 12 → ((0 : Int32) <<< (nI r &&& 31)) = 0 := by decide +kernel
theorem oM_bits {x : Hp} {om : Int32} {n : Nat} (hn : n ≤ 12) (h : ∀ k, k < n → x.1 84 (2 + 9 * k + 8) = (if bS om k then 1 else 0)) : ∀ j, j ≤ n → M12 (oM x j) j ∧ ∀ k, k < j → (bS (oM x j) k ↔ bS om k) := by
  intro j
  induction j with
  | zero => exact fun _ => ⟨M12_0, fun k hk => absurd hk (by omega)⟩
  | succ j ih =>
    intro hj
    obtain ⟨h1, h2⟩ := ih (by omega)
    have e : oM x (j + 1) = oM x j ||| ((if bS om j then 1 else 0) <<< (nI j &&& 31)) := by
      show oM x j ||| (x.1 84 (2 + 9 * j + 8) <<< (nI j &&& 31)) = _
      rw [h j (by omega)]
    by_cases hb : bS om j
    · rw [if_pos hb] at e
      rw [e]
      refine ⟨M12_or (M12_le h1 (by omega)) (by omega) (by omega), fun k hk => ?_⟩
      rw [bS_or (by omega) (by omega)]
      by_cases hkj : k = j
      · subst hkj; exact ⟨fun _ => hb, fun _ => Or.inr rfl⟩
      · rw [← h2 k (by omega)]
        exact ⟨fun q => q.elim id (fun q => absurd q hkj), Or.inl⟩
    · rw [if_neg hb, bit5 j (by omega), Int32.or_zero] at e
      rw [e]
      refine ⟨M12_le h1 (by omega), fun k hk => ?_⟩
      by_cases hkj : k = j
      · subst hkj
        refine ⟨fun q => ?_, fun q => absurd q hb⟩
        rw [bS_iff (by omega), h1 k (Nat.le_refl _)] at q
        cases q
      · exact h2 k (by omega)
theorem oM_is {x : Hp} {om : Int32} {n : Nat} (hn : n ≤ 12) (hm : M12 om n) (h : ∀ k, k < n → x.1 84 (2 + 9 * k + 8) = (if bS om k then 1 else 0)) : oM x n = om := by
  obtain ⟨h1, h2⟩ := oM_bits hn h n (Nat.le_refl _)
  exact M12_eq hn h1 hm h2
