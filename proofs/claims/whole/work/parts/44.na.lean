/-! doubles as numbers: their bits, their values in units of 2^-1074, rounding -/
theorem zf_nlo {m N D : Nat} (hD : 0 < D) (h : m * D ≤ N) : m ≤ FP.Core.nearest N D := by
  have h1 : m ≤ N / D := (Nat.le_div_iff_mul_le hD).mpr h
  unfold FP.Core.nearest
  split
  · exact h1
  · split
    · omega
    · omega
theorem zf_nhi {m N D : Nat} (hD : 0 < D) (h : N ≤ m * D) : FP.Core.nearest N D ≤ m := by
  have h0 : N / D * D ≤ N := Nat.div_mul_le_self N D
  have h1 : N / D ≤ m := Nat.le_of_mul_le_mul_right (Nat.le_trans h0 h) hD
  unfold FP.Core.nearest
  rcases Nat.eq_or_lt_of_le h1 with q | q
  · have h2 : N = N / D * D := Nat.le_antisymm (by rw [q]; exact h) h0
    have h3 : N % D = 0 := by rw [h2]; exact Nat.mul_mod_left _ D
    rw [h3, if_pos (by omega)]; exact h1
  · split
    · omega
    · split
      · omega
      · omega
theorem zf_nmul {N D t : Nat} (ht : 0 < t) : FP.Core.nearest (N * t) (D * t) = FP.Core.nearest N D := by
  unfold FP.Core.nearest
  have a : (2 * (N % D * t) < D * t) = (2 * (N % D) < D) := by
    rw [← Nat.mul_assoc]; exact propext (Nat.mul_lt_mul_right ht)
  have b : (D * t < 2 * (N % D * t)) = (D < 2 * (N % D)) := by
    rw [← Nat.mul_assoc]; exact propext (Nat.mul_lt_mul_right ht)
  rw [Nat.mul_div_mul_right N D ht, Nat.mul_mod_mul_right]
  simp only [a, b]
theorem zf_ncr {N D M E : Nat} (hD : 0 < D) (hE : 0 < E) (h : N * E = M * D) : FP.Core.nearest N D = FP.Core.nearest M E := by
  have a : FP.Core.nearest (N * E) (D * E) = FP.Core.nearest N D := zf_nmul hE
  have b : FP.Core.nearest (M * D) (E * D) = FP.Core.nearest M E := zf_nmul hD
  rw [← a, ← b, h, Nat.mul_comm D E]
def zf_k (b : Nat) : Nat := b / 4503599627370496 - 1
def zf_m (b : Nat) : Nat := b - zf_k b * 4503599627370496
/-- the value of the bits b, in units of 2^-1074 -/
def zf_v (b : Nat) : Nat := zf_m b * 2 ^ zf_k b
def zf_rk (N D : Nat) : Nat := (N / D).log2 - 52
/-- the bits of N / D, rounded -/
def zf_rb (N D : Nat) : Nat := zf_rk N D * 4503599627370496 + FP.Core.nearest N (D * 2 ^ zf_rk N D)
theorem zf_f (b : Nat) : b = zf_k b * 4503599627370496 + zf_m b ∧ zf_m b < 9007199254740992 ∧ (0 < zf_k b → 4503599627370496 ≤ zf_m b) := by
  unfold zf_m zf_k; omega
theorem zf_kA {N D : Nat} (hk : 0 < zf_rk N D) : 4503599627370496 * (D * 2 ^ zf_rk N D) ≤ N := by
  have h3 : N / D * D ≤ N := Nat.div_mul_le_self N D
  unfold zf_rk at *
  have hQ : N / D ≠ 0 := by
    intro h
    rw [h, Nat.log2_zero] at hk
    exact absurd hk (by decide)
  have h1 := Nat.log2_self_le hQ
  obtain ⟨l, hl⟩ : ∃ l, l = (N / D).log2 := ⟨_, rfl⟩
  rw [← hl] at h1 hk ⊢
  have h2 : 2 ^ l = 4503599627370496 * 2 ^ (l - 52) := by
    rw [show (4503599627370496 : Nat) = 2 ^ 52 by decide, ← Nat.pow_add]
    congr 1; omega
  rw [h2] at h1
  rw [show 4503599627370496 * (D * 2 ^ (l - 52)) = 4503599627370496 * 2 ^ (l - 52) * D by rw [Nat.mul_comm D, Nat.mul_assoc]]
  exact Nat.le_trans (Nat.mul_le_mul_right D h1) h3
theorem zf_kB {N D : Nat} (hD : 0 < D) : N < 9007199254740992 * (D * 2 ^ zf_rk N D) := by
  unfold zf_rk
  have h1 : N / D < 2 ^ ((N / D).log2 + 1) := Nat.lt_log2_self
  obtain ⟨l, hl⟩ : ∃ l, l = (N / D).log2 := ⟨_, rfl⟩
  rw [← hl] at h1 ⊢
  have h2 : 2 ^ (l + 1) ≤ 9007199254740992 * 2 ^ (l - 52) := by
    rw [show (9007199254740992 : Nat) = 2 ^ 53 by decide, ← Nat.pow_add]
    exact Nat.pow_le_pow_right (by decide) (by omega)
  have h3 := (Nat.div_lt_iff_lt_mul hD).mp (Nat.lt_of_lt_of_le h1 h2)
  rw [show 9007199254740992 * (D * 2 ^ (l - 52)) = 9007199254740992 * 2 ^ (l - 52) * D by rw [Nat.mul_comm D, Nat.mul_assoc]]
  exact h3
theorem zf_lo {b N D : Nat} (hD : 0 < D) (h : zf_v b * D ≤ N) : b ≤ zf_rb N D := by
  obtain ⟨f1, f2, f3⟩ := zf_f b
  have A := zf_kA (N := N) (D := D)
  have B := zf_kB (N := N) hD
  unfold zf_v at h
  unfold zf_rb
  obtain ⟨k, hk⟩ : ∃ k, k = zf_rk N D := ⟨_, rfl⟩
  obtain ⟨kb, hkb⟩ : ∃ k, k = zf_k b := ⟨_, rfl⟩
  obtain ⟨mb, hmb⟩ : ∃ k, k = zf_m b := ⟨_, rfl⟩
  rw [← hk] at A B ⊢
  rw [← hkb, ← hmb] at h f1
  rw [← hmb] at f2
  rw [← hkb, ← hmb] at f3
  have hp : 0 < D * 2 ^ k := Nat.mul_pos hD (Nat.two_pow_pos k)
  rcases Nat.lt_trichotomy kb k with q | q | q
  · have := zf_nlo (m := 4503599627370496) hp (A (by omega))
    omega
  · subst q
    have := zf_nlo (m := mb) (N := N) hp (by rw [show mb * (D * 2 ^ kb) = mb * 2 ^ kb * D by rw [Nat.mul_comm D, Nat.mul_assoc]]; exact h)
    omega
  · exfalso
    have p1 : 2 ^ (k + 1) ≤ 2 ^ kb := Nat.pow_le_pow_right (by decide) q
    have p2 : 9007199254740992 * (D * 2 ^ k) ≤ mb * 2 ^ kb * D := by
      rw [show 9007199254740992 * (D * 2 ^ k) = 4503599627370496 * 2 ^ (k + 1) * D by rw [Nat.pow_succ, show (9007199254740992 : Nat) = 4503599627370496 * 2 by decide]; ac_rfl]
      exact Nat.mul_le_mul_right D (Nat.mul_le_mul (f3 (by omega)) p1)
    exact absurd (Nat.le_trans p2 h) (Nat.not_le.mpr B)
theorem zf_hi {b N D : Nat} (hD : 0 < D) (h : N ≤ zf_v b * D) : zf_rb N D ≤ b := by
  obtain ⟨f1, f2, f3⟩ := zf_f b
  have A := zf_kA (N := N) (D := D)
  have B := zf_kB (N := N) hD
  unfold zf_v at h
  unfold zf_rb
  obtain ⟨k, hk⟩ : ∃ k, k = zf_rk N D := ⟨_, rfl⟩
  obtain ⟨kb, hkb⟩ : ∃ k, k = zf_k b := ⟨_, rfl⟩
  obtain ⟨mb, hmb⟩ : ∃ k, k = zf_m b := ⟨_, rfl⟩
  rw [← hk] at A B ⊢
  rw [← hkb, ← hmb] at h f1
  rw [← hmb] at f2
  rw [← hkb, ← hmb] at f3
  have hp : 0 < D * 2 ^ k := Nat.mul_pos hD (Nat.two_pow_pos k)
  rcases Nat.lt_trichotomy kb k with q | q | q
  · exfalso
    have p1 : 2 ^ (kb + 1) ≤ 2 ^ k := Nat.pow_le_pow_right (by decide) q
    have p2 : mb * 2 ^ kb * D < 4503599627370496 * (D * 2 ^ k) := by
      refine Nat.lt_of_lt_of_le (Nat.mul_lt_mul_of_pos_right (Nat.mul_lt_mul_of_pos_right f2 (Nat.two_pow_pos kb)) hD) ?_
      rw [show 4503599627370496 * (D * 2 ^ k) = 4503599627370496 * 2 ^ k * D by rw [Nat.mul_comm D, Nat.mul_assoc]]
      refine Nat.mul_le_mul_right D ?_
      rw [show 9007199254740992 * 2 ^ kb = 4503599627370496 * 2 ^ (kb + 1) by rw [Nat.pow_succ, show (9007199254740992 : Nat) = 4503599627370496 * 2 by decide]; ac_rfl]
      exact Nat.mul_le_mul_left _ p1
    exact absurd (Nat.lt_of_le_of_lt (Nat.le_trans (A (by omega)) h) p2) (Nat.lt_irrefl _)
  · subst q
    have := zf_nhi (m := mb) (N := N) hp (by rw [show mb * (D * 2 ^ kb) = mb * 2 ^ kb * D by rw [Nat.mul_comm D, Nat.mul_assoc]]; exact h)
    omega
  · have := zf_nhi (m := 9007199254740992) (N := N) hp (Nat.le_of_lt B)
    have := f3 (by omega)
    omega
theorem zf_ex {b D : Nat} (hD : 0 < D) : zf_rb (zf_v b * D) D = b := Nat.le_antisymm (zf_hi hD (Nat.le_refl _)) (zf_lo hD (Nat.le_refl _))
theorem zf_rcr {N D M E : Nat} (hD : 0 < D) (hE : 0 < E) (h : N * E = M * D) : zf_rb N D = zf_rb M E := by
  have q : N / D = M / E := by rw [← Nat.mul_div_mul_right N D hE, ← Nat.mul_div_mul_right M E hD, h, Nat.mul_comm D E]
  have k : zf_rk N D = zf_rk M E := by unfold zf_rk; rw [q]
  unfold zf_rb
  rw [k]
  congr 1
  refine zf_ncr (Nat.mul_pos hD (Nat.two_pow_pos _)) (Nat.mul_pos hE (Nat.two_pow_pos _)) ?_
  rw [← Nat.mul_assoc, h, Nat.mul_assoc]
theorem zf_vm {b c : Nat} (h : b < c) : zf_v b < zf_v c := by
  obtain ⟨f1, f2, f3⟩ := zf_f b
  obtain ⟨g1, g2, g3⟩ := zf_f c
  unfold zf_v
  obtain ⟨kb, hkb⟩ : ∃ k, k = zf_k b := ⟨_, rfl⟩
  obtain ⟨mb, hmb⟩ : ∃ k, k = zf_m b := ⟨_, rfl⟩
  obtain ⟨kc, hkc⟩ : ∃ k, k = zf_k c := ⟨_, rfl⟩
  obtain ⟨mc, hmc⟩ : ∃ k, k = zf_m c := ⟨_, rfl⟩
  rw [← hkb, ← hmb] at f1 f3 ⊢
  rw [← hmb] at f2
  rw [← hkc, ← hmc] at g1 g3 ⊢
  rw [← hmc] at g2
  rcases Nat.lt_trichotomy kb kc with q | q | q
  · have p1 : 2 ^ (kb + 1) ≤ 2 ^ kc := Nat.pow_le_pow_right (by decide) q
    refine Nat.lt_of_lt_of_le (Nat.mul_lt_mul_of_pos_right f2 (Nat.two_pow_pos kb)) ?_
    rw [show 9007199254740992 * 2 ^ kb = 4503599627370496 * 2 ^ (kb + 1) by rw [Nat.pow_succ, show (9007199254740992 : Nat) = 4503599627370496 * 2 by decide]; ac_rfl]
    exact Nat.mul_le_mul (g3 (by omega)) p1
  · subst q
    exact Nat.mul_lt_mul_of_pos_right (by omega) (Nat.two_pow_pos _)
  · have := f3 (by omega)
    omega
theorem zf_vle {b c : Nat} : zf_v b ≤ zf_v c ↔ b ≤ c := by
  constructor
  · intro h
    rcases Nat.lt_or_ge c b with q | q
    · exact absurd (zf_vm q) (by omega)
    · exact q
  · intro h
    rcases Nat.eq_or_lt_of_le h with q | q
    · rw [q]; exact Nat.le_refl _
    · exact Nat.le_of_lt (zf_vm q)
theorem zf_vlt {b c : Nat} : zf_v b < zf_v c ↔ b < c := by
  have := zf_vle (b := c) (c := b); omega
theorem zf_v0 : zf_v 0 = 0 := by decide
theorem zf_vpos {b : Nat} (h : 0 < b) : 0 < zf_v b := by have := zf_vm h; rw [zf_v0] at this; exact this
/-- the values of the powers of two: a is the exponent as it stands in the bits -/
theorem zf_vp {a : Nat} (h : 1 ≤ a) : zf_v (a * 4503599627370496) = 2 ^ (51 + a) := by
  have hk : zf_k (a * 4503599627370496) = a - 1 := by unfold zf_k; omega
  have hm : zf_m (a * 4503599627370496) = 4503599627370496 := by unfold zf_m; rw [hk]; omega
  unfold zf_v
  rw [hk, hm, show (4503599627370496 : Nat) = 2 ^ 52 by decide, ← Nat.pow_add]
  congr 1; omega
/-! the kit's rounding is that one -/
theorem zf_pw {a b i j i2 j2 : Nat} (h : a * 2 ^ i ≤ b * 2 ^ j) (e : i + j2 = i2 + j) : a * 2 ^ i2 ≤ b * 2 ^ j2 := by
  have h1 := Nat.mul_le_mul_right (2 ^ (i2 + j2)) h
  have h2 : a * 2 ^ i * 2 ^ (i2 + j2) = a * 2 ^ i2 * 2 ^ (i + j2) := by
    rw [Nat.mul_assoc, ← Nat.pow_add, Nat.mul_assoc, ← Nat.pow_add, show i + (i2 + j2) = i2 + (i + j2) by omega]
  have h3 : b * 2 ^ j * 2 ^ (i2 + j2) = b * 2 ^ j2 * 2 ^ (i + j2) := by
    rw [Nat.mul_assoc, ← Nat.pow_add, Nat.mul_assoc, ← Nat.pow_add, show j + (i2 + j2) = j2 + (i + j2) by omega]
  rw [h2, h3] at h1
  exact Nat.le_of_mul_le_mul_right h1 (Nat.two_pow_pos _)
theorem zf_pwl {a b i j i2 j2 : Nat} (h : a * 2 ^ i < b * 2 ^ j) (e : i + j2 = i2 + j) : a * 2 ^ i2 < b * 2 ^ j2 := by
  rcases Nat.lt_or_ge (a * 2 ^ i2) (b * 2 ^ j2) with q | q
  · exact q
  · exact absurd (zf_pw q (by omega : j2 + i = j + i2)) (Nat.not_le.mpr h)
theorem zf_lead {num den : Nat} (hn : num ≠ 0) (hd : 0 < den) : den * 2 ^ (FP.Core.leading num den).toNat ≤ num * 2 ^ (-(FP.Core.leading num den)).toNat ∧ num * 2 ^ (-(FP.Core.leading num den + 1)).toNat < den * 2 ^ (FP.Core.leading num den + 1).toNat := by
  have a1 := Nat.log2_self_le hn
  have a2 := Nat.lt_log2_self (n := num)
  have b1 := Nat.log2_self_le (Nat.ne_of_gt hd)
  have b2 := Nat.lt_log2_self (n := den)
  have U : num * 2 ^ den.log2 < den * 2 ^ (num.log2 + 1) := by
    refine Nat.lt_of_lt_of_le (Nat.mul_lt_mul_of_pos_right a2 (Nat.two_pow_pos _)) ?_
    rw [Nat.mul_comm]; exact Nat.mul_le_mul_right _ b1
  have V : den * 2 ^ num.log2 ≤ num * 2 ^ (den.log2 + 1) := by
    refine Nat.le_trans (Nat.mul_le_mul_right _ (Nat.le_of_lt b2)) ?_
    rw [Nat.mul_comm]; exact Nat.mul_le_mul_right _ a1
  unfold FP.Core.leading
  obtain ⟨k, hk⟩ : ∃ k : Int, k = (num.log2 : Int) - (den.log2 : Int) := ⟨_, rfl⟩
  simp only [← hk]
  split
  · next t => exact ⟨t, zf_pwl U (by omega)⟩
  · next t =>
    refine ⟨zf_pw V (by omega), ?_⟩
    rw [show k - 1 + 1 = k by omega]
    exact Nat.not_le.mp t
theorem zf_qm : FP.Core.b64.qmin = -1074 := by decide
theorem zf_qM : FP.Core.b64.qmax = 971 := by decide
theorem zf_tl : FP.Core.b64.tails = 4503599627370496 := by decide
theorem zf_es : FP.Core.b64.exps = 2048 := by decide
theorem zf_pp : 2 ^ FP.Core.b64.p = 9007199254740992 := by decide
theorem zf_qu {num den : Nat} (e : Int) : FP.Core.quantum FP.Core.b64 num den e = max (-1074) (FP.Core.leading num den + e - 52) := by
  unfold FP.Core.quantum
  rw [zf_qm]; rfl
theorem zf_kq {num den : Nat} (e : Int) (hn : num ≠ 0) (hd : 0 < den) : zf_rk (num * 2 ^ (e + 1074).toNat) (den * 2 ^ (-(e + 1074)).toNat) = (FP.Core.quantum FP.Core.b64 num den e + 1074).toNat := by
  rw [zf_qu]
  obtain ⟨l1, l2⟩ := zf_lead hn hd
  obtain ⟨L, hL⟩ : ∃ L, L = FP.Core.leading num den := ⟨_, rfl⟩
  rw [← hL] at l1 l2 ⊢
  have hD : 0 < den * 2 ^ (-(e + 1074)).toNat := Nat.mul_pos hd (Nat.two_pow_pos _)
  unfold zf_rk
  by_cases q : L + e + 1074 < 0
  · have h1 : num * 2 ^ ((e + 1074).toNat + (-(L + 1 + e + 1074)).toNat) < den * 2 ^ (-(e + 1074)).toNat := zf_pwl l2 (by omega)
    have h2 : num * 2 ^ (e + 1074).toNat ≤ num * 2 ^ ((e + 1074).toNat + (-(L + 1 + e + 1074)).toNat) := Nat.mul_le_mul_left _ (Nat.pow_le_pow_right (by decide) (by omega))
    rw [Nat.div_eq_of_lt (Nat.lt_of_le_of_lt h2 h1), Nat.log2_zero]
    omega
  · have h1 : den * 2 ^ ((-(e + 1074)).toNat + (L + e + 1074).toNat) ≤ num * 2 ^ (e + 1074).toNat := zf_pw l1 (by omega)
    have h2 : num * 2 ^ (e + 1074).toNat < den * 2 ^ ((-(e + 1074)).toNat + ((L + e + 1074).toNat + 1)) := zf_pwl l2 (by omega)
    rw [Nat.pow_add, ← Nat.mul_assoc] at h1
    rw [Nat.pow_add, ← Nat.mul_assoc] at h2
    have h3 : 2 ^ (L + e + 1074).toNat ≤ num * 2 ^ (e + 1074).toNat / (den * 2 ^ (-(e + 1074)).toNat) := (Nat.le_div_iff_mul_le hD).mpr (by rw [Nat.mul_comm]; exact h1)
    have h4 : num * 2 ^ (e + 1074).toNat / (den * 2 ^ (-(e + 1074)).toNat) < 2 ^ ((L + e + 1074).toNat + 1) := (Nat.div_lt_iff_lt_mul hD).mpr (by rw [Nat.mul_comm (2 ^ _)]; exact h2)
    have h5 := (Nat.log2_eq_iff (Nat.ne_of_gt (Nat.lt_of_lt_of_le (Nat.two_pow_pos _) h3))).mpr ⟨h3, h4⟩
    rw [h5]
    omega
theorem zf_e1 (s : Bool) (m : Nat) (q : Int) : FP.Core.encode FP.Core.b64 (.fin s m q) = if m < 4503599627370496 then (s.toNat * 2048 + 0) * 4503599627370496 + m else (s.toNat * 2048 + ((q + 1074).toNat + 1)) * 4503599627370496 + (m - 4503599627370496) := by
  show (if m < FP.Core.b64.tails then FP.Core.assemble FP.Core.b64 s 0 m else FP.Core.assemble FP.Core.b64 s ((q - FP.Core.b64.qmin).toNat + 1) (m - FP.Core.b64.tails)) = _
  unfold FP.Core.assemble
  rw [zf_tl, zf_es, zf_qm, show q - -1074 = q + 1074 by omega]
theorem zf_e2 (s : Bool) : FP.Core.encode FP.Core.b64 (.inf s) = (s.toNat * 2048 + 2047) * 4503599627370496 + 0 := by
  unfold FP.Core.encode FP.Core.assemble
  rw [zf_tl, zf_es]
theorem zf_as {n x y : Nat} : (n * 2048 + x) * 4503599627370496 + y = n * 9223372036854775808 + (x * 4503599627370496 + y) := by omega
theorem zf_fin (s : Bool) (q : Int) (k m : Nat) (hk : k = (q + 1074).toNat) (hq : -1074 ≤ q) (m1 : m ≤ 9007199254740992) (m2 : 0 < k → 4503599627370496 ≤ m) : FP.Core.encode FP.Core.b64 (FP.Core.settle FP.Core.b64 s m q) = s.toNat * 9223372036854775808 + min 9218868437227405312 (k * 4503599627370496 + m) := by
  unfold FP.Core.settle FP.Core.bound
  rw [zf_pp, zf_qM, zf_tl]
  by_cases c1 : m < 9007199254740992
  · rw [if_pos c1]
    by_cases c2 : q ≤ 971
    · have hk2 : k ≤ 2045 := by omega
      rw [if_pos c2, zf_e1, ← hk, Nat.min_eq_right (by omega : k * 4503599627370496 + m ≤ 9218868437227405312)]
      by_cases c3 : m < 4503599627370496
      · have k0 : k = 0 := by
          rcases Nat.eq_zero_or_pos k with z | z
          · exact z
          · exact absurd (m2 z) (Nat.not_le.mpr c3)
        rw [if_pos c3, zf_as, k0]
      · rw [if_neg c3, zf_as, show (k + 1) * 4503599627370496 + (m - 4503599627370496) = k * 4503599627370496 + m by omega]
    · have hk2 : 2046 ≤ k := by omega
      have m3 := m2 (by omega)
      rw [if_neg c2, zf_e2, Nat.min_eq_left (by omega : 9218868437227405312 ≤ k * 4503599627370496 + m), zf_as]
  · rw [if_neg c1]
    have hm : m = 9007199254740992 := by omega
    by_cases c2 : q + 1 ≤ 971
    · have hk2 : k ≤ 2044 := by omega
      rw [if_pos c2, zf_e1, if_neg (Nat.lt_irrefl _), show (q + 1 + 1074).toNat = k + 1 by omega, Nat.min_eq_right (by omega : k * 4503599627370496 + m ≤ 9218868437227405312), zf_as, hm, show (k + 1 + 1) * 4503599627370496 + (4503599627370496 - 4503599627370496) = k * 4503599627370496 + 9007199254740992 by omega]
    · have hk2 : 2045 ≤ k := by omega
      rw [if_neg c2, zf_e2, Nat.min_eq_left (by omega : 9218868437227405312 ≤ k * 4503599627370496 + m), zf_as]
theorem zf_enc (s : Bool) {num den : Nat} (e : Int) (hd : 0 < den) : FP.Core.encode FP.Core.b64 (FP.Core.roundRatio FP.Core.b64 s num den e) = s.toNat * 9223372036854775808 + min 9218868437227405312 (zf_rb (num * 2 ^ (e + 1074).toNat) (den * 2 ^ (-(e + 1074)).toNat)) := by
  have hD : 0 < den * 2 ^ (-(e + 1074)).toNat := Nat.mul_pos hd (Nat.two_pow_pos _)
  unfold FP.Core.roundRatio
  by_cases hn : num = 0
  · subst hn
    rw [if_pos rfl, zf_e1, if_pos (by decide)]
    have : zf_rb (0 * 2 ^ (e + 1074).toNat) (den * 2 ^ (-(e + 1074)).toNat) = 0 := Nat.le_zero.mp (zf_hi (b := 0) hD (by rw [Nat.zero_mul]; exact Nat.zero_le _))
    rw [this]
    omega
  · rw [if_neg hn]
    have hk := zf_kq e hn hd
    have A := zf_kA (N := num * 2 ^ (e + 1074).toNat) (D := den * 2 ^ (-(e + 1074)).toNat)
    have B := zf_kB (N := num * 2 ^ (e + 1074).toNat) hD
    have hq : -1074 ≤ FP.Core.quantum FP.Core.b64 num den e := by rw [zf_qu]; omega
    unfold zf_rb FP.Core.roundAt
    rw [hk] at A B ⊢
    obtain ⟨q, hqq⟩ : ∃ q, q = FP.Core.quantum FP.Core.b64 num den e := ⟨_, rfl⟩
    rw [← hqq] at A B hq ⊢
    obtain ⟨k, hkk⟩ : ∃ k, k = (q + 1074).toNat := ⟨_, rfl⟩
    rw [← hkk] at A B ⊢
    have hm : FP.Core.nearest (FP.Core.unitsNum num e q) (FP.Core.unitsDen den e q) = FP.Core.nearest (num * 2 ^ (e + 1074).toNat) (den * 2 ^ (-(e + 1074)).toNat * 2 ^ k) := by
      refine zf_ncr (Nat.mul_pos hd (Nat.two_pow_pos _)) (Nat.mul_pos hD (Nat.two_pow_pos _)) ?_
      unfold FP.Core.unitsNum FP.Core.unitsDen
      have e1 : num * 2 ^ (e - q).toNat * (den * 2 ^ (-(e + 1074)).toNat * 2 ^ k) = num * den * 2 ^ ((e - q).toNat + ((-(e + 1074)).toNat + k)) := by
        rw [Nat.pow_add, Nat.pow_add]; ac_rfl
      have e2 : num * 2 ^ (e + 1074).toNat * (den * 2 ^ (q - e).toNat) = num * den * 2 ^ ((e + 1074).toNat + (q - e).toNat) := by
        rw [Nat.pow_add]; ac_rfl
      rw [e1, e2, show (e - q).toNat + ((-(e + 1074)).toNat + k) = (e + 1074).toNat + (q - e).toNat by omega]
    rw [hm]
    have hp : 0 < den * 2 ^ (-(e + 1074)).toNat * 2 ^ k := Nat.mul_pos hD (Nat.two_pow_pos _)
    have m1 := zf_nhi (m := 9007199254740992) hp (Nat.le_of_lt B)
    have m2 : 0 < k → 4503599627370496 ≤ FP.Core.nearest (num * 2 ^ (e + 1074).toNat) (den * 2 ^ (-(e + 1074)).toNat * 2 ^ k) := fun z => zf_nlo hp (A z)
    obtain ⟨m, hmm⟩ : ∃ m, m = FP.Core.nearest (num * 2 ^ (e + 1074).toNat) (den * 2 ^ (-(e + 1074)).toNat * 2 ^ k) := ⟨_, rfl⟩
    rw [← hmm] at m1 m2 ⊢
    exact zf_fin s q k m hkk hq m1 m2
/-! reading bits -/
theorem zf_dec (s : Bool) {b : Nat} (h : b < 9218868437227405312) : FP.Core.decode FP.Core.b64 (s.toNat * 9223372036854775808 + b) = .fin s (zf_m b) ((zf_k b : Int) - 1074) := by
  have fE : FP.Core.fieldE FP.Core.b64 (s.toNat * 9223372036854775808 + b) = b / 4503599627370496 := by
    unfold FP.Core.fieldE
    rw [zf_tl, zf_es]
    cases s
    · show (0 * 9223372036854775808 + b) / 4503599627370496 % 2048 = b / 4503599627370496; omega
    · show (1 * 9223372036854775808 + b) / 4503599627370496 % 2048 = b / 4503599627370496; omega
  have fT : FP.Core.fieldT FP.Core.b64 (s.toNat * 9223372036854775808 + b) = b % 4503599627370496 := by
    unfold FP.Core.fieldT
    rw [zf_tl]
    cases s
    · show (0 * 9223372036854775808 + b) % 4503599627370496 = b % 4503599627370496; omega
    · show (1 * 9223372036854775808 + b) % 4503599627370496 = b % 4503599627370496; omega
  have fS : FP.Core.fieldS FP.Core.b64 (s.toNat * 9223372036854775808 + b) = s := by
    unfold FP.Core.fieldS
    rw [zf_tl, zf_es]
    cases s
    · have : (0 * 9223372036854775808 + b) / 4503599627370496 / 2048 % 2 = 0 := by omega
      show ((0 * 9223372036854775808 + b) / 4503599627370496 / 2048 % 2 == 1) = false
      rw [this]; rfl
    · have : (1 * 9223372036854775808 + b) / 4503599627370496 / 2048 % 2 = 1 := by omega
      show ((1 * 9223372036854775808 + b) / 4503599627370496 / 2048 % 2 == 1) = true
      rw [this]; rfl
  unfold FP.Core.decode
  rw [fE, fT, fS, zf_es, zf_tl, zf_qm, if_neg (by omega)]
  split
  · next z =>
    rw [show zf_k b = 0 by unfold zf_k; omega, show zf_m b = b % 4503599627370496 by unfold zf_m zf_k; omega]
    rfl
  · next z =>
    rw [show zf_m b = 4503599627370496 + b % 4503599627370496 by unfold zf_m zf_k; omega, show ((zf_k b : Nat) : Int) - 1074 = -1074 + (((b / 4503599627370496 : Nat) : Int) - 1) by unfold zf_k; omega]
theorem zf_deci (s : Bool) : FP.Core.decode FP.Core.b64 (s.toNat * 9223372036854775808 + 9218868437227405312) = .inf s := by cases s <;> decide +kernel
