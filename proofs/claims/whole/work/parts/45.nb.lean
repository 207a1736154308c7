/-! the instructions, on numbers: answers as rounded values; comparisons as those of keys -/
def zf_U : Nat := 2 ^ 1074
theorem zf_Up : 0 < zf_U := Nat.two_pow_pos _
theorem zf_d0 {b : Nat} (h : b < 9218868437227405312) : FP.Core.decode FP.Core.b64 b = .fin false (zf_m b) ((zf_k b : Int) - 1074) := by
  have := zf_dec false h
  rw [show false.toNat * 9223372036854775808 + b = b by show 0 * 9223372036854775808 + b = b; omega] at this
  exact this
theorem zf_di0 : FP.Core.decode FP.Core.b64 9218868437227405312 = .inf false := by decide +kernel
theorem zf_mulS (s t : Bool) {a b : Nat} (ha : a < 9218868437227405312) (hb : b < 9218868437227405312) : FP.Core.mul FP.Core.b64 (s.toNat * 9223372036854775808 + a) (t.toNat * 9223372036854775808 + b) = (s != t).toNat * 9223372036854775808 + min 9218868437227405312 (zf_rb (zf_v a * zf_v b) zf_U) := by
  unfold FP.Core.mul
  rw [zf_dec s ha, zf_dec t hb]
  show FP.Core.encode FP.Core.b64 (FP.Core.roundRatio FP.Core.b64 (s != t) (zf_m a * zf_m b) 1 (((zf_k a : Int) - 1074) + ((zf_k b : Int) - 1074))) = _
  rw [zf_enc _ _ (by decide)]
  refine congrArg (fun z => (s != t).toNat * 9223372036854775808 + min 9218868437227405312 z) ?_
  refine zf_rcr (by rw [Nat.one_mul]; exact Nat.two_pow_pos _) zf_Up ?_
  unfold zf_v zf_U
  have e1 : ∀ x y : Nat, zf_m a * zf_m b * 2 ^ x * 2 ^ y = zf_m a * zf_m b * 2 ^ (x + y) := fun x y => by rw [Nat.pow_add, Nat.mul_assoc]
  have e2 : ∀ x y z : Nat, zf_m a * 2 ^ x * (zf_m b * 2 ^ y) * (1 * 2 ^ z) = zf_m a * zf_m b * 2 ^ (x + y + z) := fun x y z => by rw [Nat.pow_add, Nat.pow_add, Nat.one_mul]; ac_rfl
  rw [e1, e2]
  congr 2
  omega
theorem zf_signed0 {n : Nat} : FP.Core.signed false n = (n : Int) := by simp [FP.Core.signed]
theorem zf_signed1 {n : Nat} : FP.Core.signed true n = -(n : Int) := by simp [FP.Core.signed]
theorem zf_uni {a : Nat} {e : Int} (h1 : -1074 ≤ e) (h2 : e ≤ (zf_k a : Int) - 1074) : FP.Core.inUnits (zf_m a) ((zf_k a : Int) - 1074) e * 2 ^ (e + 1074).toNat = zf_v a := by
  unfold FP.Core.inUnits zf_v
  rw [Nat.mul_assoc, ← Nat.pow_add]
  congr 2
  omega
theorem zf_addC {a b : Nat} (ha : a < 9218868437227405312) (hb : b < 9218868437227405312) : FP.Core.add FP.Core.b64 a b = min 9218868437227405312 (zf_rb (zf_v a + zf_v b) 1) := by
  unfold FP.Core.add
  rw [zf_d0 ha, zf_d0 hb]
  unfold FP.Core.exactSum
  obtain ⟨e, he⟩ : ∃ e : Int, e = min ((zf_k a : Int) - 1074) ((zf_k b : Int) - 1074) := ⟨_, rfl⟩
  simp only [← he]
  have u1 := zf_uni (a := a) (e := e) (by omega) (by omega)
  have u2 := zf_uni (a := b) (e := e) (by omega) (by omega)
  unfold FP.Core.sumUnits
  rw [zf_signed0, zf_signed0]
  obtain ⟨X, hX⟩ : ∃ X, X = FP.Core.inUnits (zf_m a) ((zf_k a : Int) - 1074) e := ⟨_, rfl⟩
  obtain ⟨Y, hY⟩ : ∃ Y, Y = FP.Core.inUnits (zf_m b) ((zf_k b : Int) - 1074) e := ⟨_, rfl⟩
  rw [← hX] at u1 ⊢
  rw [← hY] at u2 ⊢
  have hs : FP.Core.sumSign false false ((X : Int) + (Y : Int)) = false := by
    unfold FP.Core.sumSign
    split
    · rfl
    · exact decide_eq_false (by omega)
  rw [hs, show ((X : Int) + (Y : Int)).natAbs = X + Y by omega]
  show FP.Core.encode FP.Core.b64 (FP.Core.roundRatio FP.Core.b64 false (X + Y) 1 e) = _
  rw [zf_enc _ _ (by decide), show false.toNat * 9223372036854775808 = 0 from Nat.zero_mul _, Nat.zero_add]
  refine congrArg (fun z => min 9218868437227405312 z) ?_
  refine zf_rcr (by rw [Nat.one_mul]; exact Nat.two_pow_pos _) (by decide) ?_
  rw [Nat.add_mul X, u1, u2, show (-(e + 1074)).toNat = 0 by omega]
theorem zf_subC {a b : Nat} (ha : a < 9218868437227405312) (hb : b < 9218868437227405312) : (zf_v b ≤ zf_v a → FP.Core.sub FP.Core.b64 a b = min 9218868437227405312 (zf_rb (zf_v a - zf_v b) 1)) ∧ (zf_v a < zf_v b → FP.Core.sub FP.Core.b64 a b = 9223372036854775808 + min 9218868437227405312 (zf_rb (zf_v b - zf_v a) 1)) := by
  unfold FP.Core.sub
  rw [zf_d0 ha, zf_d0 hb]
  unfold FP.Core.negate FP.Core.exactSum
  obtain ⟨e, he⟩ : ∃ e : Int, e = min ((zf_k a : Int) - 1074) ((zf_k b : Int) - 1074) := ⟨_, rfl⟩
  simp only [← he]
  have u1 := zf_uni (a := a) (e := e) (by omega) (by omega)
  have u2 := zf_uni (a := b) (e := e) (by omega) (by omega)
  unfold FP.Core.sumUnits
  rw [zf_signed0, show (!false) = true from rfl, zf_signed1]
  obtain ⟨X, hX⟩ : ∃ X, X = FP.Core.inUnits (zf_m a) ((zf_k a : Int) - 1074) e := ⟨_, rfl⟩
  obtain ⟨Y, hY⟩ : ∃ Y, Y = FP.Core.inUnits (zf_m b) ((zf_k b : Int) - 1074) e := ⟨_, rfl⟩
  rw [← hX] at u1 ⊢
  rw [← hY] at u2 ⊢
  have hw : 0 < 2 ^ (e + 1074).toNat := Nat.two_pow_pos _
  constructor
  · intro h
    rw [← u1, ← u2] at h
    have hXY : Y ≤ X := Nat.le_of_mul_le_mul_right h hw
    have hs : FP.Core.sumSign false true ((X : Int) + -(Y : Int)) = false := by
      unfold FP.Core.sumSign
      split
      · rfl
      · exact decide_eq_false (by omega)
    rw [hs, show ((X : Int) + -(Y : Int)).natAbs = X - Y by omega]
    show FP.Core.encode FP.Core.b64 (FP.Core.roundRatio FP.Core.b64 false (X - Y) 1 e) = _
    rw [zf_enc _ _ (by decide), show false.toNat * 9223372036854775808 = 0 from Nat.zero_mul _, Nat.zero_add]
    refine congrArg (fun z => min 9218868437227405312 z) ?_
    refine zf_rcr (by rw [Nat.one_mul]; exact Nat.two_pow_pos _) (by decide) ?_
    rw [Nat.sub_mul X, u1, u2, show (-(e + 1074)).toNat = 0 by omega]
  · intro h
    rw [← u1, ← u2] at h
    have hXY : X < Y := Nat.lt_of_mul_lt_mul_right h
    have hs : FP.Core.sumSign false true ((X : Int) + -(Y : Int)) = true := by
      unfold FP.Core.sumSign
      rw [if_neg (by omega)]
      exact decide_eq_true (by omega)
    rw [hs, show ((X : Int) + -(Y : Int)).natAbs = Y - X by omega]
    show FP.Core.encode FP.Core.b64 (FP.Core.roundRatio FP.Core.b64 true (Y - X) 1 e) = _
    rw [zf_enc _ _ (by decide), show true.toNat * 9223372036854775808 = 9223372036854775808 from Nat.one_mul _]
    refine congrArg (fun z => 9223372036854775808 + min 9218868437227405312 z) ?_
    refine zf_rcr (by rw [Nat.one_mul]; exact Nat.two_pow_pos _) (by decide) ?_
    rw [Nat.sub_mul Y, u1, u2, show (-(e + 1074)).toNat = 0 by omega]
theorem zf_divC {a b : Nat} (ha : a < 9218868437227405312) (hb : b < 9218868437227405312) (h0 : 0 < b) : FP.Core.div FP.Core.b64 a b = min 9218868437227405312 (zf_rb (zf_v a * zf_U) (zf_v b)) := by
  unfold FP.Core.div
  have hv := zf_vpos h0
  have hmb : zf_m b ≠ 0 := by intro z; unfold zf_v at hv; rw [z, Nat.zero_mul] at hv; exact absurd hv (Nat.lt_irrefl 0)
  rw [zf_d0 ha, zf_d0 hb]
  unfold FP.Core.quotient
  simp only
  rw [if_neg hmb, show (false != false) = false from rfl, zf_enc _ _ (Nat.pos_of_ne_zero hmb), show false.toNat * 9223372036854775808 = 0 from Nat.zero_mul _, Nat.zero_add]
  refine congrArg (fun z => min 9218868437227405312 z) ?_
  refine zf_rcr (Nat.mul_pos (Nat.pos_of_ne_zero hmb) (Nat.two_pow_pos _)) hv ?_
  unfold zf_v zf_U
  have e1 : ∀ x y : Nat, zf_m a * 2 ^ x * (zf_m b * 2 ^ y) = zf_m a * zf_m b * 2 ^ (x + y) := fun x y => by rw [Nat.pow_add]; ac_rfl
  have e2 : ∀ x y z : Nat, zf_m a * 2 ^ x * 2 ^ y * (zf_m b * 2 ^ z) = zf_m a * zf_m b * 2 ^ (x + y + z) := fun x y z => by rw [Nat.pow_add, Nat.pow_add]; ac_rfl
  rw [e1, e2]
  congr 2
  omega
theorem zf_intC (i : Int) : FP.Core.fromInt FP.Core.b64 i = (decide (i < 0)).toNat * 9223372036854775808 + min 9218868437227405312 (zf_rb (i.natAbs * zf_U) 1) := by
  unfold FP.Core.fromInt FP.Core.ofInt
  show FP.Core.encode FP.Core.b64 (FP.Core.roundRatio FP.Core.b64 (decide (i < 0)) i.natAbs 1 0) = _
  rw [zf_enc _ _ (by decide)]
  congr 2
theorem zf_of {n : Nat} (h : n ≤ 9223372036854775808 + 9218868437227405312) : (UInt64.ofNat n).toNat = n := by
  rw [UInt64.toNat_ofNat', Nat.mod_eq_of_lt (Nat.lt_of_le_of_lt h (by decide))]
theorem zf_mul {x y : UInt64} (hx : x.toNat < 9218868437227405312) (hy : y.toNat < 9218868437227405312) : (FP.dmul x y).toNat = min 9218868437227405312 (zf_rb (zf_v x.toNat * zf_v y.toNat) zf_U) := by
  have := zf_mulS false false hx hy
  rw [show (false != false).toNat * 9223372036854775808 = 0 from Nat.zero_mul _, show false.toNat * 9223372036854775808 = 0 from Nat.zero_mul _, Nat.zero_add, Nat.zero_add, Nat.zero_add] at this
  show (UInt64.ofNat (FP.Core.mul FP.Core.b64 x.toNat y.toNat)).toNat = _
  rw [this, zf_of (Nat.le_trans (Nat.min_le_left _ _) (by decide))]
theorem zf_mulN {x y : UInt64} {a : Nat} (hx : x.toNat = 9223372036854775808 + a) (ha : a < 9218868437227405312) (hy : y.toNat < 9218868437227405312) : (FP.dmul x y).toNat = 9223372036854775808 + min 9218868437227405312 (zf_rb (zf_v a * zf_v y.toNat) zf_U) := by
  have := zf_mulS true false ha hy
  rw [show (true != false).toNat * 9223372036854775808 = 9223372036854775808 from Nat.one_mul _, show true.toNat * 9223372036854775808 = 9223372036854775808 from Nat.one_mul _, show false.toNat * 9223372036854775808 = 0 from Nat.zero_mul _, Nat.zero_add] at this
  show (UInt64.ofNat (FP.Core.mul FP.Core.b64 x.toNat y.toNat)).toNat = _
  rw [hx, this, zf_of (Nat.add_le_add_left (Nat.min_le_left _ _) _)]
theorem zf_add {x y : UInt64} (hx : x.toNat < 9218868437227405312) (hy : y.toNat < 9218868437227405312) : (FP.dadd x y).toNat = min 9218868437227405312 (zf_rb (zf_v x.toNat + zf_v y.toNat) 1) := by
  show (UInt64.ofNat (FP.Core.add FP.Core.b64 x.toNat y.toNat)).toNat = _
  rw [zf_addC hx hy, zf_of (Nat.le_trans (Nat.min_le_left _ _) (by decide))]
theorem zf_sub {x y : UInt64} (hx : x.toNat < 9218868437227405312) (hy : y.toNat ≤ x.toNat) : (FP.dsub x y).toNat = min 9218868437227405312 (zf_rb (zf_v x.toNat - zf_v y.toNat) 1) := by
  show (UInt64.ofNat (FP.Core.sub FP.Core.b64 x.toNat y.toNat)).toNat = _
  rw [(zf_subC hx (by omega)).1 (zf_vle.mpr hy), zf_of (Nat.le_trans (Nat.min_le_left _ _) (by decide))]
theorem zf_subN {x y : UInt64} (hx : y.toNat < 9218868437227405312) (hy : x.toNat < y.toNat) : (FP.dsub x y).toNat = 9223372036854775808 + min 9218868437227405312 (zf_rb (zf_v y.toNat - zf_v x.toNat) 1) := by
  show (UInt64.ofNat (FP.Core.sub FP.Core.b64 x.toNat y.toNat)).toNat = _
  rw [(zf_subC (by omega) hx).2 (zf_vm hy), zf_of (Nat.add_le_add_left (Nat.min_le_left _ _) _)]
theorem zf_subI {x y : UInt64} (hx : x.toNat < 9218868437227405312) (hy : y.toNat = 9218868437227405312) : (FP.dsub x y).toNat = 9223372036854775808 + 9218868437227405312 := by
  show (UInt64.ofNat (FP.Core.sub FP.Core.b64 x.toNat y.toNat)).toNat = _
  unfold FP.Core.sub
  rw [hy, zf_d0 hx, zf_di0]
  show (UInt64.ofNat (FP.Core.encode FP.Core.b64 (.inf true))).toNat = _
  rw [zf_e2, zf_of (by decide)]
  rfl
theorem zf_div {x y : UInt64} (hx : x.toNat < 9218868437227405312) (hy : y.toNat < 9218868437227405312) (h0 : 0 < y.toNat) : (FP.ddiv x y).toNat = min 9218868437227405312 (zf_rb (zf_v x.toNat * zf_U) (zf_v y.toNat)) := by
  show (UInt64.ofNat (FP.Core.div FP.Core.b64 x.toNat y.toNat)).toNat = _
  rw [zf_divC hx hy h0, zf_of (Nat.le_trans (Nat.min_le_left _ _) (by decide))]
theorem zf_i2d (i : Int32) : (FP.i2d i).toNat = (decide (i.toInt < 0)).toNat * 9223372036854775808 + min 9218868437227405312 (zf_rb (i.toInt.natAbs * zf_U) 1) := by
  show (UInt64.ofNat (FP.Core.fromInt FP.Core.b64 i.toInt)).toNat = _
  rw [zf_intC, zf_of]
  refine Nat.add_le_add ?_ (Nat.min_le_left _ _)
  have : (decide (i.toInt < 0)).toNat ≤ 1 := Bool.toNat_le _
  omega
/-! what is a number, and the order -/
def zf_ok (v : UInt64) : Prop := v.toNat ≤ 9218868437227405312 ∨ (9223372036854775808 ≤ v.toNat ∧ v.toNat ≤ 9223372036854775808 + 9218868437227405312)
def zf_s (v : UInt64) : Int := if v.toNat < 9223372036854775808 then (v.toNat : Int) else -((v.toNat - 9223372036854775808 : Nat) : Int)
theorem zf_n64 {v : UInt64} (h : zf_ok v) : vf_n64 v := by
  unfold vf_n64
  rw [UInt64.le_iff_toNat_le, UInt64.toNat_and]
  show v.toNat &&& (2 ^ 63 - 1) ≤ 9218868437227405312
  rw [Nat.and_two_pow_sub_one_eq_mod]
  unfold zf_ok at h
  omega
theorem zf_s0 {v : UInt64} (h : v.toNat ≤ 9218868437227405312) : zf_s v = (v.toNat : Int) := by unfold zf_s; rw [if_pos (by omega)]
theorem zf_okp {v : UInt64} (h : v.toNat ≤ 9218868437227405312) : zf_ok v := Or.inl h
theorem zf_split {v : UInt64} (h : zf_ok v) : ∃ (s : Bool) (x : Nat), x ≤ 9218868437227405312 ∧ v.toNat = s.toNat * 9223372036854775808 + x ∧ zf_s v = FP.Core.signed s x := by
  rcases h with h | h
  · exact ⟨false, v.toNat, h, by show _ = 0 * _ + _; omega, by rw [zf_s0 h, zf_signed0]⟩
  · refine ⟨true, v.toNat - 9223372036854775808, by omega, by show _ = 1 * _ + _; omega, ?_⟩
    unfold zf_s
    rw [if_neg (by omega), zf_signed1]
theorem zf_cq {i j k l : Int} (h1 : i < j ↔ k < l) (h2 : i = j ↔ k = l) : compare i j = compare k l := by
  show compareOfLessAndEq i j = compareOfLessAndEq k l
  unfold compareOfLessAndEq
  simp only [h1, h2]
theorem zf_ord {s t : Bool} {x y : Nat} (hx : x ≤ 9218868437227405312) (hy : y ≤ 9218868437227405312) : FP.Core.order (FP.Core.decode FP.Core.b64 (s.toNat * 9223372036854775808 + x)) (FP.Core.decode FP.Core.b64 (t.toNat * 9223372036854775808 + y)) = some (compare (FP.Core.signed s x) (FP.Core.signed t y)) := by
  rcases Nat.eq_or_lt_of_le hx with qx | qx
  · rw [qx, zf_deci s]
    rcases Nat.eq_or_lt_of_le hy with qy | qy
    · rw [qy, zf_deci t]
      cases s <;> cases t <;> decide +kernel
    · rw [zf_dec t qy]
      show some (compare (FP.Core.signed s 1) 0) = _
      congr 1
      cases s <;> cases t <;> simp only [zf_signed0, zf_signed1] <;> exact zf_cq (by omega) (by omega)
  · rw [zf_dec s qx]
    rcases Nat.eq_or_lt_of_le hy with qy | qy
    · rw [qy, zf_deci t]
      show some (compare 0 (FP.Core.signed t 1)) = _
      congr 1
      cases s <;> cases t <;> simp only [zf_signed0, zf_signed1] <;> exact zf_cq (by omega) (by omega)
    · rw [zf_dec t qy]
      show some (compare (FP.Core.signed s _) (FP.Core.signed t _)) = _
      obtain ⟨e, he⟩ : ∃ e : Int, e = min ((zf_k x : Int) - 1074) ((zf_k y : Int) - 1074) := ⟨_, rfl⟩
      rw [← he]
      have u1 := zf_uni (a := x) (e := e) (by omega) (by omega)
      have u2 := zf_uni (a := y) (e := e) (by omega) (by omega)
      obtain ⟨X, hX⟩ : ∃ X, X = FP.Core.inUnits (zf_m x) ((zf_k x : Int) - 1074) e := ⟨_, rfl⟩
      obtain ⟨Y, hY⟩ : ∃ Y, Y = FP.Core.inUnits (zf_m y) ((zf_k y : Int) - 1074) e := ⟨_, rfl⟩
      rw [← hX] at u1 ⊢
      rw [← hY] at u2 ⊢
      have hw : 0 < 2 ^ (e + 1074).toNat := Nat.two_pow_pos _
      have a1 : X < Y ↔ x < y := by
        rw [← zf_vlt (b := x) (c := y), ← u1, ← u2]; exact (Nat.mul_lt_mul_right hw).symm
      have a2 : Y < X ↔ y < x := by
        rw [← zf_vlt (b := y) (c := x), ← u1, ← u2]; exact (Nat.mul_lt_mul_right hw).symm
      have a3 : X = 0 ↔ x = 0 := by
        constructor
        · intro z
          rw [z, Nat.zero_mul] at u1
          rcases Nat.eq_zero_or_pos x with q | q
          · exact q
          · have := zf_vpos q; omega
        · intro z
          rw [z, zf_v0] at u1
          rcases Nat.mul_eq_zero.mp u1 with q | q
          · exact q
          · omega
      have a4 : Y = 0 ↔ y = 0 := by
        constructor
        · intro z
          rw [z, Nat.zero_mul] at u2
          rcases Nat.eq_zero_or_pos y with q | q
          · exact q
          · have := zf_vpos q; omega
        · intro z
          rw [z, zf_v0] at u2
          rcases Nat.mul_eq_zero.mp u2 with q | q
          · exact q
          · omega
      congr 1
      clear u1 u2 hX hY he
      cases s <;> cases t <;> simp only [zf_signed0, zf_signed1] <;> exact zf_cq (by omega) (by omega)
theorem zf_cmp {a b : UInt64} (ha : zf_ok a) (hb : zf_ok b) : FP.dcmp a b = some (compare (zf_s a) (zf_s b)) := by
  obtain ⟨s, x, hx, e1, e2⟩ := zf_split ha
  obtain ⟨t, y, hy, e3, e4⟩ := zf_split hb
  show FP.Core.order (FP.Core.decode FP.Core.b64 a.toNat) (FP.Core.decode FP.Core.b64 b.toNat) = _
  rw [e1, e3, e2, e4]
  exact zf_ord hx hy
theorem zf_cv {a b : UInt64} (ha : zf_ok a) (hb : zf_ok b) : cml a b = (if zf_s a < zf_s b then -1 else if zf_s a = zf_s b then 0 else 1) ∧ cmg a b = cml a b := by
  unfold cml cmg
  rw [zf_cmp ha hb, show compare (zf_s a) (zf_s b) = compareOfLessAndEq (zf_s a) (zf_s b) from rfl]
  unfold compareOfLessAndEq
  split
  · exact ⟨rfl, rfl⟩
  · split
    · exact ⟨rfl, rfl⟩
    · exact ⟨rfl, rfl⟩
theorem zf_gl {a b : UInt64} (ha : zf_ok a) (hb : zf_ok b) : cmg a b = cml a b := (zf_cv ha hb).2
theorem zf_lt {a b : UInt64} (ha : zf_ok a) (hb : zf_ok b) : cml a b < 0 ↔ zf_s a < zf_s b := by
  rw [(zf_cv ha hb).1]
  split
  · next h => exact ⟨fun _ => h, fun _ => by decide⟩
  · next h =>
    split
    · exact ⟨fun q => absurd q (by decide), fun q => absurd q h⟩
    · exact ⟨fun q => absurd q (by decide), fun q => absurd q h⟩
theorem zf_eq {a b : UInt64} (ha : zf_ok a) (hb : zf_ok b) : cml a b = 0 ↔ zf_s a = zf_s b := by
  rw [(zf_cv ha hb).1]
  split
  · next h => exact ⟨fun q => absurd q (by decide), fun q => absurd h (by omega)⟩
  · split
    · next h => exact ⟨fun _ => h, fun _ => rfl⟩
    · next h => exact ⟨fun q => absurd q (by decide), fun q => absurd q h⟩
theorem zf_gt {a b : UInt64} (ha : zf_ok a) (hb : zf_ok b) : 0 < cml a b ↔ zf_s b < zf_s a := by
  rw [(zf_cv ha hb).1]
  split
  · next h => exact ⟨fun q => absurd q (by decide), fun q => absurd h (by omega)⟩
  · split
    · next h => exact ⟨fun q => absurd q (by decide), fun q => absurd q (by omega)⟩
    · next h h2 => exact ⟨fun _ => by omega, fun _ => by decide⟩
theorem zf_inj {a b : UInt64} (ha : a.toNat ≤ 9218868437227405312) (hb : b.toNat ≤ 9218868437227405312) (h : zf_s a = zf_s b) : a = b := by
  rw [zf_s0 ha, zf_s0 hb] at h
  exact UInt64.toNat_inj.mp (by omega)
/-! ranges by powers of two: a, b are exponents as they stand in the bits -/
def zr (a b : Nat) (v : UInt64) : Prop := a * 4503599627370496 ≤ v.toNat ∧ v.toNat ≤ b * 4503599627370496 ∧ 1 ≤ a ∧ b ≤ 2046
theorem zf_mn {a b r : Nat} (h1 : a * 4503599627370496 ≤ r) (h2 : r ≤ b * 4503599627370496) (hb : b ≤ 2046) : a * 4503599627370496 ≤ min 9218868437227405312 r ∧ min 9218868437227405312 r ≤ b * 4503599627370496 := by
  rw [Nat.min_eq_right (by omega : r ≤ 9218868437227405312)]
  exact ⟨h1, h2⟩
theorem zr_I {a b : Nat} {v : UInt64} (h : zr a b v) : v.toNat < 9218868437227405312 := by unfold zr at h; omega
theorem zr_ok {a b : Nat} {v : UInt64} (h : zr a b v) : zf_ok v := Or.inl (by have := zr_I h; omega)
theorem zr_le {a b : Nat} {v : UInt64} (h : zr a b v) : a ≤ b := by unfold zr at h; omega
theorem zr_mono {a b c d : Nat} {v : UInt64} (h : zr a b v) (h1 : c ≤ a) (h2 : b ≤ d) (h3 : 1 ≤ c) (h4 : d ≤ 2046) : zr c d v := by
  obtain ⟨g1, g2, g3, g4⟩ := h
  exact ⟨Nat.le_trans (Nat.mul_le_mul_right _ h1) g1, Nat.le_trans g2 (Nat.mul_le_mul_right _ h2), h3, h4⟩
theorem zr_v {a b : Nat} {v : UInt64} (h : zr a b v) : 2 ^ (51 + a) ≤ zf_v v.toNat ∧ zf_v v.toNat ≤ 2 ^ (51 + b) := by
  have hl := zr_le h
  obtain ⟨h1, h2, h3, h4⟩ := h
  rw [← zf_vp h3, ← zf_vp (by omega : 1 ≤ b)]
  exact ⟨zf_vle.mpr h1, zf_vle.mpr h2⟩
theorem zr_mul {a b c d : Nat} {x y : UInt64} (hx : zr a b x) (hy : zr c d y) (h1 : 1024 ≤ a + c) (h2 : b + d ≤ 3069) : zr (a + c - 1023) (b + d - 1023) (FP.dmul x y) := by
  have la := zr_le hx
  have lc := zr_le hy
  obtain ⟨x1, x2⟩ := zr_v hx
  obtain ⟨y1, y2⟩ := zr_v hy
  have e := zf_mul (zr_I hx) (zr_I hy)
  have k1 : (a + c - 1023) * 4503599627370496 ≤ zf_rb (zf_v x.toNat * zf_v y.toNat) zf_U := by
    refine zf_lo zf_Up ?_
    rw [zf_vp (by omega)]
    unfold zf_U
    rw [← Nat.pow_add, show 51 + (a + c - 1023) + 1074 = (51 + a) + (51 + c) by omega, Nat.pow_add]
    exact Nat.mul_le_mul x1 y1
  have k2 : zf_rb (zf_v x.toNat * zf_v y.toNat) zf_U ≤ (b + d - 1023) * 4503599627370496 := by
    refine zf_hi zf_Up ?_
    rw [zf_vp (by omega)]
    unfold zf_U
    rw [← Nat.pow_add, show 51 + (b + d - 1023) + 1074 = (51 + b) + (51 + d) by omega, Nat.pow_add]
    exact Nat.mul_le_mul x2 y2
  have kk := zf_mn k1 k2 (by omega)
  unfold zr
  rw [e]
  exact ⟨kk.1, kk.2, by omega, by omega⟩
theorem zr_div {a b c d : Nat} {x y : UInt64} (hx : zr a b x) (hy : zr c d y) (h1 : d + 1 ≤ a + 1023) (h2 : b + 1023 ≤ 2046 + c) : zr (a + 1023 - d) (b + 1023 - c) (FP.ddiv x y) := by
  have la := zr_le hx
  have lc := zr_le hy
  obtain ⟨x1, x2⟩ := zr_v hx
  obtain ⟨y1, y2⟩ := zr_v hy
  have hy0 : 0 < y.toNat := by have := hy.1; have := hy.2.2.1; omega
  have e := zf_div (zr_I hx) (zr_I hy) hy0
  have k1 : (a + 1023 - d) * 4503599627370496 ≤ zf_rb (zf_v x.toNat * zf_U) (zf_v y.toNat) := by
    refine zf_lo (zf_vpos hy0) ?_
    rw [zf_vp (by omega)]
    refine Nat.le_trans (Nat.mul_le_mul_left _ y2) ?_
    unfold zf_U
    rw [← Nat.pow_add, show 51 + (a + 1023 - d) + (51 + d) = (51 + a) + 1074 by omega, Nat.pow_add]
    exact Nat.mul_le_mul_right _ x1
  have k2 : zf_rb (zf_v x.toNat * zf_U) (zf_v y.toNat) ≤ (b + 1023 - c) * 4503599627370496 := by
    refine zf_hi (zf_vpos hy0) ?_
    rw [zf_vp (by omega)]
    refine Nat.le_trans ?_ (Nat.mul_le_mul_left _ y1)
    unfold zf_U
    rw [← Nat.pow_add, show 51 + (b + 1023 - c) + (51 + c) = (51 + b) + 1074 by omega, Nat.pow_add]
    exact Nat.mul_le_mul_right _ x2
  have kk := zf_mn k1 k2 (by omega)
  unfold zr
  rw [e]
  exact ⟨kk.1, kk.2, by omega, by omega⟩
theorem zf_vb {y d : Nat} (hy : y ≤ d * 4503599627370496) (hd : 1 ≤ d) : zf_v y ≤ 2 ^ (51 + d) := by
  rw [← zf_vp hd]; exact zf_vle.mpr hy
theorem zr_add {a b e : Nat} {x y : UInt64} (hx : zr a b x) (hy : y.toNat ≤ e * 4503599627370496) (hb : b ≤ e) (he : e + 1 ≤ 2046) : zr a (e + 1) (FP.dadd x y) := by
  have la := zr_le hx
  have hx3 := hx.2.2.1
  obtain ⟨x1, x2⟩ := zr_v hx
  have y2 := zf_vb hy (by omega)
  have ee := zf_add (x := x) (y := y) (zr_I hx) (by omega)
  have k1 : a * 4503599627370496 ≤ zf_rb (zf_v x.toNat + zf_v y.toNat) 1 := by
    refine zf_lo (by decide) ?_
    rw [zf_vp hx3, Nat.mul_one]
    exact Nat.le_trans x1 (Nat.le_add_right _ _)
  have k2 : zf_rb (zf_v x.toNat + zf_v y.toNat) 1 ≤ (e + 1) * 4503599627370496 := by
    refine zf_hi (by decide) ?_
    rw [zf_vp (by omega), Nat.mul_one, show 51 + (e + 1) = (51 + e) + 1 by omega, Nat.pow_succ, Nat.mul_two]
    exact Nat.add_le_add (Nat.le_trans x2 (Nat.pow_le_pow_right (by decide) (by omega))) y2
  have kk := zf_mn k1 k2 (by omega)
  unfold zr
  rw [ee]
  exact ⟨kk.1, kk.2, by omega, by omega⟩
theorem zf_addc {x y : UInt64} (hx : x.toNat < 9218868437227405312) (hy : y.toNat < 9218868437227405312) : FP.dadd x y = FP.dadd y x := by
  refine UInt64.toNat_inj.mp ?_
  rw [zf_add hx hy, zf_add hy hx, Nat.add_comm]
theorem zf_nI {n : Nat} (h : n < 2147483648) : (nI n).toInt = (n : Int) := by
  show (Int32.ofNat n).toInt = _
  rw [Int32.toInt_ofNat_of_lt h]
theorem zf_i2n {n : Nat} (h : n < 2147483648) : (FP.i2d (nI n)).toNat = min 9218868437227405312 (zf_rb (n * zf_U) 1) := by
  rw [zf_i2d, zf_nI h, show decide ((n : Int) < 0) = false from decide_eq_false (by omega), show false.toNat * 9223372036854775808 = 0 from Nat.zero_mul _, Nat.zero_add]
  rfl
theorem zr_i2d {n j : Nat} (h1 : 1 ≤ n) (h2 : n ≤ 2 ^ j) (hn : n < 2147483648) (hj : j ≤ 31) : zr 1023 (1023 + j) (FP.i2d (nI n)) := by
  have e := zf_i2n hn
  have k1 : 1023 * 4503599627370496 ≤ zf_rb (n * zf_U) 1 := by
    refine zf_lo (by decide) ?_
    rw [zf_vp (by decide), Nat.mul_one]
    exact Nat.le_mul_of_pos_left _ h1
  have k2 : zf_rb (n * zf_U) 1 ≤ (1023 + j) * 4503599627370496 := by
    refine zf_hi (by decide) ?_
    rw [zf_vp (by omega), Nat.mul_one, show 51 + (1023 + j) = j + 1074 by omega, Nat.pow_add]
    exact Nat.mul_le_mul_right _ h2
  have kk := zf_mn k1 k2 (by omega)
  unfold zr
  rw [e]
  exact ⟨kk.1, kk.2, by omega, by omega⟩
theorem zf_rb0 {D : Nat} (hD : 0 < D) : zf_rb 0 D = 0 := Nat.le_zero.mp (zf_hi hD (by rw [zf_v0, Nat.zero_mul]; exact Nat.le_refl _))
theorem zf_i2d0 : FP.i2d (nI 0) = 0 := by decide +kernel
theorem zf_mul0 {x : UInt64} (hx : x.toNat < 9218868437227405312) : FP.dmul x 0 = 0 := by
  refine UInt64.toNat_inj.mp ?_
  rw [zf_mul hx (by decide), show (0 : UInt64).toNat = 0 from rfl, zf_v0, Nat.mul_zero, zf_rb0 zf_Up]
  rfl
theorem zf_0div {y : UInt64} (hy : y.toNat < 9218868437227405312) (h0 : 0 < y.toNat) : FP.ddiv 0 y = 0 := by
  refine UInt64.toNat_inj.mp ?_
  rw [zf_div (by decide) hy h0, show (0 : UInt64).toNat = 0 from rfl, zf_v0, Nat.zero_mul, zf_rb0 (zf_vpos h0)]
  rfl
theorem zf_add0 {x : UInt64} (hx : x.toNat < 9218868437227405312) : FP.dadd x 0 = x := by
  refine UInt64.toNat_inj.mp ?_
  rw [zf_add hx (by decide), show (0 : UInt64).toNat = 0 from rfl, zf_v0, Nat.add_zero]
  have := zf_ex (b := x.toNat) (D := 1) (by decide)
  rw [Nat.mul_one] at this
  rw [this]
  exact Nat.min_eq_right (Nat.le_of_lt hx)
/-- what is above 1 is above it by 2^-52 at least -/
theorem zr_sub1 {b : Nat} {m : UInt64} (h1 : 1023 * 4503599627370496 < m.toNat) (h2 : m.toNat ≤ b * 4503599627370496) (hb : b ≤ 2046) : zr 971 b (FP.dsub m 4607182418800017408) := by
  have e := zf_sub (x := m) (y := 4607182418800017408) (by omega) (by show (4607182418800017408 : Nat) ≤ _; omega)
  rw [show (4607182418800017408 : UInt64).toNat = 1023 * 4503599627370496 from rfl, zf_vp (by decide)] at e
  have hv : (1023 * 4503599627370496 + 1) ≤ m.toNat := h1
  have v1 := zf_vle.mpr hv
  have vk : zf_k (1023 * 4503599627370496 + 1) = 1022 := by unfold zf_k; decide
  have vm : zf_m (1023 * 4503599627370496 + 1) = 4503599627370496 + 1 := by unfold zf_m; rw [vk]
  have vv : zf_v (1023 * 4503599627370496 + 1) = 2 ^ (51 + 1023) + 2 ^ (51 + 971) := by
    unfold zf_v
    rw [vk, vm, show 51 + 1023 = 52 + 1022 from rfl, show 51 + 971 = 1022 from rfl, Nat.pow_add, Nat.add_mul, Nat.one_mul, show (4503599627370496 : Nat) = 2 ^ 52 by decide]
  rw [vv] at v1
  have v2 : zf_v m.toNat ≤ 2 ^ (51 + b) := zf_vb h2 (by omega)
  obtain ⟨A, hA⟩ : ∃ A, A = 2 ^ (51 + 1023) := ⟨_, rfl⟩
  rw [← hA] at v1 e
  have k1 : 971 * 4503599627370496 ≤ zf_rb (zf_v m.toNat - A) 1 := by
    refine zf_lo (by decide) ?_
    rw [zf_vp (by decide), Nat.mul_one]
    exact Nat.le_sub_of_add_le (by rw [Nat.add_comm]; exact v1)
  have k2 : zf_rb (zf_v m.toNat - A) 1 ≤ b * 4503599627370496 := by
    refine zf_hi (by decide) ?_
    rw [zf_vp (by omega), Nat.mul_one]
    exact Nat.le_trans (Nat.sub_le _ _) v2
  have kk := zf_mn k1 k2 (by omega)
  unfold zr
  rw [e]
  exact ⟨kk.1, kk.2, by omega, by omega⟩
theorem zr_sq {b : Nat} {m : UInt64} (h1 : 1023 * 4503599627370496 < m.toNat) (h2 : m.toNat ≤ b * 4503599627370496) (hb : b + b ≤ 3069) : 1023 * 4503599627370496 < (FP.dmul m m).toNat ∧ (FP.dmul m m).toNat ≤ (b + b - 1023) * 4503599627370496 := by
  have hm : zr 1023 b m := ⟨by omega, h2, by decide, by omega⟩
  have q := zr_mul hm hm (by decide) hb
  refine ⟨?_, q.2.1⟩
  have e := zf_mul (zr_I hm) (zr_I hm)
  have k : m.toNat ≤ zf_rb (zf_v m.toNat * zf_v m.toNat) zf_U := by
    refine zf_lo zf_Up ?_
    refine Nat.mul_le_mul_left _ ?_
    have := (zr_v hm).1
    unfold zf_U
    exact this
  rw [e]
  exact Nat.lt_min.mpr ⟨by decide, by omega⟩
