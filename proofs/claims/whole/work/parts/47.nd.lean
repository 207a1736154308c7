/-! the bits that the class works out; arguments as numbers; sensitivity -/
theorem zb_m1 {x : Nat} (h : 1 ≤ x) : Int64.ofNat x - 1 = Int64.ofNat (x - 1) := by
  obtain ⟨y, rfl⟩ : ∃ y, x = y + 1 := ⟨x - 1, by omega⟩
  rw [Int64.ofNat_add, Nat.add_sub_cancel]
  exact Int64.add_sub_cancel _ _
theorem zb_ok {v : UInt64} {E T : Nat} (hv : v.toNat = E * 4503599627370496 + T) (hT : T < 4503599627370496) (hE : E ≤ 2046) : v.toNat ≤ 9218868437227405312 := by omega
theorem zb_52 : (4841369599423283200 : UInt64).toNat = 1075 * 4503599627370496 := by decide +kernel
theorem zb_53 : (4845873199050653696 : UInt64).toNat = 1076 * 4503599627370496 := by decide +kernel
theorem zb_l52 {v : UInt64} (h : v.toNat ≤ 9218868437227405312) : cmg v 4841369599423283200 < 0 ↔ v.toNat < 1075 * 4503599627370496 := by
  have k : zf_ok 4841369599423283200 := Or.inl (by decide +kernel)
  rw [zf_gl (Or.inl h) k, zf_lt (Or.inl h) k, zf_s0 h, zf_s0 (v := 4841369599423283200) (by decide +kernel), zb_52]
  exact Int.ofNat_lt
theorem zb_l53 {v : UInt64} (h : v.toNat ≤ 9218868437227405312) : cml v 4845873199050653696 < 0 ↔ v.toNat < 1076 * 4503599627370496 := by
  have k : zf_ok 4845873199050653696 := Or.inl (by decide +kernel)
  rw [zf_lt (Or.inl h) k, zf_s0 h, zf_s0 (v := 4845873199050653696) (by decide +kernel), zb_53]
  exact Int.ofNat_lt
theorem zb_up : ∀ (j d : Nat) (s : UInt64) (x E T : Nat), E + j = 1075 ∨ (j = 0 ∧ 1075 ≤ E) → j ≤ d → j ≤ x → s.toNat = E * 4503599627370496 + T → T < 4503599627370496 → 1 ≤ E → E ≤ 2046 → bUpOK d s ∧ ∃ s2, bUp d s (Int64.ofNat x) = (s2, Int64.ofNat (x - j)) ∧ s2.toNat = (E + j) * 4503599627370496 + T
  | 0, d, s, x, E, T, hE, hd, hx, hs, hT, h1, h2 => by
    have hn : ¬ cmg s 4841369599423283200 < 0 := by
      rw [zb_l52 (zb_ok hs hT h2)]
      omega
    cases d with
    | zero => exact ⟨trivial, s, rfl, by rw [hs, Nat.add_zero]⟩
    | succ d => exact ⟨fun q => absurd q hn, s, if_neg hn, by rw [hs, Nat.add_zero]⟩
  | j + 1, d, s, x, E, T, hE, hd, hx, hs, hT, h1, h2 => by
    have hE2 : E + (j + 1) = 1075 := by omega
    obtain ⟨d, rfl⟩ : ∃ e, d = e + 1 := ⟨d - 1, by omega⟩
    have hc : cmg s 4841369599423283200 < 0 := by
      rw [zb_l52 (zb_ok hs hT h2)]
      omega
    have hd2 := zb_dbl (v := s) (E := E) h1 (by omega) (by omega) (by omega)
    have hs2 : (FP.dmul s 4611686018427387904).toNat = (E + 1) * 4503599627370496 + T := by rw [hd2, hs]; omega
    obtain ⟨r1, s2, r2, r3⟩ := zb_up j d (FP.dmul s 4611686018427387904) (x - 1) (E + 1) T (Or.inl (by omega)) (by omega) (by omega) hs2 hT (by omega) (by omega)
    refine ⟨fun _ => ⟨zf_n64 (Or.inl (zb_ok hs2 hT (by omega))), r1⟩, s2, ?_, ?_⟩
    · show (if cmg s 4841369599423283200 < 0 then bUp d (FP.dmul s 4611686018427387904) (Int64.ofNat x - 1) else (s, Int64.ofNat x)) = _
      rw [if_pos hc, zb_m1 (by omega), r2, show x - 1 - j = x - (j + 1) by omega]
    · rw [r3, show E + 1 + j = E + (j + 1) by omega]
theorem zb_dn : ∀ (j d : Nat) (s : UInt64) (x E T : Nat), E = 1075 + j → j ≤ d → s.toNat = E * 4503599627370496 + T → T < 4503599627370496 → E ≤ 2046 → bDnOK d s ∧ ∃ s2, bDn d s (Int64.ofNat x) = (s2, Int64.ofNat (x + j)) ∧ s2.toNat = 1075 * 4503599627370496 + T
  | 0, d, s, x, E, T, hE, hd, hs, hT, h2 => by
    have hE0 : E = 1075 := by omega
    subst hE0
    have hc : cml s 4845873199050653696 < 0 := by
      rw [zb_l53 (zb_ok hs hT h2)]
      omega
    cases d with
    | zero => exact ⟨trivial, s, rfl, hs⟩
    | succ d => exact ⟨fun q => absurd hc q, s, if_pos hc, hs⟩
  | j + 1, d, s, x, E, T, hE, hd, hs, hT, h2 => by
    obtain ⟨d, rfl⟩ : ∃ e, d = e + 1 := ⟨d - 1, by omega⟩
    have hn : ¬ cml s 4845873199050653696 < 0 := by
      rw [zb_l53 (zb_ok hs hT h2)]
      omega
    have hd2 := zb_hlv (v := s) (E := E) (by omega) h2 (by omega) (by omega)
    have hs2 : (FP.ddiv s 4611686018427387904).toNat = (E - 1) * 4503599627370496 + T := by rw [hd2, hs]; omega
    obtain ⟨r1, s2, r2, r3⟩ := zb_dn j d (FP.ddiv s 4611686018427387904) (x + 1) (E - 1) T (by omega) (by omega) hs2 hT (by omega)
    refine ⟨fun _ => ⟨zf_n64 (Or.inl (zb_ok hs2 hT (by omega))), r1⟩, s2, ?_, r3⟩
    rw [bDn_n hn, show Int64.ofNat x + 1 = Int64.ofNat (x + 1) from (Int64.ofNat_add x 1).symm, r2, show x + 1 + j = x + (j + 1) by omega]
theorem zb_shl {E : Nat} (hE : E ≤ 2046) : Int64.ofNat E <<< ((52 : Int32).toInt64 &&& 63) = Int64.ofNat (E * 4503599627370496) := by
  apply Int64.toBitVec_inj.1
  show (BitVec.ofNat 64 E) <<< (((52 : Int32).toInt64 &&& 63).toBitVec.smod 64) = BitVec.ofNat 64 (E * 4503599627370496)
  rw [show (((52 : Int32).toInt64 &&& 63).toBitVec.smod 64) = 52#64 by decide +kernel]
  show (BitVec.ofNat 64 E) <<< 52 = _
  apply BitVec.eq_of_toNat_eq
  rw [BitVec.toNat_shiftLeft, Nat.shiftLeft_eq, BitVec.toNat_ofNat, BitVec.toNat_ofNat, Nat.mod_eq_of_lt (by omega : E < 2 ^ 64)]
theorem zb_d2l {s : UInt64} {T : Nat} (hs : s.toNat = 1075 * 4503599627370496 + T) (hT : T < 4503599627370496) : FP.d2l s = Int64.ofNat (4503599627370496 + T) := by
  show FP.Core.toL (FP.Core.decode FP.Core.b64 s.toNat) = _
  have hk : zf_k s.toNat = 1074 := by unfold zf_k; omega
  have hm : zf_m s.toNat = 4503599627370496 + T := by unfold zf_m; rw [hk]; omega
  rw [zf_d0 (by omega), hk, hm]
  have ht : FP.Core.truncate false (4503599627370496 + T) (((1074 : Nat) : Int) - 1074) = ((4503599627370496 + T : Nat) : Int) := by
    unfold FP.Core.truncate
    rw [show (((1074 : Nat) : Int) - 1074) = 0 by decide, zf_signed0]
    show ((((4503599627370496 + T) * 2 ^ 0 / 2 ^ 0 : Nat)) : Int) = _
    rw [Nat.pow_zero, Nat.mul_one, Nat.div_one]
  unfold FP.Core.toL FP.Core.toInt
  simp only
  rw [ht]
  have hr : max (-2 ^ 63 : Int) (min (2 ^ 63 - 1) ((4503599627370496 + T : Nat) : Int)) = ((4503599627370496 + T : Nat) : Int) := by omega
  rw [hr]
  apply Int64.toBitVec_inj.1
  exact BitVec.ofInt_natCast 64 _
theorem zb_toI {v : UInt64} : v.toInt64 = Int64.ofNat v.toNat := by
  apply Int64.toBitVec_inj.1
  show v.toBitVec = BitVec.ofNat 64 v.toNat
  apply BitVec.eq_of_toNat_eq
  rw [BitVec.toNat_ofNat]
  exact (Nat.mod_eq_of_lt v.toBitVec.isLt).symm
theorem zb_all {v : UInt64} {E T : Nat} (hv : v.toNat = E * 4503599627370496 + T) (hT : T < 4503599627370496) (h1 : 1 ≤ E) (h2 : E ≤ 2046) : bitOK v ∧ (bDn 1100 (bUp 1100 v 1075).1 (bUp 1100 v 1075).2).2 = Int64.ofNat E ∧ (bDn 1100 (bUp 1100 v 1075).1 (bUp 1100 v 1075).2).1.toNat = 1075 * 4503599627370496 + T := by
  unfold bitOK
  obtain ⟨u1, s2, u2, u3⟩ := zb_up (1075 - E) 1100 v 1075 E T (by omega) (by omega) (by omega) hv hT h1 h2
  rw [show (1075 : Int64) = Int64.ofNat 1075 from rfl, u2]
  obtain ⟨d1, s3, d2, d3⟩ := zb_dn (E - 1075) 1100 s2 (1075 - (1075 - E)) (E + (1075 - E)) T (by omega) (by omega) u3 hT (by omega)
  refine ⟨⟨u1, d1⟩, ?_, ?_⟩
  · show (bDn 1100 s2 (Int64.ofNat (1075 - (1075 - E)))).2 = _
    rw [d2, show 1075 - (1075 - E) + (E - 1075) = E by omega]
  · show (bDn 1100 s2 (Int64.ofNat (1075 - (1075 - E)))).1.toNat = _
    rw [d2]; exact d3
theorem z0_ok : zf_ok 0 := Or.inl (by decide +kernel)
theorem z0_s : zf_s 0 = 0 := zf_s0 (v := 0) (by decide +kernel)
theorem zb_eq {v : UInt64} (h : zf_ok v) : cml v v = 0 := by rw [zf_eq h h]
theorem zb_r {a b : Nat} {v : UInt64} (h : zr a b v) : bitOK v ∧ bEQ v := by
  obtain ⟨h1, h2, h3, h4⟩ := h
  have hE : v.toNat = (v.toNat / 4503599627370496) * 4503599627370496 + v.toNat % 4503599627370496 := by omega
  have hE1 : 1 ≤ v.toNat / 4503599627370496 := by omega
  have hE2 : v.toNat / 4503599627370496 ≤ 2046 := by omega
  obtain ⟨a1, a2, a3⟩ := zb_all hE (by omega) hE1 hE2
  have ok : v.toNat ≤ 9218868437227405312 := by omega
  refine ⟨a1, zb_eq (Or.inl ok), ?_⟩
  unfold bitS2
  have c1 : 0 < cml v 0 := by rw [zf_gt (Or.inl ok) z0_ok, z0_s, zf_s0 ok]; omega
  have c2 : cml v 9218868437227405312 < 0 := by rw [zf_lt (Or.inl ok) zI_ok, zI_s, zf_s0 ok]; omega
  rw [if_pos c1, if_pos c2, a2, zb_d2l a3 (by omega), zb_shl hE2, zb_toI, Nat.add_comm 4503599627370496, Int64.ofNat_add (v.toNat % 4503599627370496), show Int64.ofNat 4503599627370496 = 4503599627370496 from rfl, Int64.add_sub_cancel, ← Int64.ofNat_add, ← hE]
theorem zb_up0 : ∀ (d : Nat) (e : Int64), bUpOK d 0 ∧ (bUp d 0 e).1 = 0
  | 0, _ => ⟨trivial, rfl⟩
  | d + 1, e => by
    have h : FP.dmul 0 4611686018427387904 = 0 := by decide +kernel
    have hc : cmg 0 4841369599423283200 < 0 := by decide +kernel
    have ih := zb_up0 d (e - 1)
    refine ⟨fun _ => ⟨by rw [h]; exact zf_n64 z0_ok, by rw [h]; exact ih.1⟩, ?_⟩
    show (if cmg 0 4841369599423283200 < 0 then bUp d (FP.dmul 0 4611686018427387904) (e - 1) else (0, e)).1 = 0
    rw [if_pos hc, h]; exact ih.2
theorem zb_dnI : ∀ (d : Nat), bDnOK d 9218868437227405312
  | 0 => trivial
  | d + 1 => by
    have h : FP.ddiv 9218868437227405312 4611686018427387904 = 9218868437227405312 := by decide +kernel
    exact fun _ => ⟨by rw [h]; exact zf_n64 zI_ok, by rw [h]; exact zb_dnI d⟩
theorem zb_0 : bitOK 0 ∧ bEQ 0 := by
  refine ⟨?_, zb_eq z0_ok, ?_⟩
  · have q := zb_up0 1100 1075
    refine ⟨q.1, ?_⟩
    rw [q.2]
    exact fun z => absurd (by decide +kernel) z
  · unfold bitS2
    rw [if_neg (by decide +kernel)]
    decide +kernel
theorem zb_I : bitOK 9218868437227405312 ∧ bEQ 9218868437227405312 := by
  refine ⟨?_, zb_eq zI_ok, ?_⟩
  · refine ⟨fun z => absurd z (by decide +kernel), ?_⟩
    have h : bUp 1100 9218868437227405312 1075 = (9218868437227405312, 1075) := if_neg (by decide +kernel)
    rw [h]
    exact zb_dnI 1100
  · unfold bitS2
    rw [if_pos (by decide +kernel), if_neg (by decide +kernel)]
    decide +kernel
/-! arguments -/
theorem zf_nan {v : UInt64} (h : ¬ zf_ok v) : FP.Core.decode FP.Core.b64 v.toNat = .nan := by
  have hv := v.toNat_lt
  have fE : FP.Core.fieldE FP.Core.b64 v.toNat = 2047 := by
    unfold FP.Core.fieldE
    rw [zf_tl, zf_es]
    unfold zf_ok at h
    omega
  have fT : FP.Core.fieldT FP.Core.b64 v.toNat ≠ 0 := by
    unfold FP.Core.fieldT
    rw [zf_tl]
    unfold zf_ok at h
    omega
  unfold FP.Core.decode
  rw [fE, zf_es, if_pos (by decide), if_neg fT]
theorem zi_ok {v lo hi : UInt64} (h : inD v lo hi) : zf_ok v := by
  refine Classical.byContradiction (fun q => h ?_)
  have e : FP.dcmp v lo = none := by
    show FP.Core.order (FP.Core.decode FP.Core.b64 v.toNat) _ = none
    rw [zf_nan q]
    rfl
  unfold bD
  refine bI_f (fun z => z.1 ?_)
  rw [e]
  decide
theorem zi_D {v lo hi : UInt64} (h : inD v lo hi) (h1 : lo.toNat ≤ 9218868437227405312) (h2 : hi.toNat ≤ 9218868437227405312) (hz : v.toNat ≠ 9223372036854775808) : lo.toNat ≤ v.toNat ∧ v.toNat ≤ hi.toNat := by
  have ok := zi_ok h
  have q : ¬ Op.cmpValue (FP.dcmp v lo) .l < 0 ∧ ¬ 0 < Op.cmpValue (FP.dcmp v hi) .g := Decidable.byContradiction (fun z => h (bI_f z))
  obtain ⟨q1, q2⟩ := q
  have q1 : ¬ cml v lo < 0 := q1
  have q2 : ¬ 0 < cmg v hi := q2
  rw [zf_gl ok (Or.inl h2), zf_gt ok (Or.inl h2), zf_s0 h2] at q2
  rw [zf_lt ok (Or.inl h1), zf_s0 h1] at q1
  unfold zf_s at q1 q2
  unfold zf_ok at ok
  by_cases z : v.toNat < 9223372036854775808
  · rw [if_pos z] at q1 q2
    omega
  · rw [if_neg z] at q1 q2
    omega
theorem zi_z {v lo hi : UInt64} (h : inD v lo hi) (h0 : 0 < lo.toNat) (h1 : lo.toNat ≤ 9218868437227405312) : v.toNat ≠ 9223372036854775808 := by
  have ok := zi_ok h
  have q : ¬ Op.cmpValue (FP.dcmp v lo) .l < 0 ∧ ¬ 0 < Op.cmpValue (FP.dcmp v hi) .g := Decidable.byContradiction (fun z => h (bI_f z))
  have q1 : ¬ cml v lo < 0 := q.1
  rw [zf_lt ok (Or.inl h1), zf_s0 h1] at q1
  intro z
  unfold zf_s at q1
  rw [z, if_neg (by decide)] at q1
  omega
theorem zi_imp {v : UInt64} (h : inD v 4576918229304087675 4652007308841189376) : zr 1016 1033 v := by
  have q := zi_D h (by decide +kernel) (by decide +kernel) (zi_z h (by decide +kernel) (by decide +kernel))
  exact ⟨Nat.le_trans (by decide +kernel) q.1, Nat.le_trans q.2 (by decide +kernel), by decide, by decide⟩
theorem zi_vol {v : UInt64} (h : inD v 4636737291354636288 4696837146684686336) : zr 1029 1043 v := by
  have q := zi_D h (by decide +kernel) (by decide +kernel) (zi_z h (by decide +kernel) (by decide +kernel))
  exact ⟨Nat.le_trans (by decide +kernel) q.1, Nat.le_trans q.2 (by decide +kernel), by decide, by decide⟩
theorem zi_mar {v : UInt64} (h : inD v 4587366580439587226 4617315517961601024) : zr 1018 1026 v := by
  have q := zi_D h (by decide +kernel) (by decide +kernel) (zi_z h (by decide +kernel) (by decide +kernel))
  exact ⟨Nat.le_trans (by decide +kernel) q.1, Nat.le_trans q.2 (by decide +kernel), by decide, by decide⟩
theorem zi_dur {v : UInt64} (h : inD v 4562254508917369340 4696837146684686336) : zr 1013 1043 v := by
  have q := zi_D h (by decide +kernel) (by decide +kernel) (zi_z h (by decide +kernel) (by decide +kernel))
  exact ⟨Nat.le_trans (by decide +kernel) q.1, Nat.le_trans q.2 (by decide +kernel), by decide, by decide⟩
theorem zi_curr {v : UInt64} (h : inD v 0 4741671816366391296) (hz : v.toNat ≠ 9223372036854775808) : v.toNat ≤ 1053 * 4503599627370496 := by
  have q := zi_D h (by decide +kernel) (by decide +kernel) hz
  exact Nat.le_trans q.2 (by decide +kernel)
/-- an argument: an int, times 0.125 -/
def arD (i : Int32) : UInt64 := FP.dmul (FP.i2d i) 4593671619917905920
theorem ar_ok (i : Int32) : vf_n64 (arD i) ∧ (arD i).toNat ≠ 9223372036854775808 := by
  have hi := i.toInt_lt
  have hl := i.le_toInt
  have e := zf_i2d i
  have hn : i.toInt.natAbs ≤ 2147483648 := by omega
  have hb : zf_rb (i.toInt.natAbs * zf_U) 1 ≤ 1055 * 4503599627370496 := by
    refine zf_hi (by decide) ?_
    rw [zf_vp (by decide), Nat.mul_one]
    unfold zf_U
    rw [show 51 + 1055 = 32 + 1074 from rfl, Nat.pow_add]
    exact Nat.mul_le_mul_right _ (Nat.le_trans hn (by decide))
  have hb2 : zf_rb (i.toInt.natAbs * zf_U) 1 ≤ 9218868437227405312 := Nat.le_trans hb (by decide)
  rw [Nat.min_eq_right hb2] at e
  unfold arD
  by_cases h : i.toInt < 0
  · rw [decide_eq_true h, show true.toNat * 9223372036854775808 = 9223372036854775808 from Nat.one_mul _] at e
    have m := zf_mulN (x := FP.i2d i) (y := 4593671619917905920) e (Nat.lt_of_le_of_lt hb (by decide)) (by decide +kernel)
    have k0 : 1023 * 4503599627370496 ≤ zf_rb (i.toInt.natAbs * zf_U) 1 := by
      refine zf_lo (by decide) ?_
      rw [zf_vp (by decide), Nat.mul_one]
      exact Nat.le_mul_of_pos_left _ (by omega)
    have k1 : 1 ≤ zf_rb (zf_v (zf_rb (i.toInt.natAbs * zf_U) 1) * zf_v (4593671619917905920 : UInt64).toNat) zf_U := by
      refine zf_lo zf_Up ?_
      rw [show zf_v 1 = 1 by decide, Nat.one_mul]
      have a := zf_vle.mpr k0
      rw [zf_vp (by decide)] at a
      have b : 1 ≤ zf_v (4593671619917905920 : UInt64).toNat := zf_vpos (by decide +kernel)
      exact Nat.le_trans a (Nat.le_mul_of_pos_right _ b)
    have k2 : 1 ≤ min 9218868437227405312 (zf_rb (zf_v (zf_rb (i.toInt.natAbs * zf_U) 1) * zf_v (4593671619917905920 : UInt64).toNat) zf_U) := Nat.le_min.mpr ⟨by decide, k1⟩
    refine ⟨zf_n64 (Or.inr ?_), ?_⟩
    · rw [m]; exact ⟨Nat.le_add_right _ _, Nat.add_le_add_left (Nat.min_le_left _ _) _⟩
    · rw [m]; omega
  · rw [decide_eq_false h, show false.toNat * 9223372036854775808 = 0 from Nat.zero_mul _, Nat.zero_add] at e
    have m := zf_mul (x := FP.i2d i) (y := 4593671619917905920) (by rw [e]; exact Nat.lt_of_le_of_lt hb (by decide)) (by decide +kernel)
    have k := Nat.min_le_left 9218868437227405312 (zf_rb (zf_v (FP.i2d i).toNat * zf_v (4593671619917905920 : UInt64).toNat) zf_U)
    refine ⟨zf_n64 (Or.inl ?_), ?_⟩
    · rw [m]; exact k
    · rw [m]; omega
theorem zc_sens {g : Hp} {n k : Nat} (h : CR g n) (hk : k < n) : vf_n64 (FP.dmul (curS g k (nI 100)) 4605975454099882115) ∧ vf_n64 (FP.ddiv (FP.dmul (curS g k (nI 100)) 4605975454099882115) (FP.i2d (g.1 8 k))) ∧ zf_ok (FP.ddiv (FP.dmul (curS g k (nI 100)) 4605975454099882115) (FP.i2d (g.1 8 k))) := by
  obtain ⟨-, ⟨p, p1, p2, ep⟩, -⟩ := h.2.2.2.2.2 k hk
  have c := zc_cur h hk (Nat.le_refl 100)
  have m : zr 1006 1050 (FP.dmul (curS g k (nI 100)) 4605975454099882115) := zr_mul2 c zc_866 (by decide) (by decide) (by decide) (by decide)
  have zp : zr 1023 1038 (FP.i2d (nI p)) := zr_i2d (j := 15) p1 (by omega) (by omega) (by decide)
  rw [ep]
  have q := zr_div2 (A := 991) (B := 1050) m zp (by decide) (by decide) (by decide) (by decide)
  exact ⟨zc_n m, zc_n q, zr_ok q⟩
