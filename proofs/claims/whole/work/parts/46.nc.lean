/-! the ranges of a state, and what they give: currents, times, margins are numbers in known ranges -/
def LR (g : Hp) (k : Nat) : Prop := (∃ a, a ≤ 5000 ∧ g.1 6 k = nI a) ∧ (∃ p, 1 ≤ p ∧ p ≤ 20000 ∧ g.1 8 k = nI p) ∧ (∃ c, c ≤ 3 ∧ g.1 9 k = nI c) ∧ (∃ s, 1 ≤ s ∧ s ≤ 20 ∧ g.1 10 k = nI s) ∧ (∃ i, i ≤ 100000 ∧ g.1 11 k = nI i) ∧ ∃ h, h ≤ 3 ∧ g.1 12 k = nI h
def CR (g : Hp) (n : Nat) : Prop := n ≤ 12 ∧ zr 1029 1043 (g.2.1 2 0) ∧ zr 1016 1033 (g.2.1 2 1) ∧ zr 1018 1026 (g.2.1 1 3) ∧ (∀ k, k < n → zr 1016 1033 (g.2.1 5 k)) ∧ ∀ k, k < n → LR g k
theorem zr_mul2 {a b c d A B : Nat} {x y : UInt64} (hx : zr a b x) (hy : zr c d y) (e1 : a + c = A + 1023) (e2 : b + d = B + 1023) (h1 : 1 ≤ A) (h2 : B ≤ 2046) : zr A B (FP.dmul x y) := by
  have := zr_mul hx hy (by omega) (by omega)
  rw [e1, e2, Nat.add_sub_cancel, Nat.add_sub_cancel] at this
  exact this
theorem zr_div2 {a b c d A B : Nat} {x y : UInt64} (hx : zr a b x) (hy : zr c d y) (e1 : a + 1023 = A + d) (e2 : b + 1023 = B + c) (h1 : 1 ≤ A) (h2 : B ≤ 2046) : zr A B (FP.ddiv x y) := by
  have := zr_div hx hy (by omega) (by omega)
  rw [e1, e2, Nat.add_sub_cancel, Nat.add_sub_cancel] at this
  exact this
theorem zc_100 : zr 1029 1030 4636737291354636288 := ⟨by decide +kernel, by decide +kernel, by decide, by decide⟩
theorem zc_135 : zr 1026 1027 4623789442425946112 := ⟨by decide +kernel, by decide +kernel, by decide, by decide⟩
theorem zc_80 : zr 1029 1030 4635329916471083008 := ⟨by decide +kernel, by decide +kernel, by decide, by decide⟩
theorem zc_120 : zr 1029 1030 4638144666238189568 := ⟨by decide +kernel, by decide +kernel, by decide, by decide⟩
theorem zc_005 : zr 1018 1019 4587366580439587226 := ⟨by decide +kernel, by decide +kernel, by decide, by decide⟩
theorem zc_004 : zr 1018 1019 4585925428558828667 := ⟨by decide +kernel, by decide +kernel, by decide, by decide⟩
theorem zc_006 : zr 1018 1019 4588807732320345784 := ⟨by decide +kernel, by decide +kernel, by decide, by decide⟩
theorem zc_05 : zr 1022 1023 4602678819172646912 := ⟨by decide +kernel, by decide +kernel, by decide, by decide⟩
theorem zc_866 : zr 1022 1023 4605975454099882115 := ⟨by decide +kernel, by decide +kernel, by decide, by decide⟩
theorem zc_125 : zr 1020 1021 4593671619917905920 := ⟨by decide +kernel, by decide +kernel, by decide, by decide⟩
theorem zc_n {a b : Nat} {v : UInt64} (h : zr a b v) : vf_n64 v := zf_n64 (zr_ok h)
theorem zc_one {v : UInt64} (h : zf_ok v) : 0 < cml v 4607182418800017408 ↔ 4607182418800017408 < zf_s v := by
  rw [zf_gt h (Or.inl (by decide +kernel)), zf_s0 (v := 4607182418800017408) (by decide +kernel)]
  exact Iff.rfl
theorem zc_ca {g : Hp} {n k : Nat} (h : CR g n) (hk : k < n) : ∀ j, j ≤ k → zr 1016 (1033 + j) (caS g k j)
  | 0, _ => h.2.2.1
  | j + 1, hj => by
    have ih := zc_ca h hk j (by omega)
    have hm := h.2.2.2.2.1 j (by omega)
    have h12 := h.1
    unfold caS
    split
    · exact zr_mono ih (by omega) (by omega) (by decide) (by omega)
    · exact zr_add (e := 1033 + j) ih (Nat.le_trans hm.2.1 (Nat.mul_le_mul_right _ (by omega : 1033 ≤ 1033 + j))) (Nat.le_refl _) (by omega)
theorem zc_ca1 {g : Hp} {n k j : Nat} (h : CR g n) (hk : k < n) (hj : j < k) : vf_n64 (FP.dadd (caS g k j) (g.2.1 5 j)) := by
  have ih := zc_ca h hk j (by omega)
  have hm := h.2.2.2.2.1 j (by omega)
  have h12 := h.1
  exact zc_n (zr_add ih (Nat.le_trans hm.2.1 (Nat.mul_le_mul_right _ (by omega : 1033 ≤ 1033 + j))) (Nat.le_refl _) (by omega))
theorem zc_z {g : Hp} {n k p : Nat} (h : CR g n) (hk : k < n) (hp : p ≤ 100) : vf_n64 (FP.dmul (g.2.1 5 k) (FP.i2d (nI p))) ∧ vf_n64 (FP.ddiv (FP.dmul (g.2.1 5 k) (FP.i2d (nI p))) 4636737291354636288) ∧ zr 1016 1045 (zS g k (nI p)) := by
  have h12 := h.1
  have c := zc_ca h hk k (Nat.le_refl _)
  have m := h.2.2.2.2.1 k hk
  unfold zS
  rcases Nat.eq_zero_or_pos p with q | q
  · rw [q, zf_i2d0, zf_mul0 (zr_I m), zf_0div (zr_I zc_100) (by decide +kernel), zf_add0 (zr_I c)]
    exact ⟨zf_n64 (Or.inl (by decide +kernel)), zf_n64 (Or.inl (by decide +kernel)), zr_mono c (by decide) (by omega) (by decide) (by decide)⟩
  · have p1 : zr 1023 1030 (FP.i2d (nI p)) := zr_i2d (j := 7) q (by omega) (by omega) (by decide)
    have p2 : zr 1016 1040 (FP.dmul (g.2.1 5 k) (FP.i2d (nI p))) := zr_mul2 m p1 (by decide) (by decide) (by decide) (by decide)
    have p3 : zr 1009 1034 (FP.ddiv (FP.dmul (g.2.1 5 k) (FP.i2d (nI p))) 4636737291354636288) := zr_div2 p2 zc_100 (by decide) (by decide) (by decide) (by decide)
    exact ⟨zc_n p2, zc_n p3, zr_add (e := 1044) c (Nat.le_trans p3.2.1 (Nat.mul_le_mul_right _ (by decide))) (by omega) (by decide)⟩
theorem zc_cur {g : Hp} {n k p : Nat} (h : CR g n) (hk : k < n) (hp : p ≤ 100) : zr 1007 1050 (curS g k (nI p)) := zr_div2 h.2.1 (zc_z h hk hp).2.2 (by decide) (by decide) (by decide) (by decide)
theorem zc_curOK {g : Hp} {n k p : Nat} (h : CR g n) (hk : k < n) (hp : p ≤ 100) : curOK g k (nI p) :=
  ⟨fun _ hj _ => zc_ca1 h hk hj, (zc_z h hk hp).1, (zc_z h hk hp).2.1, zc_n (zc_z h hk hp).2.2, zc_n (zc_cur h hk hp)⟩
theorem zc_M {cur : UInt64} {p : Nat} (hc : cur.toNat ≤ 1053 * 4503599627370496) (h1 : 1 ≤ p) (h2 : p ≤ 20000) : (FP.ddiv cur (FP.i2d (nI p))).toNat ≤ 1053 * 4503599627370496 := by
  have zp : zr 1023 1038 (FP.i2d (nI p)) := zr_i2d (j := 15) h1 (by omega) (by omega) (by decide)
  have hp0 : 0 < (FP.i2d (nI p)).toNat := Nat.lt_of_lt_of_le (by decide) zp.1
  rw [zf_div (Nat.lt_of_le_of_lt hc (by decide)) (zr_I zp) hp0]
  refine Nat.le_trans (Nat.min_le_right _ _) (zf_hi (zf_vpos hp0) ?_)
  refine Nat.mul_le_mul (zf_vle.mpr hc) ?_
  have := (zr_v zp).1
  unfold zf_U
  exact this
theorem zc_dl {c : Int32} {b m : UInt64} (hb : zr 1018 1024 b) (h1 : 1023 * 4503599627370496 < m.toNat) (h2 : m.toNat ≤ 1053 * 4503599627370496) : dlOK c b m ∧ zr 964 1083 (dlS c b m) := by
  have f1 : zr 1021 1028 (FP.dmul b 4623789442425946112) := zr_mul2 hb zc_135 (by decide) (by decide) (by decide) (by decide)
  have f2 : zr 971 1053 (FP.dsub m 4607182418800017408) := zr_sub1 h1 h2 (by decide)
  have q1 : zr 991 1080 (FP.ddiv (FP.dmul b 4623789442425946112) (FP.dsub m 4607182418800017408)) := zr_div2 f1 f2 (by decide) (by decide) (by decide) (by decide)
  have f3 : zr 1024 1031 (FP.dmul b 4635329916471083008) := zr_mul2 hb zc_80 (by decide) (by decide) (by decide) (by decide)
  obtain ⟨s1, s2⟩ := zr_sq h1 h2 (by decide)
  have sq : zr 1023 1083 (FP.dmul m m) := ⟨Nat.le_of_lt s1, s2, by decide, by decide⟩
  have f4 : zr 971 1083 (FP.dsub (FP.dmul m m) 4607182418800017408) := zr_sub1 s1 s2 (by decide)
  have q2 : zr 964 1083 (FP.ddiv (FP.dmul b 4635329916471083008) (FP.dsub (FP.dmul m m) 4607182418800017408)) := zr_div2 f3 f4 (by decide) (by decide) (by decide) (by decide)
  have f5 : zr 1024 1031 (FP.dmul b 4638144666238189568) := zr_mul2 hb zc_120 (by decide) (by decide) (by decide) (by decide)
  have q3 : zr 994 1083 (FP.ddiv (FP.dmul b 4638144666238189568) (FP.dsub m 4607182418800017408)) := zr_div2 f5 f2 (by decide) (by decide) (by decide) (by decide)
  have fin : zr 964 1083 (dlS c b m) := by
    unfold dlS
    split
    · exact zr_mono q1 (by decide) (by decide) (by decide) (by decide)
    · split
      · exact q2
      · split
        · exact zr_mono q3 (by decide) (by decide) (by decide) (by decide)
        · exact zr_mono hb (by decide) (by decide) (by decide) (by decide)
  exact ⟨⟨fun _ => ⟨zc_n f1, zc_n f2⟩, fun _ => ⟨zc_n f3, zc_n sq, zc_n f4⟩, fun _ => ⟨zc_n f5, zc_n f2⟩, zc_n fin⟩, fin⟩
/-- a time: infinity, or a number in this range -/
def zt (t : UInt64) : Prop := t = 9218868437227405312 ∨ zr 964 1083 t
theorem zt_I {t : UInt64} (h : zt t) : t.toNat ≤ 9218868437227405312 := by
  rcases h with h | h
  · rw [h]; decide +kernel
  · exact Nat.le_of_lt (zr_I h)
theorem zt_ok {t : UInt64} (h : zt t) : zf_ok t := Or.inl (zt_I h)
theorem zI_ok : zf_ok 9218868437227405312 := Or.inl (by decide +kernel)
theorem zI_s : zf_s 9218868437227405312 = 9218868437227405312 := zf_s0 (by decide +kernel)
theorem zc_tm2 {cur : UInt64} {p c s : Nat} (hc : cur.toNat ≤ 1053 * 4503599627370496) (h1 : 1 ≤ p) (h2 : p ≤ 20000) (s1 : 1 ≤ s) (s2 : s ≤ 20) : tmOK (nI p) (nI c) (nI s) cur ∧ zt (tm2 (nI p) (nI c) (nI s) cur) := by
  have hM := zc_M hc h1 h2
  have zs : zr 1023 1028 (FP.i2d (nI s)) := zr_i2d (j := 5) s1 (by omega) (by omega) (by decide)
  have zb : zr 1018 1024 (FP.dmul 4587366580439587226 (FP.i2d (nI s))) := zr_mul2 zc_005 zs (by decide) (by decide) (by decide) (by decide)
  unfold tmOK tm2
  obtain ⟨M, hMM⟩ : ∃ M, M = FP.ddiv cur (FP.i2d (nI p)) := ⟨_, rfl⟩
  rw [← hMM] at hM ⊢
  have ok : zf_ok M := Or.inl (Nat.le_trans hM (by decide))
  have key : 0 < cml M 4607182418800017408 → 1023 * 4503599627370496 < M.toNat := fun h => by
    rw [zc_one ok, zf_s0 (Nat.le_trans hM (by decide))] at h
    exact Int.ofNat_lt.mp h
  refine ⟨⟨zf_n64 ok, fun h => ⟨zc_n zb, (zc_dl zb (key h) hM).1⟩⟩, ?_⟩
  split
  · next h => exact Or.inr (zc_dl zb (key h) hM).2
  · exact Or.inl rfl
theorem zc_tm {g : Hp} {k : Nat} {cur : UInt64} (h : LR g k) (hc : cur.toNat ≤ 1053 * 4503599627370496) : tfOK g k cur ∧ zt (tfS g k cur) := by
  obtain ⟨-, ⟨p, p1, p2, ep⟩, ⟨c, -, ec⟩, ⟨s, s1, s2, es⟩, -⟩ := h
  unfold tfOK tfS
  rw [ep, ec, es]
  have q := zc_tm2 (cur := cur) (p := p) (c := c) (s := s) hc p1 p2 s1 s2
  refine ⟨q.1, ?_⟩
  unfold tmS
  split
  · exact q.2
  · split
    · exact q.2
    · exact Or.inr (zr_mono zc_004 (by decide) (by decide) (by decide) (by decide))
theorem zc_curB {g : Hp} {n k p : Nat} (h : CR g n) (hk : k < n) (hp : p ≤ 100) : (curS g k (nI p)).toNat ≤ 1053 * 4503599627370496 := Nat.le_trans (zc_cur h hk hp).2.1 (by decide)
theorem zt_lt {t : UInt64} (h : zt t) : cml t 9218868437227405312 < 0 ↔ zr 964 1083 t := by
  rw [zf_lt (zt_ok h) zI_ok, zf_s0 (zt_I h), zI_s]
  constructor
  · intro z
    rcases h with h | h
    · rw [h] at z; exact absurd z (by decide +kernel)
    · exact h
  · intro z
    exact Int.ofNat_lt.mpr (zr_I z)
theorem zt_eq {t : UInt64} (h : zt t) : cml t 9218868437227405312 = 0 ↔ t = 9218868437227405312 := by
  rw [zf_eq (zt_ok h) zI_ok]
  exact ⟨fun z => zf_inj (zt_I h) (by decide +kernel) z, fun z => by rw [z]⟩
theorem zt_g {t : UInt64} (h : zt t) : cmg t 9218868437227405312 = cml t 9218868437227405312 := zf_gl (zt_ok h) zI_ok
theorem zI_nr {a b : Nat} : ¬ zr a b 9218868437227405312 := fun h => absurd (zr_I h) (by decide +kernel)
/-- a difference: never -0, never no number -/
def zd (d : UInt64) : Prop := zf_ok d ∧ d.toNat ≠ 9223372036854775808
theorem zd_I : zd 9218868437227405312 := ⟨zI_ok, by decide +kernel⟩
theorem zd_sub {u t : UInt64} (hu : u.toNat < 9218868437227405312) (ht : t.toNat ≤ 9218868437227405312) : zd (FP.dsub u t) := by
  rcases Nat.eq_or_lt_of_le ht with q | q
  · have e := zf_subI hu q
    exact ⟨Or.inr (by rw [e]; exact ⟨by decide, Nat.le_refl _⟩), by rw [e]; decide⟩
  · rcases Nat.lt_or_ge u.toNat t.toNat with z | z
    · have e := zf_subN q z
      have k : 1 ≤ zf_rb (zf_v t.toNat - zf_v u.toNat) 1 := by
        refine zf_lo (by decide) ?_
        rw [show zf_v 1 = 1 by decide, Nat.mul_one]
        have := zf_vm z
        omega
      refine ⟨Or.inr ?_, ?_⟩
      · rw [e]; exact ⟨Nat.le_add_right _ _, Nat.add_le_add_left (Nat.min_le_left _ _) _⟩
      · rw [e]
        have : 1 ≤ min 9218868437227405312 (zf_rb (zf_v t.toNat - zf_v u.toNat) 1) := Nat.le_min.mpr ⟨by decide, k⟩
        omega
    · have e := zf_sub hu z
      have := Nat.min_le_left 9218868437227405312 (zf_rb (zf_v u.toNat - zf_v t.toNat) 1)
      refine ⟨Or.inl ?_, ?_⟩
      · rw [e]; exact this
      · rw [e]; omega
theorem zd_inj {a b : UInt64} (ha : zd a) (hb : zd b) (h : zf_s a = zf_s b) : a = b := by
  obtain ⟨a1, a2⟩ := ha
  obtain ⟨b1, b2⟩ := hb
  unfold zf_s at h
  unfold zf_ok at a1 b1
  refine UInt64.toNat_inj.mp ?_
  split at h <;> split at h <;> omega
theorem zd_mOK {a b : UInt64} (ha : zd a) (hb : zd b) : mOK a b := by
  unfold mOK
  rw [zf_gl ha.1 hb.1, zf_gl hb.1 ha.1, zf_lt ha.1 hb.1, zf_lt hb.1 ha.1]
  rcases Int.lt_trichotomy (zf_s a) (zf_s b) with q | q | q
  · exact Or.inl ⟨q, by omega⟩
  · exact Or.inr (Or.inr ⟨zd_inj ha hb q, by omega⟩)
  · exact Or.inr (Or.inl ⟨q, by omega⟩)
theorem zc_time {g : Hp} {n k j p : Nat} (h : CR g n) (hk : k < n) (hj : j < n) (hp : p ≤ 100) : tfOK g j (curS g k (nI p)) ∧ zt (tfS g j (curS g k (nI p))) := zc_tm (h.2.2.2.2.2 j hj) (zc_curB h hk hp)
theorem zc_NOK {g : Hp} {n : Nat} (h : CR g n) : NOK g n := fun k hk p hp =>
  ⟨zc_curOK h hk hp, fun j hj => (zc_time h hk hj hp).1, fun i j hi hj hl => zf_n64 (zd_sub (zr_I ((zt_lt (zc_time h hk hi hp).2).mp hl)) (zt_I (zc_time h hk hj hp).2)).1⟩
theorem zt_tIN {t : UInt64} (h : zt t) : tIN t := by
  unfold tIN
  rw [zt_lt h, zt_eq h]
  rcases h with h | h
  · exact Or.inr ⟨by rw [h]; exact zI_nr, h, h⟩
  · exact Or.inl ⟨h, fun z => zI_nr (z ▸ h)⟩
theorem zt_sIN {u t : UInt64} (hu : zt u) (ht : zt t) : sIN u t := by
  unfold sIN
  rw [zt_lt hu, zt_eq ht]
  intro h1 h2
  refine UInt64.toNat_inj.mp ?_
  rw [zf_subI (zr_I h1) (by rw [h2]; decide +kernel)]
  decide +kernel
theorem zc_GOK {g : Hp} {n : Nat} (h : CR g n) : GOK g n := fun _ hk _ hp _ _ hi hj => ⟨zt_tIN (zc_time h hk hi hp).2, zt_sIN (zc_time h hk hi hp).2 (zc_time h hk hj hp).2⟩
theorem zc_RG1 {g : Hp} {n : Nat} (h : CR g n) : RG1 g n := fun k hk => ⟨(h.2.2.2.2.2 k hk).2.2.2.2.1, (h.2.2.2.2.2 k hk).2.2.1⟩
theorem zc_mg {g : Hp} {n k u p : Nat} (h : CR g n) (hk : k < n) (hu : u < n) (hp : p ≤ 100) : zd (mgS g k u (nI p)) := by
  unfold mgS
  split
  · next hl => exact zd_sub (zr_I ((zt_lt (zc_time h hk hu hp).2).mp hl)) (zt_I (zc_time h hk hk hp).2)
  · exact zd_I
theorem zc_wo {g : Hp} {n k : Nat} (h : CR g n) (hk : k < n) (hf : fbN g k ≤ k) : zd (woS g k) := by
  unfold woS
  split
  · exact zd_I
  · next u hu =>
    split
    · exact zc_mg h hk (by omega) (by omega)
    · exact zc_mg h hk (by omega) (by omega)
theorem zc_ORD {g : Hp} {n : Nat} (h : CR g n) (hf : ∀ k, k < n → fbN g k ≤ k) : ORD g n := by
  have hr : zr 1018 1026 (reqS g) := h.2.2.2.1
  have rk : zf_ok (reqS g) := zr_ok hr
  refine ⟨?_, fun k u hk hu => ?_, fun j k hj hk => ?_⟩
  · rw [zf_gl zI_ok rk, zf_lt zI_ok rk, zI_s, zf_s0 (Nat.le_of_lt (zr_I hr))]
    have := zr_I hr
    omega
  · have hu2 : u < n := by have := hf k hk; omega
    have d0 := zc_mg h hk hu2 (by omega : 0 ≤ 100)
    have d1 := zc_mg h hk hu2 (by omega : 100 ≤ 100)
    refine ⟨zd_mOK d0 d1, ?_⟩
    have e : woS g k = if cmg (mgS g k u (nI 100)) (mgS g k u (nI 0)) < 0 then mgS g k u (nI 100) else mgS g k u (nI 0) := by
      unfold woS; rw [hu]
    rw [e, zf_gl d1.1 d0.1]
    have q := zf_lt d1.1 d0.1
    rw [zf_lt d0.1 rk, zf_lt d1.1 rk]
    by_cases z : cml (mgS g k u (nI 100)) (mgS g k u (nI 0)) < 0
    · rw [if_pos z, zf_gl d1.1 rk, zf_lt d1.1 rk]
      have := q.mp z
      constructor
      · intro a; exact ⟨by omega, a⟩
      · intro a; exact a.2
    · rw [if_neg z, zf_gl d0.1 rk, zf_lt d0.1 rk]
      have : ¬ zf_s (mgS g k u (nI 100)) < zf_s (mgS g k u (nI 0)) := fun w => z (q.mpr w)
      constructor
      · intro a; exact ⟨a, by omega⟩
      · intro a; exact a.1
  · have dj := zc_wo h hj (hf j hj)
    have dk := zc_wo h hk (hf k hk)
    unfold vioS
    rw [zf_gl dk.1 rk, zf_lt dk.1 rk, zf_gl dj.1 rk, zf_lt dj.1 rk, zf_gl dj.1 dk.1, zf_lt dj.1 dk.1, zf_eq dj.1 dk.1]
    intro a b
    rcases b with b | b
    · omega
    · omega
/-! bits: what the class works out is what the library reads -/
theorem zb_dbl {v : UInt64} {E : Nat} (h1 : 1 ≤ E) (h2 : E ≤ 2045) (a : E * 4503599627370496 ≤ v.toNat) (b : v.toNat < (E + 1) * 4503599627370496) : (FP.dmul v 4611686018427387904).toNat = v.toNat + 4503599627370496 := by
  have k1 : zf_k v.toNat = E - 1 := by unfold zf_k; omega
  have k2 : zf_k (v.toNat + 4503599627370496) = E := by unfold zf_k; omega
  have m1 : zf_m (v.toNat + 4503599627370496) = zf_m v.toNat := by unfold zf_m; rw [k1, k2]; omega
  have e : zf_v v.toNat * zf_v (1024 * 4503599627370496) = zf_v (v.toNat + 4503599627370496) * zf_U := by
    rw [zf_vp (by decide)]
    unfold zf_v zf_U
    rw [m1, k1, k2, Nat.mul_assoc, Nat.mul_assoc, ← Nat.pow_add, ← Nat.pow_add, show E - 1 + (51 + 1024) = E + 1074 by omega]
  rw [zf_mul (by omega) (by decide +kernel), show (4611686018427387904 : UInt64).toNat = 1024 * 4503599627370496 by decide +kernel, e, zf_ex zf_Up]
  exact Nat.min_eq_right (by omega)
theorem zb_hlv {v : UInt64} {E : Nat} (h1 : 2 ≤ E) (h2 : E ≤ 2046) (a : E * 4503599627370496 ≤ v.toNat) (b : v.toNat < (E + 1) * 4503599627370496) : (FP.ddiv v 4611686018427387904).toNat = v.toNat - 4503599627370496 := by
  have k1 : zf_k v.toNat = E - 1 := by unfold zf_k; omega
  have k2 : zf_k (v.toNat - 4503599627370496) = E - 2 := by unfold zf_k; omega
  have m1 : zf_m (v.toNat - 4503599627370496) = zf_m v.toNat := by unfold zf_m; rw [k1, k2]; omega
  have hp : 0 < zf_v (1024 * 4503599627370496) := zf_vpos (by decide)
  have e : zf_v v.toNat * zf_U = zf_v (v.toNat - 4503599627370496) * zf_v (1024 * 4503599627370496) := by
    rw [zf_vp (by decide)]
    unfold zf_v zf_U
    rw [m1, k1, k2, Nat.mul_assoc, Nat.mul_assoc, ← Nat.pow_add, ← Nat.pow_add, show E - 2 + (51 + 1024) = E - 1 + 1074 by omega]
  rw [zf_div (by omega) (by decide +kernel) (by decide +kernel), show (4611686018427387904 : UInt64).toNat = 1024 * 4503599627370496 by decide +kernel, e, zf_ex hp]
  exact Nat.min_eq_right (by omega)
