/-! an op on both sides: answered alike, or refused alike; first the ops that change nothing -/
def mid (y x2 : Hp) : Prop := x2.1 = y.1 ∧ ∀ a, a ≠ 95 → x2.2.1 a = y.2.1 a
def INVX (z : Hp) : Prop := ∃ n ne i c, INVW z n ne i c
def vok (r : Option FieldType) (v : Value) : Prop := match v with
  | .int _ => r = some .int ∨ r = some .boolean
  | .double d => r = some .double ∧ zf_ok d
  | .long _ => r = some .long
  | _ => False
def OPG (Y : Kx) (M6 M7 : MI) (as : List Value) (x : Hp) : Prop := ∃ P : Po, sR Y M6 (.ref 0 :: as) x P ∧ ∀ rr y, P rr y → ∃ v, rr = some v ∧ vok M6.2.2.2.1 v ∧ ∀ x2, mid y x2 → ∃ P2 : Po, sR Y M7 (.ref 83 :: as) x2 P2 ∧ ∀ r2 z, P2 r2 z → r2 = some v ∧ z.1 83 0 = 0 ∧ z.2.2 = x2.2.2 ∧ z.2.1 95 = x2.2.1 95 ∧ INVX z
def OPB (Y : Kx) (M6 M7 : MI) (as : List Value) (x : Hp) (E : String) (K : Int32) (v0 : Value) : Prop := sT Y M6 (.ref 0 :: as) x E ∧ ∀ x2, mid x x2 → ∃ P2 : Po, sR Y M7 (.ref 83 :: as) x2 P2 ∧ ∀ r2 z, P2 r2 z → r2 = some v0 ∧ z.1 83 0 = K ∧ z.2.2 = x2.2.2 ∧ z.2.1 95 = x2.2.1 95 ∧ INVX z
theorem mid_rf {y : Hp} : mid y y := ⟨rfl, fun _ _ => rfl⟩
theorem mid_INV {x x2 : Hp} {n ne i c : Nat} (h : INVW x n ne i c) (m : mid x x2) : INVW x2 n ne i c :=
  INVW_fr h (fun a ha => ⟨congrFun m.1 a, m.2 a (by omega)⟩) (congrFun m.1 84) (m.2 85 (by decide)) (congrFun m.1 86) (m.2 87 (by decide)) (by rw [m.1])
theorem mid_STR {x x2 : Hp} {n ne : Nat} (h : STR x x n ne) (m : mid x x2) : STR x x2 n ne :=
  STR_cg h (EQG_of (fun a _ => ⟨rfl, rfl⟩)) (EQR_of (congrFun m.1 84) (m.2 85 (by decide)))
theorem sc0_INV {x z : Hp} {n ne i c : Nat} (h : INVW x n ne i c) (s : sc0 x z) : INVW z n ne i c :=
  INVW_fr h (fun a ha => ⟨s.1.1 a (fun q => by simp at q; omega), s.1.2.1 a (fun q => by simp at q; omega)⟩) (s.1.1 84 (by decide)) (s.1.2.1 85 (by decide)) (s.1.1 86 (by decide)) (s.1.2.1 87 (by decide)) (s.2 5 (by decide) (by decide))
theorem vok_i {r : Option FieldType} {v : Int32} (h : r = some .int ∨ r = some .boolean := by first | exact Or.inl rfl | exact Or.inr rfl) : vok r (.int v) := h
theorem vok_l {r : Option FieldType} {v : Int64} (h : r = some .long := by rfl) : vok r (.long v) := h
theorem vok_d {r : Option FieldType} {v : UInt64} (h : zf_ok v) (hr : r = some .double := by rfl) : vok r (.double v) := ⟨hr, h⟩
theorem vk_i {r : Option FieldType} {v : Value} (h : vok r v) (hr : r = some .int ∨ r = some .boolean) : ∃ i, v = .int i := by
  cases v with
  | int i => exact ⟨i, rfl⟩
  | double d => rcases hr with hr | hr <;> (rw [hr] at h; exact absurd h.1 (by decide))
  | long l =>
    have h : r = some .long := h
    rcases hr with hr | hr <;> (rw [hr] at h; exact absurd h (by decide))
  | _ => exact absurd h id
theorem vk_d {r : Option FieldType} {v : Value} (h : vok r v) (hr : r = some .double) : ∃ d, v = .double d ∧ zf_ok d := by
  cases v with
  | double d => exact ⟨d, rfl, h.2⟩
  | int i =>
    have h : r = some .int ∨ r = some .boolean := h
    rw [hr] at h
    exact absurd h (by decide)
  | long l =>
    have h : r = some .long := h
    rw [hr] at h
    exact absurd h (by decide)
  | _ => exact absurd h id
theorem vk_l {r : Option FieldType} {v : Value} (h : vok r v) (hr : r = some .long) : ∃ l, v = .long l := by
  cases v with
  | long l => exact ⟨l, rfl⟩
  | int i =>
    have h : r = some .int ∨ r = some .boolean := h
    rw [hr] at h
    exact absurd h (by decide)
  | double d => rw [hr] at h; exact absurd h.1 (by decide)
  | _ => exact absurd h id
theorem op_read {Y : Kx} {M6 M7 : MI} {as : List Value} {x : Hp} {n ne i c : Nat} {v : Value} (hI : INVW x n ne i c) (h6 : sM Y M6 (.ref 0 :: as) x (some v) x) (hv : vok M6.2.2.2.1 v) (h7 : ∀ x2, mid x x2 → STR x x2 n ne → INVW x2 n ne i c → ∃ P2 : Po, sR Y M7 (.ref 83 :: as) x2 P2 ∧ ∀ r2 z, P2 r2 z → r2 = some v ∧ z.1 83 0 = 0 ∧ sc0 x2 z) : OPG Y M6 M7 as x := by
  refine ⟨_, h6, ?_⟩
  rintro rr y ⟨rfl, rfl⟩
  refine ⟨v, rfl, hv, fun x2 hm => ?_⟩
  obtain ⟨P2, p1, p2⟩ := h7 x2 hm (mid_STR hI.1 hm) (mid_INV hI hm)
  refine ⟨P2, p1, fun r2 z hz => ?_⟩
  obtain ⟨q1, q2, q3⟩ := p2 r2 z hz
  exact ⟨q1, q2, q3.1.2.2, q3.1.2.1 95 (by decide), n, ne, i, c, sc0_INV (mid_INV hI hm) q3⟩
theorem rdM {Y : Kx} {M7 : MI} {as : List Value} {x2 : Hp} {v : Value} (h : sM Y M7 as x2 (some v) (th x2 0)) : ∃ P2 : Po, sR Y M7 as x2 P2 ∧ ∀ r2 z, P2 r2 z → r2 = some v ∧ z.1 83 0 = 0 ∧ sc0 x2 z :=
  ⟨_, h, fun r2 z q => ⟨q.1, by rw [q.2]; exact th_0, by rw [q.2]; exact sc0_0⟩⟩
theorem rdS' {Y : Kx} {M7 : MI} {as : List Value} {x2 : Hp} {v : Value} (h : sR Y M7 as x2 (fun rr z => rr = some v ∧ scr (th x2 0) z)) : ∃ P2 : Po, sR Y M7 as x2 P2 ∧ ∀ r2 z, P2 r2 z → r2 = some v ∧ z.1 83 0 = 0 ∧ sc0 x2 z :=
  ⟨_, h, fun r2 z q => ⟨q.1, (q.2.2 0 (by decide)).trans th_0, sc0_tr sc0_0 (sc0_s q.2)⟩⟩
theorem op_ref {Y : Kx} {M6 M7 : MI} {as : List Value} {x : Hp} {n ne i c : Nat} {E : String} {K : Int32} {v0 : Value} (hI : INVW x n ne i c) (h6 : sT Y M6 (.ref 0 :: as) x E) (h7 : ∀ x2, mid x x2 → STR x x2 n ne → sM Y M7 (.ref 83 :: as) x2 (some v0) (th x2 K)) : OPB Y M6 M7 as x E K v0 := by
  refine ⟨h6, fun x2 hm => ⟨_, h7 x2 hm (mid_STR hI.1 hm), ?_⟩⟩
  rintro r2 z ⟨rfl, rfl⟩
  exact ⟨rfl, th_0, rfl, rfl, n, ne, i, c, sc0_INV (mid_INV hI hm) sc0_0⟩
abbrev IAE : String := "java/lang/IllegalArgumentException"
abbrev ISE : String := "java/lang/IllegalStateException"
abbrev IOB : String := "java/lang/IndexOutOfBoundsException"
theorem st_84 {x x2 : Hp} {n ne : Nat} (h : STR x x2 n ne) : x2.1 84 0 = nI n := h.2.2.1.1.2.1
theorem st_LN {x : Hp} {n ne k : Nat} {r : Hp} (h : STR x r n ne) (hk : k < n) : LNk x n k := ⟨h.1.2.1, h.1.1.1, hk⟩
section
variable {Y : Kx} {x : Hp} {n ne i c : Nat}
theorem op_loadCurrent (hfl : Y.1.stackTraces = false) (hI : INVW x n ne i c) (v : Int32) : OPG Y mX6_loadCurrent mX7_loadCurrent [.int v] x ∨ OPB Y mX6_loadCurrent mX7_loadCurrent [.int v] x IAE 1 (.int 0) := by
  have h12 := hI.1.1.1.1
  by_cases h : 0 ≤ v ∧ v ≤ nI n - 1
  · obtain ⟨k, hk, rfl⟩ := nI_rng (by omega) h
    refine Or.inl (op_read hI (f_loadCurrent Y x n k (st_LN hI.1 hk)) vok_i (fun x2 hm hS _ => rdM ?_))
    have q := r_loadCurrent Y x x2 n k hS.2.2.1.1 hk
    rw [sb_lo hS.1 hS.2.2.1 hk n (Nat.le_refl _)] at q
    exact q
  · exact Or.inr (op_ref hI (t_loadCurrent1 Y hfl x v (by rw [hI.1.1.2.1]; exact h)) (fun x2 hm hS => b_loadCurrent Y x2 v (by rw [st_84 hS]; exact h)))
theorem op_faultCurrent (hfl : Y.1.stackTraces = false) (hI : INVW x n ne i c) (v p : Int32) : OPG Y mX6_faultCurrent mX7_faultCurrent [.int v, .int p] x ∨ OPB Y mX6_faultCurrent mX7_faultCurrent [.int v, .int p] x IAE 1 (.double 0) := by
  have h12 := hI.1.1.1.1
  by_cases h : 0 ≤ v ∧ v ≤ nI n - 1
  · obtain ⟨k, hk, rfl⟩ := nI_rng (by omega) h
    by_cases hp : 0 ≤ p ∧ p ≤ 100
    · obtain ⟨q, -, hq, rfl⟩ := nI_rg (v := p) (lo := 0) (hi := 100) (by decide) (by decide) hp
      exact Or.inl (op_read hI (f_faultCurrent Y x n k q (st_LN hI.1 hk) hq (zc_curOK hI.1.1.1 hk hq)) (vok_d (zr_ok (zc_cur hI.1.1.1 hk hq))) (fun x2 hm hS _ => rdS' (r_faultCurrent Y x x2 n k q hS.2.2.1 hk hq (zc_curOK hI.1.1.1 hk hq))))
    · exact Or.inr (op_ref hI (t_faultCurrent2 Y hfl x n k (st_LN hI.1 hk) p hp) (fun x2 hm hS => b_faultCurrent Y x2 _ p (fun z => hp z.2)))
  · exact Or.inr (op_ref hI (t_faultCurrent1 Y hfl x v (by rw [hI.1.1.2.1]; exact h) p) (fun x2 hm hS => b_faultCurrent Y x2 v p (by rw [st_84 hS]; exact fun z => h z.1)))
theorem op_pickup (hfl : Y.1.stackTraces = false) (hI : INVW x n ne i c) (v : Int32) : OPG Y mX6_pickup mX7_pickup [.int v] x ∨ OPB Y mX6_pickup mX7_pickup [.int v] x IAE 1 (.int 0) := by
  have h12 := hI.1.1.1.1
  by_cases h : 0 ≤ v ∧ v ≤ nI n - 1
  · obtain ⟨k, hk, rfl⟩ := nI_rng (by omega) h
    refine Or.inl (op_read hI (f_pickup Y x n k (st_LN hI.1 hk)) vok_i (fun x2 hm hS _ => rdM ?_))
    have q := r_pickup Y x2 n k (st_84 hS) h12 hk
    rw [(hS.2.2.1.2.2.2.2.2 k hk).2.1] at q
    exact q
  · exact Or.inr (op_ref hI (t_pickup1 Y hfl x v (by rw [hI.1.1.2.1]; exact h)) (fun x2 hm hS => b_pickup Y x2 v (by rw [st_84 hS]; exact h)))
theorem op_steps (hfl : Y.1.stackTraces = false) (hI : INVW x n ne i c) (v : Int32) : OPG Y mX6_steps mX7_steps [.int v] x ∨ OPB Y mX6_steps mX7_steps [.int v] x IAE 1 (.int 0) := by
  have h12 := hI.1.1.1.1
  by_cases h : 0 ≤ v ∧ v ≤ nI n - 1
  · obtain ⟨k, hk, rfl⟩ := nI_rng (by omega) h
    refine Or.inl (op_read hI (f_steps Y x n k (st_LN hI.1 hk)) vok_i (fun x2 hm hS _ => rdM ?_))
    have q := r_steps Y x2 n k (st_84 hS) h12 hk
    rw [(hS.2.2.1.2.2.2.2.2 k hk).2.2.2.1] at q
    exact q
  · exact Or.inr (op_ref hI (t_steps1 Y hfl x v (by rw [hI.1.1.2.1]; exact h)) (fun x2 hm hS => b_steps Y x2 v (by rw [st_84 hS]; exact h)))
theorem op_upstream (hfl : Y.1.stackTraces = false) (hI : INVW x n ne i c) (v : Int32) : OPG Y mX6_upstream mX7_upstream [.int v] x ∨ OPB Y mX6_upstream mX7_upstream [.int v] x IAE 1 (.int 0) := by
  have h12 := hI.1.1.1.1
  by_cases h : 0 ≤ v ∧ v ≤ nI n - 1
  · obtain ⟨k, hk, rfl⟩ := nI_rng (by omega) h
    refine Or.inl (op_read hI (f_upstream Y x n k (st_LN hI.1 hk)) vok_i (fun x2 hm hS _ => rdM ?_))
    have q := r_upstream Y x2 n k (st_84 hS) h12 hk
    rw [(hS.2.2.1.1.2.2 k hk).1, ← hS.2.2.1.2.2.1 k hk] at q
    exact q
  · exact Or.inr (op_ref hI (t_upstream1 Y hfl x v (by rw [hI.1.1.2.1]; exact h)) (fun x2 hm hS => b_upstream Y x2 v (by rw [st_84 hS]; exact h)))
theorem op_operatingTime (hfl : Y.1.stackTraces = false) (hI : INVW x n ne i c) (v : Int32) (d : UInt64) (hd : d.toNat ≠ 9223372036854775808) : OPG Y mX6_operatingTime mX7_operatingTime [.int v, .double d] x ∨ OPB Y mX6_operatingTime mX7_operatingTime [.int v, .double d] x IAE 1 (.double 0) := by
  have h12 := hI.1.1.1.1
  by_cases h : 0 ≤ v ∧ v ≤ nI n - 1
  · obtain ⟨k, hk, rfl⟩ := nI_rng (by omega) h
    by_cases hp : inD d 0 4741671816366391296
    · have z := zc_tm (hI.1.1.1.2.2.2.2.2 k hk) (zi_curr hp hd)
      exact Or.inl (op_read hI (f_operatingTime Y x n k d (st_LN hI.1 hk) hp z.1) (vok_d (zt_ok z.2)) (fun x2 hm hS _ => rdM (r_operatingTime Y x x2 n k d hS.2.2.1 (zc_RG1 hI.1.1.1) hk hp z.1)))
    · exact Or.inr (op_ref hI (t_operatingTime2 Y hfl x n k (st_LN hI.1 hk) d hp) (fun x2 hm hS => b_operatingTime Y x2 _ d (fun z => hp z.2)))
  · exact Or.inr (op_ref hI (t_operatingTime1 Y hfl x v (by rw [hI.1.1.2.1]; exact h) d) (fun x2 hm hS => b_operatingTime Y x2 v d (by rw [st_84 hS]; exact fun z => h z.1)))
theorem op_sensitivity (hfl : Y.1.stackTraces = false) (hI : INVW x n ne i c) (v : Int32) : OPG Y mX6_sensitivity mX7_sensitivity [.int v] x ∨ OPB Y mX6_sensitivity mX7_sensitivity [.int v] x IAE 1 (.double 0) := by
  have h12 := hI.1.1.1.1
  by_cases h : 0 ≤ v ∧ v ≤ nI n - 1
  · obtain ⟨k, hk, rfl⟩ := nI_rng (by omega) h
    have z := zc_sens hI.1.1.1 hk
    have o := zc_curOK hI.1.1.1 hk (Nat.le_refl 100)
    exact Or.inl (op_read hI (f_sensitivity Y x n k (st_LN hI.1 hk) o z.1 z.2.1) (vok_d z.2.2) (fun x2 hm hS _ => rdS' (r_sensitivity Y x x2 n k hS.2.2.1 hk o z.1 z.2.1)))
  · exact Or.inr (op_ref hI (t_sensitivity1 Y hfl x v (by rw [hI.1.1.2.1]; exact h)) (fun x2 hm hS => b_sensitivity Y x2 v (by rw [st_84 hS]; exact h)))
theorem op_margin (hfl : Y.1.stackTraces = false) (hI : INVW x n ne i c) (v p : Int32) : OPG Y mX6_margin mX7_margin [.int v, .int p] x ∨ OPB Y mX6_margin mX7_margin [.int v, .int p] x IAE 1 (.double 0) ∨ OPB Y mX6_margin mX7_margin [.int v, .int p] x ISE 2 (.double 0) := by
  have h12 := hI.1.1.1.1
  by_cases h : 0 ≤ v ∧ v ≤ nI n - 1
  · obtain ⟨k, hk, rfl⟩ := nI_rng (by omega) h
    by_cases hp : 0 ≤ p ∧ p ≤ 100
    · obtain ⟨q, -, hq, rfl⟩ := nI_rg (v := p) (lo := 0) (hi := 100) (by decide) (by decide) hp
      obtain ⟨f1, f2, -⟩ := hI.1.1.2.2.1 k hk
      cases hu : fbN x k with
      | zero => exact Or.inr (Or.inr (op_ref hI (t_margin3 Y hfl x n k (st_LN hI.1 hk) q hq f1 hu) (fun x2 hm hS => b_margin2 Y x x2 n k q hS.2.2.1.1 hk hu hq)))
      | succ u => exact Or.inl (op_read hI (f_margin Y x n k u q (sb_INV hI.1.1) hk hu hq) (vok_d (zc_mg hI.1.1.1 hk (by omega) hq).1) (fun x2 hm hS _ => rdS' (r_margin Y x x2 n k u q (sb_MO hS.1 hS.2.2.1).1 hk hu hq)))
    · exact Or.inr (Or.inl (op_ref hI (t_margin2 Y hfl x n k (st_LN hI.1 hk) p hp) (fun x2 hm hS => b_margin1 Y x2 _ p (fun z => hp z.2))))
  · exact Or.inr (Or.inl (op_ref hI (t_margin1 Y hfl x v (by rw [hI.1.1.2.1]; exact h) p) (fun x2 hm hS => b_margin1 Y x2 v p (by rw [st_84 hS]; exact fun z => h z.1))))
theorem op_violationCount (hI : INVW x n ne i c) : OPG Y mX6_violationCount mX7_violationCount [] x :=
  op_read hI (f_violationCount Y x n (sb_INV hI.1.1)) vok_i (fun x2 hm hS _ => rdS' (r_violationCount Y x x2 n (sb_MO hS.1 hS.2.2.1)))
theorem op_violation (hfl : Y.1.stackTraces = false) (hI : INVW x n ne i c) (v : Int32) : OPG Y mX6_violation mX7_violation [.int v] x ∨ OPB Y mX6_violation mX7_violation [.int v] x IOB 1 (.int 0) := by
  have h12 := hI.1.1.1.1
  have hle := cvS_le x n
  by_cases h : 0 ≤ v ∧ v ≤ nI (cvS x n) - 1
  · obtain ⟨k, hk, rfl⟩ := nI_rng (by omega) h
    obtain ⟨j, j1, j2, j3⟩ := rk_ex hI.1.1 hk
    obtain ⟨e1, m, m1, m2⟩ := vo_mv (x := x) (n := n) (r := nI k) n 0 (by omega) ⟨j, Nat.zero_le _, j1, j2, by rw [j3]⟩
    have hne : ¬ voS x n (nI k) n 0 = -1 := by
      rw [m2]
      intro z
      have := congrArg Int32.toInt z
      rw [nI_toInt (by omega), show (-1 : Int32).toInt = -1 by decide] at this
      omega
    refine Or.inl (op_read hI (f_violation Y x n (nI k) (sb_INV hI.1.1) h.1 hne) vok_i (fun x2 hm hS _ => ⟨_, r_violation Y x x2 n (nI k) (sb_MO hS.1 hS.2.2.1), fun r2 z q => ?_⟩))
    obtain ⟨q1, q2, q3⟩ := q
    rw [if_pos h] at q3
    rw [bI_t h] at q2
    exact ⟨by rw [q3, e1], q2.trans (by decide), q1⟩
  · have hb : ∀ x2, mid x x2 → STR x x2 n ne → ∃ P2 : Po, sR Y mX7_violation [.ref 83, .int v] x2 P2 ∧ ∀ r2 z, P2 r2 z → r2 = some (.int 0) ∧ z.1 83 0 = 1 ∧ z.2.2 = x2.2.2 ∧ z.2.1 95 = x2.2.1 95 ∧ INVX z := fun x2 hm hS => by
      refine ⟨_, r_violation Y x x2 n v (sb_MO hS.1 hS.2.2.1), fun r2 z q => ?_⟩
      obtain ⟨q1, q2, q3⟩ := q
      rw [if_neg h] at q3
      rw [bI_f h] at q2
      exact ⟨q3, q2.trans (by decide), q1.1.2.2, q1.1.2.1 95 (by decide), n, ne, i, c, sc0_INV (mid_INV hI hm) q1⟩
    refine Or.inr ?_
    by_cases h0 : 0 ≤ v
    · have hv : voS x n v n 0 = -1 := by
        refine vo_no n 0 (fun j _ hj q => h ⟨h0, ?_⟩)
        have hlt := rk_lt hI.1.1 (show j < n by omega) q.1
        rw [← q.2]
        obtain ⟨m, hm⟩ : ∃ m, cvS x n = m + 1 := ⟨cvS x n - 1, by omega⟩
        rw [hm, nI_pred]
        exact nI_le (by omega) (by omega)
      exact ⟨t_violation2 Y hfl x n v (sb_INV hI.1.1) h0 hv, fun x2 hm => hb x2 hm (mid_STR hI.1 hm)⟩
    · exact ⟨t_violation1 Y hfl x v h0, fun x2 hm => hb x2 hm (mid_STR hI.1 hm)⟩
theorem op_eventCount (hI : INVW x n ne i c) : OPG Y mX6_eventCount mX7_eventCount [] x :=
  op_read hI (f_eventCount Y x) vok_i (fun x2 hm hS _ => by
    have q := r_eventCount Y x2
    rw [hS.2.2.2.2.2.2.1, ← hS.2.2.2.2.2.1] at q
    exact rdM q)
theorem op_event (hfl : Y.1.stackTraces = false) (hI : INVW x n ne i c) (v : Int32) : OPG Y mX6_event mX7_event [.int v] x ∨ OPB Y mX6_event mX7_event [.int v] x IOB 1 (.int 0) := by
  have h60 := hI.1.2.1.1
  have e13 := hI.1.2.1.2.1
  by_cases h : 0 ≤ v ∧ v ≤ nI ne - 1
  · obtain ⟨k, hk, rfl⟩ := nI_rng (by omega) h
    refine Or.inl (op_read hI (f_event Y x ne k e13 h60 hk) vok_i (fun x2 hm hS _ => rdM ?_))
    have q := r_event Y x2 ne k hS.2.2.2.2.2.2.1 h60 hk
    rw [(hS.2.2.2.2.2.2.2.1 k hk).1] at q
    exact q
  · exact Or.inr (op_ref hI (t_event1 Y hfl x v (by rw [e13]; exact h)) (fun x2 hm hS => b_event Y x2 v (by rw [hS.2.2.2.2.2.2.1]; exact h)))
theorem op_eventTime (hfl : Y.1.stackTraces = false) (hI : INVW x n ne i c) (v : Int32) : OPG Y mX6_eventTime mX7_eventTime [.int v] x ∨ OPB Y mX6_eventTime mX7_eventTime [.int v] x IOB 1 (.double 0) := by
  have h60 := hI.1.2.1.1
  have e13 := hI.1.2.1.2.1
  by_cases h : 0 ≤ v ∧ v ≤ nI ne - 1
  · obtain ⟨k, hk, rfl⟩ := nI_rng (by omega) h
    refine Or.inl (op_read hI (f_eventTime Y x ne k e13 h60 hk) (vok_d (zr_ok (hI.1.2.1.2.2.1 k hk))) (fun x2 hm hS _ => rdM ?_))
    have q := r_eventTime Y x2 ne k hS.2.2.2.2.2.2.1 h60 hk
    rw [(hS.2.2.2.2.2.2.2.1 k hk).2] at q
    exact q
  · exact Or.inr (op_ref hI (t_eventTime1 Y hfl x v (by rw [e13]; exact h)) (fun x2 hm hS => b_eventTime Y x2 v (by rw [hS.2.2.2.2.2.2.1]; exact h)))
theorem tvC_ok {v : UInt64} (h : tvC v) : zf_ok v := by
  rcases h with h | h | h
  · rw [h]; exact z0_ok
  · rw [h]; exact zI_ok
  · exact zr_ok h
theorem op_clearedTime (hI : INVW x n ne i c) : OPG Y mX6_clearedTime mX7_clearedTime [] x :=
  op_read hI (f_clearedTime Y x) (vok_d (tvC_ok hI.1.2.1.2.2.2)) (fun x2 hm hS _ => by
    have q := r_clearedTime Y x2
    rw [hS.2.2.2.2.2.2.2.2] at q
    exact rdM q)
theorem op_openBreakers (hI : INVW x n ne i c) : OPG Y mX6_openBreakers mX7_openBreakers [] x :=
  op_read hI (f_openBreakers Y x) vok_i (fun x2 hm hS _ => by
    have q := r_openBreakers Y x2 n (st_84 hS) hS.1.1.1
    rw [oM_is hS.1.1.1 hS.1.2.2.2.2.2 hS.2.2.2.1] at q
    exact rdM q)
theorem op_lostLoad (hI : INVW x n ne i c) : OPG Y mX6_lostLoad mX7_lostLoad [] x :=
  op_read hI (f_lostLoad Y x n hI.1.1.2.1 hI.1.1.1.1) vok_i (fun x2 hm hS _ => by
    have q := r_lostLoad Y x x2 n hS.2.2.1.1 hS.2.2.2.1
    rw [sb_ll hS.1 hS.2.2.1 n (Nat.le_refl _)] at q
    exact rdS' q)
theorem tvC_b {v : UInt64} (h : tvC v) : bitOK v ∧ bEQ v := by
  rcases h with h | h | h
  · rw [h]; exact zb_0
  · rw [h]; exact zb_I
  · exact zb_r h
theorem op_digest (hI : INVW x n ne i c) : OPG Y mX6_digest mX7_digest [] x := by
  have hC := hI.1.1.1
  have hcur : ∀ k, k < n → zr 1007 1050 (curS x k (nI 100)) := fun k hk => zc_cur hC hk (Nat.le_refl 100)
  refine op_read hI (c_digest Y x n ne (sb_INV hI.1.1) ⟨(zb_r hC.2.1).1, (zb_r hC.2.2.1).1, (zb_r hC.2.2.2.1).1⟩ (fun k hk => ⟨(zb_r (hC.2.2.2.2.1 k hk)).1, (zb_r (hcur k hk)).1⟩) hI.1.2.1.2.1 hI.1.2.1.1 (fun j hj => (zb_r (hI.1.2.1.2.2.1 j hj)).1) (tvC_b hI.1.2.1.2.2.2).1) vok_l (fun x2 hm hS hI2 => rdS' (r_digest Y x x2 n ne (sb_MO hS.1 hS.2.2.1) (oM_is hS.1.1.1 hS.1.2.2.2.2.2 hS.2.2.2.1) ?_ hS.2.2.2.2 ⟨(zb_r hC.2.1).2, (zb_r hC.2.2.1).2, (zb_r hC.2.2.2.1).2⟩ (fun k hk => ⟨(zb_r (hC.2.2.2.2.1 k hk)).2, (zb_r (hcur k hk)).2⟩) (fun j hj => (zb_r (hI.1.2.1.2.2.1 j hj)).2) (tvC_b hI.1.2.1.2.2.2).2))
  rw [hI2.2.2.1, hI.2.1.2.2.2]
end
