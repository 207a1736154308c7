/-! ops that save and change: a new line, pickups, closing, undoing, a simulation -/
theorem pfS_rg (l p : Int32) : ∃ q, 1 ≤ q ∧ q ≤ 20000 ∧ pfS l p = nI q := by
  have h : nI 1 ≤ pfS l p ∧ pfS l p ≤ nI 20000 := by
    unfold pfS
    generalize (l * p + 99) / 100 = v
    have e1 : (nI 1).toInt = 1 := by decide
    have e2 : (nI 20000).toInt = 20000 := by decide
    have e3 : (20000 : Int32).toInt = 20000 := by decide
    have e4 : (1 : Int32).toInt = 1 := by decide
    rw [Int32.le_iff_toInt_le, Int32.le_iff_toInt_le, e1, e2]
    by_cases h : v < 20000
    · rw [if_pos h]
      rw [Int32.lt_iff_toInt_lt, e3] at h
      by_cases k : 1 < v
      · rw [if_pos k]
        rw [Int32.lt_iff_toInt_lt, e4] at k
        constructor <;> omega
      · rw [if_neg k, e4]
        constructor <;> omega
    · rw [if_neg h, if_pos (by decide), e3]
      constructor <;> omega
  obtain ⟨k, h1, h2, h3⟩ := nI_rg (by decide) (by decide) h
  exact ⟨k, h1, h2, h3⟩
theorem apR_in (x : Hp) (n : Nat) (p : Int32) : ∀ j k, k < j → apR x n p j k = pfS (loS x (1 <<< (nI k &&& 31)) n) p
  | 0, k, h => absurd h (by omega)
  | j + 1, k, h => by
    show (if k = j then pfS (loS x (1 <<< (nI j &&& 31)) n) p else apR x n p j k) = _
    by_cases q : k = j
    · rw [if_pos q, q]
    · rw [if_neg q, apR_in x n p j k (by omega)]
theorem ap_cnt {x w : Hp} {n : Nat} {p : Int32} {L : Nat → Int32} (hL : ∀ k, k < n → L k = loS x (1 <<< (nI k &&& 31)) n) (hw : ∀ k, k < n → w.1 84 (2 + 9 * k + 2) = x.1 8 k) : ∀ j, j ≤ n → pcS w L p j = apN x n p j
  | 0, _ => rfl
  | j + 1, hj => by
    unfold pcS apN
    rw [ap_cnt hL hw j (by omega), hw j (by omega), hL j (by omega)]
    by_cases q : x.1 8 j = pfS (loS x (1 <<< (nI j &&& 31)) n) p
    · rw [if_pos q, if_pos q.symm]
    · rw [if_neg q, if_neg (fun z => q z.symm)]
section
variable {Y : Kx} {x : Hp} {n ne i c : Nat}
theorem op_autoPickup (hfl : Y.1.stackTraces = false) (hI : INVW x n ne i c) (v : Int32) : OPG Y mX6_autoPickup mX7_autoPickup [.int v] x ∨ OPB Y mX6_autoPickup mX7_autoPickup [.int v] x IAE 1 (.int 0) := by
  have h12 := hI.1.1.1.1
  by_cases h : 100 ≤ v ∧ v ≤ 300
  · obtain ⟨p, g1, g2, rfl⟩ := nI_rg (v := v) (lo := 100) (hi := 300) (by decide) (by decide) h
    have p1 : ∀ a, a ≤ 15 → (pushS x i c).1 a = x.1 a := fun a ha => push_o1 hI.2.1.1 (Or.inl (by omega))
    have p2 : ∀ a, a ≤ 15 → (pushS x i c).2.1 a = x.2.1 a := fun a ha => push_o2 hI.2.1.1 (Or.inl (by omega))
    refine Or.inl (op_push hI (f_autoPickup Y x i c n p hI.2.1 hI.1.1.2.1 h12 ⟨g1, g2⟩) ?_)
    rintro rr y ⟨rfl, y8, yf⟩
    have e : ∀ a, a ≤ 15 → a ≠ 8 → y.1 a = x.1 a := fun a ha hb => (yf.1 a (fun q => by simp at q; omega)).trans (p1 a ha)
    have ed : ∀ a, a = 1 ∨ a = 2 ∨ a = 5 ∨ a = 13 ∨ a = 15 → y.2.1 a = x.2.1 a := fun a ha => (yf.2.1 a (fun q => by simp at q; omega)).trans (p2 a (by omega))
    refine ⟨_, n, ne, rfl, vok_i, fr_mono yf (by decide), fun x2 hm h5 hS => ⟨fun r2 w z => r2 = some (.int (nI (pcS x2 (fun k => loM x x2 k n) (nI p) n))) ∧ z = (pwS w (fun k => loM x x2 k n) (nI p) n, w.2), r_autoPickup Y x x2 c n p hI.2.1.2.1 h5 hS.2.2.1.1 ⟨g1, g2⟩, ?_⟩⟩
    rintro r2 w z w84 w85 ⟨rfl, rfl⟩
    obtain ⟨L, hLL⟩ : ∃ L, L = fun k => loM x x2 k n := ⟨_, rfl⟩
    have hL : ∀ k, k < n → L k = loS x (1 <<< (nI k &&& 31)) n := fun k hk => by rw [hLL]; exact sb_lo hS.1 hS.2.2.1 hk n (Nat.le_refl _)
    rw [← hLL]
    have zo : ∀ a, a ≠ 84 → pwS w L (nI p) n a = w.1 a := fun a ha => pwS_o w L (nI p) n a ha
    have zk : ∀ j, (∀ e, e < n → j ≠ 2 + 9 * e + 2) → pwS w L (nI p) n 84 j = x.1 84 j := fun j hj => by rw [pwS_out w L (nI p) n j hj, w84]
    refine ⟨?_, ?_, congrFun (zo 83 (by decide)) 5, congrFun (zo 83 (by decide)) 0, STR_rows hI.1 (fun a ha => e a (by omega) (by omega)) ed w85 (fun j hj hh => zk j (fun l hl => hh l hl 2 (by decide) (by decide))) (fun j hj => ?_) (fun j h1 h2 => ?_)⟩
    · rw [ap_cnt hL (fun k hk => (hS.2.2.1.2.2.2.2.2 k hk).2.1) n (Nat.le_refl _)]
    · refine ⟨fun a ha => zo a (fun q => ha (by rw [q]; decide)), fun _ _ => rfl, rfl⟩
    · obtain ⟨s1, s2, s3, s4, s5, s6, -⟩ := hI.1.2.2.1.2.2.2.2.2 j hj
      obtain ⟨l1, l2, l3, l4, l5, l6⟩ := st_LR hI.1 hj
      have y8j : y.1 8 j = pfS (L j) (nI p) := by rw [y8 j (by omega), apR_in x n (nI p) n j hj, hL j hj]
      obtain ⟨q, q1, q2, q3⟩ := pfS_rg (L j) (nI p)
      refine ⟨?_, ?_, ?_, ?_, ?_, ?_, ?_⟩
      · unfold LR
        rw [e 6 (by omega) (by omega), e 9 (by omega) (by omega), e 10 (by omega) (by omega), e 11 (by omega) (by omega), e 12 (by omega) (by omega)]
        exact ⟨l1, ⟨q, q1, q2, y8j.trans q3⟩, l3, l4, l5, l6⟩
      · show pwS w L (nI p) n 84 _ = _
        rw [zk _ (fun e _ => by omega), e 6 (by omega) (by omega)]; exact s1
      · show pwS w L (nI p) n 84 _ = _
        rw [pwS_in w L (nI p) n j hj, y8j]
      · show pwS w L (nI p) n 84 _ = _
        rw [zk _ (fun e _ => by omega), e 9 (by omega) (by omega)]; exact s3
      · show pwS w L (nI p) n 84 _ = _
        rw [zk _ (fun e _ => by omega), e 10 (by omega) (by omega)]; exact s4
      · show pwS w L (nI p) n 84 _ = _
        rw [zk _ (fun e _ => by omega), e 11 (by omega) (by omega)]; exact s5
      · show pwS w L (nI p) n 84 _ = _
        rw [zk _ (fun e _ => by omega), e 12 (by omega) (by omega)]; exact s6
    · refine LD_cg (by rw [e 6 (by omega) (by omega)]) ?_ (by rw [e 9 (by omega) (by omega)]) (by rw [e 10 (by omega) (by omega)]) (by rw [e 11 (by omega) (by omega)]) (by rw [e 12 (by omega) (by omega)]) (hI.1.1.2.2.2.1 j h1 h2)
      rw [y8 j h2, apR_ge x n (nI p) n j h1]
  · exact Or.inr (op_ref hI (t_autoPickup1 Y hfl x v h) (fun x2 hm hS => b_autoPickup Y x2 v h))
/-! a new line -/
theorem nI0 : (0 : Int32) = nI 0 := by decide
theorem op_addLine (hfl : Y.1.stackTraces = false) (hI : INVW x n ne i c) (v : Int32) (d : UInt64) : OPG Y mX6_addLine mX7_addLine [.int v, .double d] x ∨ OPB Y mX6_addLine mX7_addLine [.int v, .double d] x IAE 1 (.int 0) ∨ OPB Y mX6_addLine mX7_addLine [.int v, .double d] x ISE 2 (.int 0) := by
  have h12 := hI.1.1.1.1
  have hn := hI.1.1.2.1
  by_cases h : 0 ≤ v ∧ v ≤ nI n
  · obtain ⟨f, -, hf, rfl⟩ := nI_rg (v := v) (lo := 0) (hi := n) (by omega) (Nat.zero_le _) h
    by_cases h2 : inD d 4576918229304087675 4652007308841189376
    · rcases Nat.lt_or_ge n 12 with hlt | hge
      · have p1 : ∀ a, a ≤ 15 → (pushS x i c).1 a = x.1 a := fun a ha => push_o1 hI.2.1.1 (Or.inl (by omega))
        have p2 : ∀ a, a ≤ 15 → (pushS x i c).2.1 a = x.2.1 a := fun a ha => push_o2 hI.2.1.1 (Or.inl (by omega))
        refine Or.inl (op_push hI (f_addLine Y x i c n f d hI.2.1 hn hlt hf h2) ?_)
        rintro rr y ⟨rfl, hy⟩
        obtain ⟨pm, hpm⟩ : ∃ pm, pm = ((if f = 0 then 0 else (pushS x i c).1 4 (f - 1)) ||| (1 <<< (nI n &&& 31))) := ⟨_, rfl⟩
        unfold apS at hy
        rw [← hpm] at hy
        rw [p1 4 (by omega)] at hpm
        obtain ⟨⟨⟨c1, c2, c3, c4, c5, c6⟩, cn, ck, cl, cs, co⟩, ⟨v1, v2, v3, v4⟩, ⟨⟨m1, m2, m3⟩, r2', r3, r4, ⟨r5, r6, r7, r8⟩, r9⟩, o1, ⟨w1, w2, w3, w4, w5⟩⟩ := hI.1
        have ye : ∀ a, a ≤ 15 → a ≠ 2 → a ≠ 3 → a ≠ 4 → y.1 a = x.1 a := fun a ha a2 a3 a4 => by
          rw [hy]
          show u2 (u2 (u2 (pushS x i c).1 3 n (nI f)) 4 n pm) 2 2 (nI n + 1) a = _
          rw [u2_ne a2, u2_ne a4, u2_ne a3, p1 a ha]
        have y3 : ∀ k, k ≠ n → y.1 3 k = x.1 3 k := fun k hk => by
          rw [hy]
          show u2 (u2 (u2 (pushS x i c).1 3 n (nI f)) 4 n pm) 2 2 (nI n + 1) 3 k = _
          rw [u2_ne (by decide), u2_ne (by decide), u2_k _ _ _ _ hk, p1 3 (by omega)]
        have y3n : y.1 3 n = nI f := by
          rw [hy]
          show u2 (u2 (u2 (pushS x i c).1 3 n (nI f)) 4 n pm) 2 2 (nI n + 1) 3 n = _
          rw [u2_ne (by decide), u2_ne (by decide), u2_at]
        have y4 : ∀ k, k ≠ n → y.1 4 k = x.1 4 k := fun k hk => by
          rw [hy]
          show u2 (u2 (u2 (pushS x i c).1 3 n (nI f)) 4 n pm) 2 2 (nI n + 1) 4 k = _
          rw [u2_ne (by decide), u2_k _ _ _ _ hk, u2_ne (by decide), p1 4 (by omega)]
        have y4n : y.1 4 n = pm := by
          rw [hy]
          show u2 (u2 (u2 (pushS x i c).1 3 n (nI f)) 4 n pm) 2 2 (nI n + 1) 4 n = _
          rw [u2_ne (by decide), u2_at]
        have y22 : y.1 2 2 = nI (n + 1) := by
          rw [hy]
          show u2 (u2 (u2 (pushS x i c).1 3 n (nI f)) 4 n pm) 2 2 (nI n + 1) 2 2 = _
          rw [u2_at, nI_1]
        have yd : ∀ a, a ≤ 15 → a ≠ 5 → y.2.1 a = x.2.1 a := fun a ha h5 => by
          rw [hy]
          show u2 (pushS x i c).2.1 5 n d a = _
          rw [u2_ne h5, p2 a ha]
        have y5 : ∀ k, k ≠ n → y.2.1 5 k = x.2.1 5 k := fun k hk => by
          rw [hy]
          show u2 (pushS x i c).2.1 5 n d 5 k = _
          rw [u2_k _ _ _ _ hk, p2 5 (by omega)]
        have y5n : y.2.1 5 n = d := by
          rw [hy]
          show u2 (pushS x i c).2.1 5 n d 5 n = _
          rw [u2_at]
        have yf : fr frC (pushS x i c) y := by
          rw [hy]
          exact fr_tr (fr1 (fr1 (fr1 fr_rf (by decide)) (by decide)) (by decide) : fr frC (pushS x i c) (u2 (u2 (u2 (pushS x i c).1 3 n (nI f)) 4 n pm) 2 2 (nI n + 1), (pushS x i c).2)) (fr_wD (x := (u2 (u2 (u2 (pushS x i c).1 3 n (nI f)) 4 n pm) 2 2 (nI n + 1), (pushS x i c).2)) (by decide))
        clear hy
        have fb : ∀ k, k < n → fbN y k = fbN x k := fun k hk => fbN_cg (y3 k (by omega))
        have fbn : fbN y n = f := by unfold fbN; rw [y3n]; exact nI_clamp (by omega)
        have fble : ∀ k, k < n + 1 → fbN y k ≤ k := fun k hk => by
          rcases Nat.lt_or_ge k n with q | q
          · rw [fb k q]; exact (ck k q).2.1
          · rw [show k = n by omega, fbn]; omega
        have pd : ∀ k, k < n → pD (fbN y) k = pD (fbN x) k := fun k hk => pD_cg (fun j hj => (ck j (by omega)).2.1) (fun j hj => fb j (by omega))
        have hbn : ∀ j, j < 12 → (bS (1 <<< (nI n &&& 31)) j ↔ j = n) := fun j hj => bS_bit (by omega) hj
        have path : M12 pm (n + 1) ∧ ∀ j, j < 12 → (bS pm j ↔ j ∈ pD (fbN y) n) := by
          rw [hpm]
          by_cases h0 : f = 0
          · rw [if_pos h0, pD_0 (by rw [fbn]; exact h0), show (0 : Int32) ||| (1 <<< (nI n &&& 31)) = 1 <<< (nI n &&& 31) from Int32.zero_or]
            exact ⟨M12_bit (by omega) (by omega), fun j hj => by rw [List.mem_singleton]; exact hbn j hj⟩
          · obtain ⟨-, -, k1, k2⟩ := ck (f - 1) (by omega)
            rw [if_neg h0, pD_s (fun j hj => fble j (by omega)) (by rw [fbn]; exact h0), fbn, pd (f - 1) (by omega)]
            refine ⟨M12_or (M12_le k1 (by omega)) (by omega) (by omega), fun j hj => ?_⟩
            rw [bS_or (by omega) hj, k2 j hj, List.mem_cons]
            exact Or.comm
        have ld := cl n (Nat.le_refl _) hlt
        obtain ⟨ld6, ld8, ld9, ld10, ld11, ld12⟩ := ld
        refine ⟨_, n + 1, ne, rfl, vok_i, yf, fun x2 hm h5 hS => ⟨fun r2 w z => r2 = some (.int (nI n)) ∧ z = adS w n (nI f) d, r_addLine Y x2 c n f d hI.2.1.2.1 h5 (st_84 hS) hlt hf h2, ?_⟩⟩
        rintro r2 w z w84 w85 ⟨rfl, hz⟩
        have z84 : ∀ k, z.1 84 k = if k = 0 then nI n + 1 else if k = 2 + 9 * n + 4 then 1 else if k = 2 + 9 * n + 2 then 100 else if k = 2 + 9 * n then nI f else if 2 + 9 * n ≤ k ∧ k < 2 + 9 * n + 9 then 0 else x.1 84 k := fun k => by
          rw [hz]
          show u2 (u2 (u2 (u2 (clS w n 9) 84 (2 + 9 * n) (nI f)) 84 (2 + 9 * n + 2) 100) 84 (2 + 9 * n + 4) 1) 84 0 (nI n + 1) 84 k = _
          by_cases q0 : k = 0
          · rw [if_pos q0, q0, u2_at]
          · rw [if_neg q0, u2_k _ _ _ _ q0]
            by_cases q1 : k = 2 + 9 * n + 4
            · rw [if_pos q1, q1, u2_at]
            · rw [if_neg q1, u2_k _ _ _ _ q1]
              by_cases q2 : k = 2 + 9 * n + 2
              · rw [if_pos q2, q2, u2_at]
              · rw [if_neg q2, u2_k _ _ _ _ q2]
                by_cases q3 : k = 2 + 9 * n
                · rw [if_pos q3, q3, u2_at]
                · rw [if_neg q3, u2_k _ _ _ _ q3, clS_k, w84]
        have zo : ∀ k, k ≠ 0 → (k < 2 + 9 * n ∨ 2 + 9 * n + 9 ≤ k) → z.1 84 k = x.1 84 k := fun k h0 h1 => by
          rw [z84, if_neg h0, if_neg (by omega), if_neg (by omega), if_neg (by omega), if_neg (by omega)]
        have zn : ∀ s, s ≤ 8 → s ≠ 0 → s ≠ 2 → s ≠ 4 → z.1 84 (2 + 9 * n + s) = 0 := fun s h0 h1 h2 h3 => by
          rw [z84, if_neg (by omega), if_neg (by omega), if_neg (by omega), if_neg (by omega), if_pos (by omega)]
        have z85 : ∀ k, k ≠ 4 + n → z.2.1 85 k = x.2.1 85 k := fun k hk => by
          rw [hz]
          show u2 w.2.1 85 (4 + n) d 85 k = _
          rw [u2_k _ _ _ _ hk, w85]
        have z85n : z.2.1 85 (4 + n) = d := by
          rw [hz]
          exact u2_at w.2.1 85 (4 + n) d
        have zf : fr frM w z ∧ z.1 83 = w.1 83 := by
          rw [hz]
          refine ⟨⟨fun a ha => ?_, fun a ha => ?_, rfl⟩, ?_⟩
          · have h84 : a ≠ 84 := fun q => ha (by rw [q]; decide)
            show u2 (u2 (u2 (u2 (clS w n 9) 84 (2 + 9 * n) (nI f)) 84 (2 + 9 * n + 2) 100) 84 (2 + 9 * n + 4) 1) 84 0 (nI n + 1) a = _
            rw [u2_ne h84, u2_ne h84, u2_ne h84, u2_ne h84]
            funext j; exact congrFun (clS_o w n 9 a h84) j
          · have h85 : a ≠ 85 := fun q => ha (by rw [q]; decide)
            exact u2_ne h85
          · show u2 (u2 (u2 (u2 (clS w n 9) 84 (2 + 9 * n) (nI f)) 84 (2 + 9 * n + 2) 100) 84 (2 + 9 * n + 4) 1) 84 0 (nI n + 1) 83 = _
            rw [u2_ne (by decide), u2_ne (by decide), u2_ne (by decide), u2_ne (by decide)]
            exact clS_o w n 9 83 (by decide)
        clear hz
        have yC : CFG y (n + 1) := by
          refine ⟨⟨by omega, by rw [yd 2 (by omega) (by omega)]; exact c2, by rw [yd 2 (by omega) (by omega)]; exact c3, by rw [yd 1 (by omega) (by omega)]; exact c4, fun k hk => ?_, fun k hk => ?_⟩, y22, fun k hk => ?_, fun k h1 h2 => LD_cg (by rw [ye 6 (by omega) (by omega) (by omega) (by omega)]) (by rw [ye 8 (by omega) (by omega) (by omega) (by omega)]) (by rw [ye 9 (by omega) (by omega) (by omega) (by omega)]) (by rw [ye 10 (by omega) (by omega) (by omega) (by omega)]) (by rw [ye 11 (by omega) (by omega) (by omega) (by omega)]) (by rw [ye 12 (by omega) (by omega) (by omega) (by omega)]) (cl k (by omega) h2), by rw [ye 7 (by omega) (by omega) (by omega) (by omega)]; exact M12_le cs (by omega), by rw [ye 7 (by omega) (by omega) (by omega) (by omega)]; exact M12_le co (by omega)⟩
          · rcases Nat.lt_or_ge k n with q | q
            · rw [y5 k (by omega)]; exact c5 k q
            · rw [show k = n by omega, y5n]; exact zi_imp h2
          · refine LR_cg (g := x) (by rw [ye 6 (by omega) (by omega) (by omega) (by omega)]) (by rw [ye 8 (by omega) (by omega) (by omega) (by omega)]) (by rw [ye 9 (by omega) (by omega) (by omega) (by omega)]) (by rw [ye 10 (by omega) (by omega) (by omega) (by omega)]) (by rw [ye 11 (by omega) (by omega) (by omega) (by omega)]) (by rw [ye 12 (by omega) (by omega) (by omega) (by omega)]) ?_
            rcases Nat.lt_or_ge k n with q | q
            · exact c6 k q
            · rw [show k = n by omega]
              exact ⟨⟨0, by omega, ld6⟩, ⟨100, by omega, by omega, ld8⟩, ⟨0, by omega, ld9⟩, ⟨1, by omega, by omega, ld10⟩, ⟨0, by omega, ld11⟩, ⟨0, by omega, ld12⟩⟩
          · rcases Nat.lt_or_ge k n with q | q
            · obtain ⟨q1, q2, q3, q4⟩ := ck k q
              rw [y3 k (by omega), y4 k (by omega), fb k q, pd k q]
              exact ⟨q1, q2, M12_le q3 (by omega), q4⟩
            · rw [show k = n by omega, y3n, y4n, fbn]
              exact ⟨rfl, hf, path.1, path.2⟩
        have zfb : ∀ k, k < n + 1 → z.1 84 (2 + 9 * k) = nI (fbN y k) := fun k hk => by
          rcases Nat.lt_or_ge k n with q | q
          · rw [zo _ (by omega) (by omega), fb k q]; exact (m3 k q).1
          · rw [show k = n by omega, fbn, z84, if_neg (by omega), if_neg (by omega), if_neg (by omega), if_pos rfl]
        refine ⟨rfl, zf.1, congrFun zf.2 5, congrFun zf.2 0, yC, ⟨v1, by rw [ye 13 (by omega) (by omega) (by omega) (by omega)]; exact v2, fun j hj => by rw [yd 15 (by omega) (by omega)]; exact v3 j hj, by rw [yd 13 (by omega) (by omega)]; exact v4⟩, ⟨⟨by omega, ?_, fun k hk => ⟨zfb k hk, fble k hk⟩⟩, y22, fun k hk => (yC.2.2.1 k hk).1, fun k j hk hj => (yC.2.2.1 k hk).2.2.2 j hj, ⟨?_, ?_, ?_, fun k hk => ?_⟩, fun k hk => ?_⟩, fun k hk => ?_, ⟨w1, by rw [ye 13 (by omega) (by omega) (by omega) (by omega)]; exact w2, ?_, fun j hj => ⟨?_, ?_⟩, ?_⟩⟩
        · rw [z84, if_pos rfl, nI_1]
        · rw [z85 0 (by omega), yd 2 (by omega) (by omega)]; exact r5
        · rw [z85 1 (by omega), yd 2 (by omega) (by omega)]; exact r6
        · rw [z85 2 (by omega), yd 1 (by omega) (by omega)]; exact r7
        · rcases Nat.lt_or_ge k n with q | q
          · rw [z85 _ (by omega), y5 k (by omega)]; exact r8 k q
          · rw [show k = n by omega, z85n, y5n]
        · rw [ye 6 (by omega) (by omega) (by omega) (by omega), ye 8 (by omega) (by omega) (by omega) (by omega), ye 9 (by omega) (by omega) (by omega) (by omega), ye 10 (by omega) (by omega) (by omega) (by omega), ye 11 (by omega) (by omega) (by omega) (by omega), ye 12 (by omega) (by omega) (by omega) (by omega), ye 7 (by omega) (by omega) (by omega) (by omega)]
          rcases Nat.lt_or_ge k n with q | q
          · rw [zo _ (by omega) (by omega), zo _ (by omega) (by omega), zo _ (by omega) (by omega), zo _ (by omega) (by omega), zo _ (by omega) (by omega), zo _ (by omega) (by omega), zo _ (by omega) (by omega)]
            exact r9 k q
          · rw [show k = n by omega, zn 1 (by decide) (by decide) (by decide) (by decide), zn 3 (by decide) (by decide) (by decide) (by decide), zn 5 (by decide) (by decide) (by decide) (by decide), zn 6 (by decide) (by decide) (by decide) (by decide), zn 7 (by decide) (by decide) (by decide) (by decide), ld6, ld8, ld9, ld10, ld11, ld12]
            refine ⟨rfl, ?_, rfl, ?_, rfl, rfl, ?_⟩
            · rw [z84, if_neg (by omega), if_neg (by omega), if_pos rfl]
            · rw [z84, if_neg (by omega), if_pos rfl]
            · rw [if_neg (fun z => by rw [bS_iff (by omega), cs n (Nat.le_refl _)] at z; cases z)]
        · rw [ye 7 (by omega) (by omega) (by omega) (by omega)]
          rcases Nat.lt_or_ge k n with q | q
          · rw [zo _ (by omega) (by omega)]; exact o1 k q
          · rw [show k = n by omega, zn 8 (by decide) (by decide) (by decide) (by decide), if_neg (fun z => by rw [bS_iff (by omega), co n (Nat.le_refl _)] at z; cases z)]
        · rw [zo 1 (by omega) (by omega)]; exact w3
        · rw [zo _ (by omega) (by omega), ye 14 (by omega) (by omega) (by omega) (by omega)]; exact (w4 j hj).1
        · rw [z85 _ (by omega), yd 15 (by omega) (by omega)]; exact (w4 j hj).2
        · rw [z85 _ (by omega), yd 13 (by omega) (by omega)]; exact w5
      · have h12e : n = 12 := by omega
        subst h12e
        refine Or.inr (Or.inr (op_ref hI (t_addLine3 Y hfl x (nI f) d (by rw [hn]; exact h) h2 (by rw [hn]; decide)) (fun x2 hm hS => b_addLine2 Y x2 (nI f) d (st_84 hS) ⟨h, h2⟩)))
    · exact Or.inr (Or.inl (op_ref hI (t_addLine2 Y hfl x (nI f) d (by rw [hn]; exact h) h2) (fun x2 hm hS => b_addLine Y x2 n (nI f) d (st_84 hS) (fun z => h2 z.2))))
  · exact Or.inr (Or.inl (op_ref hI (t_addLine1 Y hfl x v d (by rw [hn]; exact h)) (fun x2 hm hS => b_addLine Y x2 n v d (st_84 hS) (fun z => h z.1))))
end
