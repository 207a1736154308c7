/-! loads, violations, open breakers: the two sides count the same -/
theorem sb_INV {g : Hp} {n : Nat} (h : CFG g n) : INV g n := ⟨h.1.1, h.2.1, fun k hk => ⟨(h.2.2.1 k hk).1, (h.2.2.1 k hk).2.1⟩, zc_NOK h.1⟩
theorem sb_fb {g : Hp} {n : Nat} (h : CFG g n) : ∀ k, k < n → fbN g k ≤ k := fun k hk => (h.2.2.1 k hk).2.1
theorem sb_ORD {g : Hp} {n : Nat} (h : CFG g n) : ORD g n := zc_ORD h.1 (sb_fb h)
theorem sb_MO {g x : Hp} {n : Nat} (h : CFG g n) (hR : REL g x n) : MO g x n := ⟨⟨hR, sb_INV h, zc_RG1 h.1, zc_GOK h.1⟩, sb_ORD h⟩
theorem sb_and {g : Hp} {n k : Nat} {m : Int32} (h : CFG g n) (hk : k < n) : g.1 4 k &&& m = 0 ↔ ∀ j, j ∈ pD (fbN g) k → ¬ bS m j := by
  have h12 := h.1.1
  obtain ⟨-, -, k1, k2⟩ := h.2.2.1 k hk
  have hle : ∀ j, j ∈ pD (fbN g) k → j ≤ k := pD_le (fun j hj => sb_fb h j (by omega))
  rw [and_0 h12 k1]
  constructor
  · intro q j hj hb
    have := hle j hj
    exact q j (by omega) ⟨(k2 j (by omega)).mpr hj, hb⟩
  · intro q j hj hb
    exact q j ((k2 j (by omega)).mp hb.1) hb.2
theorem sb_lo {g x : Hp} {n k : Nat} (h : CFG g n) (hR : REL g x n) (hk : k < n) : ∀ j, j ≤ n → loM g x k j = loS g (1 <<< (nI k &&& 31)) j
  | 0, _ => rfl
  | j + 1, hj => by
    have h12 := h.1.1
    have ih := sb_lo h hR hk j (by omega)
    have e := sb_and (m := 1 <<< (nI k &&& 31)) h (show j < n by omega)
    have hle : ∀ b, b ∈ pD (fbN g) j → b ≤ j := pD_le (fun b hb => sb_fb h b (by omega))
    unfold loM loS
    rw [ih]
    by_cases q : k ∈ pD (fbN g) j
    · rw [if_pos q, if_neg (fun z => (e.mp z) k q ((bS_bit (by omega) (by omega)).mpr rfl)), (hR.2.2.2.2.2 j (by omega)).1]
    · rw [if_neg q, if_pos (e.mpr (fun b hb hs => q (by
        have := hle b hb
        rw [← (bS_bit (r := k) (k := b) (by omega) (by omega)).mp hs]; exact hb))), Int32.add_zero]
theorem sb_opB {g : Hp} {n k : Nat} {m : Int32} (h : CFG g n) (hk : k < n) : g.1 4 k &&& m = 0 ↔ opB m (pD (fbN g) k).reverse = false := by
  rw [sb_and h hk]
  unfold opB
  rw [List.any_eq_false]
  constructor
  · intro q e he z
    exact q e (List.mem_reverse.mp he) (of_decide_eq_true z)
  · intro q e he z
    exact q e (List.mem_reverse.mpr he) (decide_eq_true z)
theorem sb_ll {g x : Hp} {n : Nat} (h : CFG g n) (hR : REL g x n) : ∀ j, j ≤ n → llS g x j = loS g (g.1 7 6) j
  | 0, _ => rfl
  | j + 1, hj => by
    have ih := sb_ll h hR j (by omega)
    have e := sb_opB (m := g.1 7 6) h (show j < n by omega)
    unfold llS loS
    rw [ih]
    by_cases q : g.1 4 j &&& g.1 7 6 = 0
    · rw [if_pos q, e.mp q, if_neg (by decide), Int32.add_zero]
    · rw [if_neg q, if_pos (by
        cases z : opB (g.1 7 6) (pD (fbN g) j).reverse with
        | true => rfl
        | false => exact absurd (e.mpr z) q), (hR.2.2.2.2.2 j (by omega)).1]
/-! ranks: in a strict order that is total, each number below the count is the rank of one -/
theorem rk_ins {D : Nat → Nat → Bool} {r : Nat} (tot : ∀ a b, a ≠ b → D a b = true ∨ D b a = true) (tr : ∀ a b c, D a b = true → D b c = true → D a c = true) : ∀ {M : List Nat}, List.Pairwise (fun a b => D a b = true) M → r ∉ M → ∃ S, List.Pairwise (fun a b => D a b = true) S ∧ S.Perm (r :: M)
  | [], _, _ => ⟨[r], List.pairwise_singleton _ _, List.Perm.refl _⟩
  | e :: M, h, hn => by
    rw [List.pairwise_cons] at h
    have hne : e ≠ r := fun q => hn (q ▸ List.mem_cons_self)
    by_cases hb : D e r = true
    · obtain ⟨S, s1, s2⟩ := rk_ins tot tr h.2 (fun q => hn (List.mem_cons_of_mem _ q))
      refine ⟨e :: S, List.pairwise_cons.mpr ⟨fun b hb2 => ?_, s1⟩, (s2.cons e).trans (List.Perm.swap r e M)⟩
      rcases List.mem_cons.mp (s2.mem_iff.mp hb2) with q | q
      · rw [q]; exact hb
      · exact h.1 b q
    · have hb2 : D r e = true := (tot e r hne).elim (fun z => absurd z hb) id
      refine ⟨r :: e :: M, List.pairwise_cons.mpr ⟨fun b hb3 => ?_, List.pairwise_cons.mpr h⟩, List.Perm.refl _⟩
      rcases List.mem_cons.mp hb3 with q | q
      · rw [q]; exact hb2
      · exact tr r e b hb2 (h.1 b q)
theorem rk_sort {D : Nat → Nat → Bool} (tot : ∀ a b, a ≠ b → D a b = true ∨ D b a = true) (tr : ∀ a b c, D a b = true → D b c = true → D a c = true) : ∀ {V : List Nat}, V.Nodup → ∃ S, List.Pairwise (fun a b => D a b = true) S ∧ S.Perm V
  | [], _ => ⟨[], List.Pairwise.nil, List.Perm.refl _⟩
  | a :: V, h => by
    rw [List.nodup_cons] at h
    obtain ⟨S, s1, s2⟩ := rk_sort tot tr h.2
    obtain ⟨S2, t1, t2⟩ := rk_ins (r := a) tot tr s1 (fun q => h.1 (s2.mem_iff.mp q))
    exact ⟨S2, t1, t2.trans (s2.cons a)⟩
theorem rk_at {D : Nat → Nat → Bool} (asym : ∀ a b, D a b = true → ¬ D b a = true) : ∀ {S : List Nat} (r : Nat) (e : Nat), List.Pairwise (fun a b => D a b = true) S → S[r]? = some e → S.countP (fun b => D b e) = r
  | [], r, e, _, h => by simp at h
  | a :: S, 0, e, hp, h => by
    rw [List.pairwise_cons] at hp
    have : a = e := by simpa using h
    subst this
    rw [List.countP_eq_zero]
    intro b hb z
    rcases List.mem_cons.mp hb with q | q
    · subst q; exact asym _ _ z z
    · exact asym _ _ z (hp.1 b q)
  | a :: S, r + 1, e, hp, h => by
    rw [List.pairwise_cons] at hp
    have he : S[r]? = some e := by simpa using h
    have hm : e ∈ S := List.mem_of_getElem? he
    rw [List.countP_cons_of_pos (p := fun b => D b e) (hp.1 e hm), rk_at asym r e hp.2 he]
/-- the violations -/
def vioL (x : Hp) : Nat → List Nat
  | 0 => []
  | j + 1 => if cmg (woS x j) (reqS x) < 0 then j :: vioL x j else vioL x j
theorem vioL_len (x : Hp) : ∀ n, (vioL x n).length = cvS x n
  | 0 => rfl
  | n + 1 => by
    unfold vioL cvS
    split
    · rw [List.length_cons, vioL_len x n]
    · exact vioL_len x n
theorem vioL_mem (x : Hp) : ∀ n k, k ∈ vioL x n ↔ k < n ∧ vioS x k
  | 0, k => ⟨fun h => absurd h List.not_mem_nil, fun h => absurd h.1 (by omega)⟩
  | n + 1, k => by
    unfold vioL
    split
    · next h =>
      rw [List.mem_cons, vioL_mem x n k]
      constructor
      · rintro (rfl | ⟨a, b⟩)
        · exact ⟨by omega, h⟩
        · exact ⟨by omega, b⟩
      · rintro ⟨a, b⟩
        rcases Nat.lt_or_ge k n with q | q
        · exact Or.inr ⟨q, b⟩
        · exact Or.inl (by omega)
    · next h =>
      rw [vioL_mem x n k]
      constructor
      · rintro ⟨a, b⟩; exact ⟨by omega, b⟩
      · rintro ⟨a, b⟩
        refine ⟨?_, b⟩
        rcases Nat.lt_or_ge k n with q | q
        · exact q
        · exact absurd b (by rw [show k = n by omega]; exact h)
theorem vioL_nd (x : Hp) : ∀ n, (vioL x n).Nodup
  | 0 => List.nodup_nil
  | n + 1 => by
    unfold vioL
    split
    · exact List.nodup_cons.mpr ⟨fun q => by have := ((vioL_mem x n n).mp q).1; omega, vioL_nd x n⟩
    · exact vioL_nd x n
def rkD (x : Hp) (a b : Nat) : Bool := decide (zf_s (woS x a) < zf_s (woS x b) ∨ (zf_s (woS x a) = zf_s (woS x b) ∧ a < b))
theorem rk_rw {x : Hp} {n k : Nat} (h : CFG x n) (hk : k < n) (hv : vioS x k) : ∀ j, j ≤ n → rwS x k (woS x k) j = (vioL x j).countP (fun b => rkD x b k)
  | 0, _ => rfl
  | j + 1, hj => by
    have ih := rk_rw h hk hv j (by omega)
    have dj := zc_wo h.1 (show j < n by omega) (sb_fb h j (by omega))
    have dk := zc_wo h.1 hk (sb_fb h k hk)
    have e : (cmg (woS x j) (woS x k) < 0 ∨ (cml (woS x j) (woS x k) = 0 ∧ j < k)) ↔ rkD x j k = true := by
      unfold rkD
      rw [zf_gl dj.1 dk.1, zf_lt dj.1 dk.1, zf_eq dj.1 dk.1, decide_eq_true_iff]
    unfold rwS
    rw [ih]
    by_cases q : cmg (woS x j) (woS x k) < 0 ∨ (cml (woS x j) (woS x k) = 0 ∧ j < k)
    · have hjv : vioS x j := (sb_ORD h).2.2 j k (by omega) hk hv (q.elim Or.inl (fun z => Or.inr z.1))
      have hL : vioL x (j + 1) = j :: vioL x j := if_pos hjv
      rw [if_pos q, hL, List.countP_cons_of_pos (p := fun b => rkD x b k) (e.mp q)]
    · rw [if_neg q]
      have hq : ¬ rkD x j k = true := fun z => q (e.mpr z)
      by_cases hjv : vioS x j
      · have hL : vioL x (j + 1) = j :: vioL x j := if_pos hjv
        rw [hL, List.countP_cons_of_neg (p := fun b => rkD x b k) hq]
      · have hL : vioL x (j + 1) = vioL x j := if_neg hjv
        rw [hL]
theorem rk_lt {x : Hp} {n k : Nat} (h : CFG x n) (hk : k < n) (hv : vioS x k) : rwS x k (woS x k) n < cvS x n := by
  rw [rk_rw h hk hv n (Nat.le_refl _), ← vioL_len]
  have hm : k ∈ vioL x n := (vioL_mem x n k).mpr ⟨hk, hv⟩
  have hself : ¬ rkD x k k = true := by
    unfold rkD
    rw [decide_eq_true_iff]
    omega
  have h1 := List.countP_le_length (p := fun b => rkD x b k) (l := vioL x n)
  rcases Nat.eq_or_lt_of_le h1 with q | q
  · exact absurd (List.countP_eq_length.mp q k hm) hself
  · exact q
theorem rk_ex {x : Hp} {n r : Nat} (h : CFG x n) (hr : r < cvS x n) : ∃ k, k < n ∧ vioS x k ∧ rwS x k (woS x k) n = r := by
  obtain ⟨S, s1, s2⟩ := rk_sort (D := rkD x) (V := vioL x n) (fun a b q => by
    unfold rkD
    rw [decide_eq_true_iff, decide_eq_true_iff]
    omega) (fun a b c p q => by
    unfold rkD at *
    rw [decide_eq_true_iff] at *
    omega) (vioL_nd x n)
  have hl : r < S.length := by rw [s2.length_eq, vioL_len]; exact hr
  have he : S[r]? = some S[r] := List.getElem?_eq_getElem hl
  have hm : S[r] ∈ vioL x n := s2.mem_iff.mp (List.mem_of_getElem? he)
  obtain ⟨hk, hv⟩ := (vioL_mem x n _).mp hm
  refine ⟨S[r], hk, hv, ?_⟩
  rw [rk_rw h hk hv n (Nat.le_refl _), ← s2.countP_eq]
  exact rk_at (fun a b p q => by
    unfold rkD at *
    rw [decide_eq_true_iff] at *
    omega) r _ s1 he
theorem vo_mv {x : Hp} {n : Nat} {r : Int32} : ∀ d k, d + k = n → (∃ j, k ≤ j ∧ j < n ∧ vioS x j ∧ nI (rwS x j (woS x j) n) = r) → voS x n r d k = mvS x n r d k ∧ ∃ j, j < n ∧ voS x n r d k = nI j
  | 0, k, hd, ⟨j, h1, h2, _⟩ => absurd h2 (by omega)
  | d + 1, k, hd, ⟨j, h1, h2, h3, h4⟩ => by
    unfold voS mvS
    by_cases q : cmg (woS x k) (reqS x) < 0 ∧ nI (rwS x k (woS x k) n) = r
    · rw [if_pos q, if_pos q]; exact ⟨rfl, k, by omega, rfl⟩
    · rw [if_neg q, if_neg q]
      refine vo_mv d (k + 1) (by omega) ⟨j, ?_, h2, h3, h4⟩
      rcases Nat.eq_or_lt_of_le h1 with z | z
      · subst z; exact absurd ⟨h3, h4⟩ q
      · exact z
theorem vo_no {x : Hp} {n : Nat} {r : Int32} : ∀ d k, (∀ j, k ≤ j → j < k + d → ¬ (vioS x j ∧ nI (rwS x j (woS x j) n) = r)) → voS x n r d k = -1
  | 0, _, _ => rfl
  | d + 1, k, h => by
    refine (if_neg (h k (Nat.le_refl _) (by omega))).trans ?_
    exact vo_no d (k + 1) (fun j h1 h2 => h j (by omega) (by omega))
theorem nI_rng {v : Int32} {n : Nat} (hn : n < 2 ^ 31) (h : 0 ≤ v ∧ v ≤ nI n - 1) : ∃ k, k < n ∧ v = nI k := by
  obtain ⟨j, hj, rfl⟩ := nI_of (fun z => absurd h.1 (Int32.not_le.mpr z))
  cases n with
  | zero =>
    exfalso
    have z := Int32.le_iff_toInt_le.mp h.2
    rw [nI_toInt hj, show (nI 0 - 1).toInt = -1 by decide] at z
    omega
  | succ m =>
    rw [nI_pred] at h
    exact ⟨j, by have := (nI_leI hj (by omega)).mp h.2; omega, rfl⟩
theorem nI_rg {v : Int32} {lo hi : Nat} (hn : hi < 2 ^ 31) (hlo : lo ≤ hi) (h : nI lo ≤ v ∧ v ≤ nI hi) : ∃ k, lo ≤ k ∧ k ≤ hi ∧ v = nI k := by
  have h0 : 0 ≤ v := by
    have z := Int32.le_iff_toInt_le.mp h.1
    rw [nI_toInt (by omega)] at z
    exact Int32.le_iff_toInt_le.mpr (by rw [show (0 : Int32).toInt = 0 by decide]; omega)
  obtain ⟨j, hj, rfl⟩ := nI_of (fun z => absurd h0 (Int32.not_le.mpr z))
  exact ⟨j, (nI_leI (by omega) hj).mp h.1, (nI_leI hj hn).mp h.2, rfl⟩
