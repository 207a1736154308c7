/-! the order of trips: what the class lines up from the far end is what the reference lines up from the source -/
theorem zs_eq {D : Nat → Nat → Prop} (asym : ∀ a b, D a b → ¬ D b a) : ∀ {L M : List Nat}, List.Pairwise D L → List.Pairwise D M → (∀ e, e ∈ L ↔ e ∈ M) → L = M
  | [], [], _, _, _ => rfl
  | [], b :: M, _, _, h => absurd ((h b).mpr List.mem_cons_self) List.not_mem_nil
  | a :: L, [], _, _, h => absurd ((h a).mp List.mem_cons_self) List.not_mem_nil
  | a :: L, b :: M, hL, hM, h => by
    rw [List.pairwise_cons] at hL hM
    have hab : a = b := by
      rcases List.mem_cons.mp ((h a).mp List.mem_cons_self) with q | q
      · exact q
      · rcases List.mem_cons.mp ((h b).mpr List.mem_cons_self) with z | z
        · exact z.symm
        · exact absurd (hL.1 b z) (asym _ _ (hM.1 a q))
    subst hab
    rw [zs_eq asym hL.2 hM.2 (fun e => ?_)]
    constructor
    · intro q
      rcases List.mem_cons.mp ((h e).mp (List.mem_cons_of_mem _ q)) with z | z
      · subst z; exact absurd (hL.1 e q) (fun w => asym _ _ w w)
      · exact z
    · intro q
      rcases List.mem_cons.mp ((h e).mpr (List.mem_cons_of_mem _ q)) with z | z
      · subst z; exact absurd (hM.1 e q) (fun w => asym _ _ w w)
      · exact z
/-- b is behind a: later, or as late and of smaller number -/
def zs_D (T : Nat → UInt64) (a b : Nat) : Prop := zf_s (T b) < zf_s (T a) ∨ (zf_s (T b) = zf_s (T a) ∧ a < b)
theorem zs_as {T : Nat → UInt64} : ∀ a b, zs_D T a b → ¬ zs_D T b a := fun a b h k => by unfold zs_D at h k; omega
theorem zs_tr {T : Nat → UInt64} {a b c : Nat} (h : zs_D T a b) (k : zs_D T b c) : zs_D T a c := by unfold zs_D at *; omega
theorem zs_tot {T : Nat → UInt64} {a b : Nat} (h : ¬ zs_D T a b) (hn : a ≠ b) : zs_D T b a := by unfold zs_D at *; omega
theorem zs_bf {T : Nat → UInt64} {e r : Nat} (he : zf_ok (T e)) (hr : zf_ok (T r)) : bfM T e r ↔ zs_D T e r := by
  unfold bfM zs_D
  rw [zf_gt he hr, zf_eq he hr]
  omega
theorem zs_ins {T : Nat → UInt64} {r : Nat} (hr : zf_ok (T r)) : ∀ {M : List Nat}, List.Pairwise (zs_D T) M → r ∉ M → (∀ e, e ∈ M → zf_ok (T e)) → List.Pairwise (zs_D T) (insQ T r M)
  | [], _, _, _ => List.pairwise_singleton _ _
  | e :: M, h, hn, hk => by
    rw [List.pairwise_cons] at h
    have hne : e ≠ r := fun q => hn (q ▸ List.mem_cons_self)
    unfold insQ
    split
    · next hb =>
      rw [zs_bf (hk e List.mem_cons_self) hr] at hb
      rw [List.pairwise_cons]
      refine ⟨fun b hb2 => ?_, zs_ins hr h.2 (fun q => hn (List.mem_cons_of_mem _ q)) (fun x hx => hk x (List.mem_cons_of_mem _ hx))⟩
      rcases (insQ_mem T r b M).mp hb2 with q | q
      · rw [q]; exact hb
      · exact h.1 b q
    · next hb =>
      rw [zs_bf (hk e List.mem_cons_self) hr] at hb
      have hb := zs_tot hb hne
      rw [List.pairwise_cons]
      refine ⟨fun b hb2 => ?_, List.pairwise_cons.mpr h⟩
      rcases List.mem_cons.mp hb2 with q | q
      · rw [q]; exact hb
      · exact zs_tr hb (h.1 b q)
theorem zs_RQ {T : Nat → UInt64} {r : Nat} (hr : zf_ok (T r)) : ∀ {M : List Nat}, (∀ e, e ∈ M → zf_ok (T e) ∧ r < e) → insR T r M = insQ T r M
  | [], _ => rfl
  | e :: M, h => by
    obtain ⟨h1, h2⟩ := h e List.mem_cons_self
    have ih := zs_RQ hr (M := M) (fun x hx => h x (List.mem_cons_of_mem _ hx))
    unfold insR insQ
    rw [ih]
    by_cases q : 0 < cml (T e) (T r)
    · rw [if_pos q, if_pos (Or.inl q)]
    · rw [if_neg q, if_neg (fun w => w.elim q (fun z => by omega))]
theorem zs_l {m : Int32} {o T : Nat → UInt64} (ho : ∀ r, r < 12 → bS m r → cmg (o r) 9218868437227405312 < 0 → zf_ok (T r)) : ∀ k, k ≤ 12 → List.Pairwise (zs_D T) (ltC m o T k).reverse ∧ ∀ e, e ∈ ltC m o T k ↔ (12 - k ≤ e ∧ e < 12 ∧ bS m e ∧ cmg (o e) 9218868437227405312 < 0)
  | 0, _ => ⟨List.Pairwise.nil, fun e => ⟨fun h => absurd h List.not_mem_nil, fun h => by omega⟩⟩
  | k + 1, hk => by
    obtain ⟨i1, i2⟩ := zs_l ho k (by omega)
    have he : ∀ e, (12 - (k + 1) ≤ e ∧ e < 12) ↔ (e = 11 - k ∨ (12 - k ≤ e ∧ e < 12)) := fun e => by omega
    unfold ltC
    split
    · next hb =>
      refine ⟨i1, fun e => ?_⟩
      rw [i2]
      constructor
      · rintro ⟨a, b, c, d⟩; exact ⟨by omega, b, c, d⟩
      · rintro ⟨a, b, c, d⟩
        refine ⟨?_, b, c, d⟩
        rcases Nat.eq_or_lt_of_le a with q | q
        · exact absurd hb (by rw [show 11 - k = e by omega]; exact c)
        · omega
    · next hb =>
      split
      · next hc =>
        have hT : zf_ok (T (11 - k)) := ho _ (by omega) hb hc
        have hM : ∀ e, e ∈ (ltC m o T k).reverse → zf_ok (T e) ∧ 11 - k < e := fun e he => by
          obtain ⟨a, b, c, d⟩ := (i2 e).mp (List.mem_reverse.mp he)
          exact ⟨ho e b c d, by omega⟩
        refine ⟨?_, fun e => ?_⟩
        · unfold insC
          rw [List.reverse_reverse, zs_RQ hT hM]
          exact zs_ins hT i1 (fun q => absurd (hM _ q).2 (Nat.lt_irrefl _)) (fun e he => (hM e he).1)
        · rw [insC_mem, i2]
          constructor
          · rintro (rfl | ⟨a, b, c, d⟩)
            · exact ⟨by omega, by omega, hb, hc⟩
            · exact ⟨by omega, b, c, d⟩
          · rintro ⟨a, b, c, d⟩
            rcases Nat.eq_or_lt_of_le a with q | q
            · exact Or.inl (by omega)
            · exact Or.inr ⟨by omega, b, c, d⟩
      · next hc =>
        refine ⟨i1, fun e => ?_⟩
        rw [i2]
        constructor
        · rintro ⟨a, b, c, d⟩; exact ⟨by omega, b, c, d⟩
        · rintro ⟨a, b, c, d⟩
          refine ⟨?_, b, c, d⟩
          rcases Nat.eq_or_lt_of_le a with q | q
          · exact absurd d (by rw [← show 11 - k = e by omega]; exact hc)
          · omega
theorem zs_m {o T : Nat → UInt64} : ∀ {P L : List Nat}, List.Pairwise (fun a b => a < b) P → (∀ r, r ∈ P → ¬ cml (o r) 9218868437227405312 = 0 → zf_ok (T r)) → (∀ e, e ∈ L → zf_ok (T e)) → (∀ e r, e ∈ L → r ∈ P → e ≠ r) → List.Pairwise (zs_D T) L.reverse → List.Pairwise (zs_D T) (mlC o T P L).reverse
  | [], L, _, _, _, _, h => h
  | r :: P, L, hP, ho, hk, hd, h => by
    rw [List.pairwise_cons] at hP
    have hP2 := hP.2
    unfold mlC
    split
    · exact zs_m hP2 (fun x hx => ho x (List.mem_cons_of_mem _ hx)) hk (fun e x he hx => hd e x he (List.mem_cons_of_mem _ hx)) h
    · next hc =>
      have hT := ho r List.mem_cons_self hc
      refine zs_m hP2 (fun x hx => ho x (List.mem_cons_of_mem _ hx)) (fun e he => ?_) (fun e x he hx => ?_) ?_
      · rcases (insM_mem T r e L).mp he with q | q
        · rw [q]; exact hT
        · exact hk e q
      · rcases (insM_mem T r e L).mp he with q | q
        · rw [q]; exact Nat.ne_of_lt (hP.1 x hx)
        · exact hd e x q (List.mem_cons_of_mem _ hx)
      · unfold insM
        rw [List.reverse_reverse]
        exact zs_ins hT h (fun q => hd r r (List.mem_reverse.mp q) List.mem_cons_self rfl) (fun e he => hk e (List.mem_reverse.mp he))
theorem zs_lm {m : Int32} {o T : Nat → UInt64} {P : List Nat} (hP : List.Pairwise (fun a b => a < b) P) (h12 : ∀ e, e ∈ P → e < 12) (hm : ∀ j, j < 12 → (bS m j ↔ j ∈ P)) (ho : ∀ r, r ∈ P → zt (o r)) (hT : ∀ r, r ∈ P → zr 964 1083 (o r) → zf_ok (T r)) : ltC m o T 12 = mlC o T P [] := by
  have c1 : ∀ r, r ∈ P → (cmg (o r) 9218868437227405312 < 0 ↔ zr 964 1083 (o r)) := fun r hr => by rw [zt_g (ho r hr), zt_lt (ho r hr)]
  have c2 : ∀ r, r ∈ P → (¬ cml (o r) 9218868437227405312 = 0 ↔ zr 964 1083 (o r)) := fun r hr => by
    rw [zt_eq (ho r hr)]
    rcases ho r hr with q | q
    · rw [q]; exact ⟨fun w => absurd rfl w, fun w => absurd w zI_nr⟩
    · exact ⟨fun _ => q, fun _ w => zI_nr (w ▸ q)⟩
  obtain ⟨l1, l2⟩ := zs_l (m := m) (o := o) (T := T) (fun r hr hb hc => by
    have hrP := (hm r hr).mp hb
    exact hT r hrP ((c1 r hrP).mp hc)) 12 (Nat.le_refl _)
  have m1 := zs_m (o := o) (T := T) (P := P) (L := []) hP (fun r hr hc => hT r hr ((c2 r hr).mp hc)) (fun e he => absurd he List.not_mem_nil) (fun e _ he => absurd he List.not_mem_nil) List.Pairwise.nil
  refine List.reverse_inj.mp (zs_eq zs_as l1 m1 (fun e => ?_))
  rw [List.mem_reverse, List.mem_reverse, l2, mlC_mem]
  constructor
  · rintro ⟨-, b, c, d⟩
    have heP := (hm e b).mp c
    exact Or.inr ⟨heP, (c2 e heP).mpr ((c1 e heP).mp d)⟩
  · rintro (q | ⟨a, b⟩)
    · exact absurd q List.not_mem_nil
    · exact ⟨by omega, h12 e a, (hm e (h12 e a)).mpr a, (c1 e a).mpr ((c2 e a).mp b)⟩
/-! the times of a simulation -/
theorem zs_t {t o : UInt64} (ht : t.toNat ≤ 1043 * 4503599627370496) (ho : zr 964 1083 o) : zr 964 1084 (FP.dadd t o) ∧ zr 964 1085 (FP.dadd (FP.dadd t o) 4588807732320345784) ∧ zr 964 1086 (FP.dadd (FP.dadd (FP.dadd t o) 4588807732320345784) 4602678819172646912) := by
  have a : zr 964 1084 (FP.dadd t o) := by
    rw [zf_addc (Nat.lt_of_le_of_lt ht (by decide)) (zr_I ho)]
    exact zr_add (e := 1083) ho (Nat.le_trans ht (by decide)) (Nat.le_refl _) (by decide)
  have b : zr 964 1085 (FP.dadd (FP.dadd t o) 4588807732320345784) := zr_add (e := 1084) a (Nat.le_trans zc_006.2.1 (by decide)) (Nat.le_refl _) (by decide)
  exact ⟨a, b, zr_add (e := 1085) b (Nat.le_trans zc_05.2.1 (by decide)) (Nat.le_refl _) (by decide)⟩
theorem zs_dur {t dur : UInt64} (hd : zr 1013 1043 dur) (ht : t.toNat ≤ 9218868437227405312) (h : cml t dur < 0) : t.toNat ≤ 1043 * 4503599627370496 := by
  rw [zf_lt (Or.inl ht) (zr_ok hd), zf_s0 ht, zf_s0 (Nat.le_of_lt (zr_I hd))] at h
  have := hd.2.1
  omega
theorem zs_n0 {t : UInt64} (ht : t.toNat ≤ 9218868437227405312) : ¬ cml t 0 < 0 := by
  rw [zf_lt (Or.inl ht) z0_ok, z0_s, zf_s0 ht]; omega
theorem zs_Id {dur : UInt64} (hd : zr 1013 1043 dur) : ¬ cml 9218868437227405312 dur < 0 := by
  rw [zf_lt zI_ok (zr_ok hd), zI_s, zf_s0 (Nat.le_of_lt (zr_I hd))]
  have := zr_I hd
  omega
theorem zs_smOK {g : Hp} {n k : Nat} {cur dur : UInt64} (h : CR g n) (hf : ∀ j, j ≤ k → fbN g j ≤ j) (hk : k < n) (hb : ∀ j, j < 12 → (bS (g.1 4 k) j ↔ j ∈ pD (fbN g) k)) (hc : cur.toNat ≤ 1053 * 4503599627370496) (hd : zr 1013 1043 dur) : smOK g (g.1 4 k) (pD (fbN g) k).reverse cur dur := by
  have hn : ∀ r, r ∈ (pD (fbN g) k).reverse → r < n := fun r hr => by have := pD_le hf r (List.mem_reverse.mp hr); omega
  have h12 := h.1
  refine ⟨zs_Id hd, fun t ht => zs_n0 ht, fun t ht hlt => ?_⟩
  have htb := zs_dur hd ht hlt
  have hfin : ∀ r, r ∈ (pD (fbN g) k).reverse → ¬ cml (tfS g r cur) 9218868437227405312 = 0 → zr 964 1083 (tfS g r cur) := fun r hr hne => by
    rcases (zc_tm (h.2.2.2.2.2 r (hn r hr)) hc).2 with q | q
    · exact absurd ((zt_eq (Or.inl q)).mpr q) hne
    · exact q
  refine ⟨fun r hr => ⟨(zc_tm (h.2.2.2.2.2 r (hn r hr)) hc).1, fun hne => zc_n (zs_t htb (hfin r hr hne)).1⟩, ?_, fun r hr hne => ?_⟩
  · refine zs_lm (by rw [List.pairwise_reverse]; exact pD_pw hf) (fun e he => by have := hn e he; omega) (fun j hj => by rw [List.mem_reverse]; exact hb j hj) (fun r hr => (zc_tm (h.2.2.2.2.2 r (hn r hr)) hc).2) (fun r hr ho => zr_ok (zs_t htb ho).1)
  · obtain ⟨a, b, c⟩ := zs_t htb (hfin r hr hne)
    refine ⟨?_, zc_n b, zc_n c, Nat.le_of_lt (zr_I c)⟩
    rw [zf_gl (zr_ok a) zI_ok, zf_lt (zr_ok a) zI_ok, zI_s, zf_s0 (Nat.le_of_lt (zr_I a))]
    have := zr_I a
    omega
/-- a time of an event -/
def tv (v : UInt64) : Prop := zr 964 1086 v
def tvE (E : Ev) : Prop := ∀ (c : Int32) (t : UInt64), (c, t) ∈ E → tv t
def tvC (v : UInt64) : Prop := v = 0 ∨ v = 9218868437227405312 ∨ tv v
theorem tvE_A {E : Ev} {c : Int32} {t : UInt64} (h : tvE E) (ht : tv t) : tvE (evA E c t) := by
  unfold evA
  split
  · intro c2 t2 hm
    rcases List.mem_append.mp hm with q | q
    · exact h c2 t2 q
    · have := List.mem_singleton.mp q
      cases this
      exact ht
  · exact h
theorem tv_tk {T : Nat → UInt64} {st : Int32} : ∀ {L : List Nat} {c : UInt64} {O : List Nat} {E : Ev}, (∀ e, e ∈ L → tv (T e)) → tvE E → tvE (tkC T st L c O E).2
  | [], _, _, _, _, h => h
  | r :: L, c, O, E, hL, h => by
    have hr := hL r List.mem_cons_self
    have hL2 : ∀ e, e ∈ L → tv (T e) := fun e he => hL e (List.mem_cons_of_mem _ he)
    unfold tkC
    split
    · split
      · exact tv_tk hL2 (tvE_A h hr)
      · exact tv_tk hL2 (tvE_A (tvE_A h hr) hr)
    · exact h
theorem tv_op {T : Nat → UInt64} : ∀ {O : List Nat} {E : Ev}, (∀ e, e ∈ O → tv (FP.dadd (T e) 4588807732320345784)) → tvE E → tvE (opE T O E)
  | [], _, _, h => h
  | r :: O, E, hO, h => tv_op (O := O) (fun e he => hO e (List.mem_cons_of_mem _ he)) (tvE_A h (hO r List.mem_cons_self))
theorem m12_op {n : Nat} (hn : n ≤ 12) : ∀ {O : List Nat} {m : Int32}, (∀ e, e ∈ O → e < n) → M12 m n → M12 (opM O m) n
  | [], _, _, h => h
  | r :: O, m, hO, h => m12_op (O := O) hn (fun e he => hO e (List.mem_cons_of_mem _ he)) (M12_or h (hO r List.mem_cons_self) hn)
theorem tv_rd1 {m st : Int32} {sh : Nat → Int32} {o T : Nat → UInt64} {om : Int32} {K : Nat → Int32} {E : Ev} (hT : ∀ r, r < 12 → bS m r → cmg (o r) 9218868437227405312 < 0 → tv (FP.dadd (FP.dadd (T r) 4588807732320345784) 4602678819172646912)) : (rdC m st sh o T om K E).1.toNat ≤ 9218868437227405312 := by
  obtain ⟨q, hq⟩ : ∃ q, tkC T st (ltC m o T 12) 9218868437227405312 [] E = q := ⟨_, rfl⟩
  by_cases h0 : q.1 = []
  · rw [rdC_0 hq h0]
    show (9218868437227405312 : UInt64).toNat ≤ _
    decide +kernel
  · have hl : tv (FP.dadd (FP.dadd (T (rlO q.1)) 4588807732320345784) 4602678819172646912) := by
      have he := rlO_mem h0
      rw [← hq] at he
      rcases tkC_mem he with w | w
      · cases w
      · obtain ⟨-, b, c, d⟩ := ltC_mem (Nat.le_refl _) w
        rw [← hq]
        exact hT _ b c d
    by_cases h2 : opK q.1 K (rlO q.1) ≤ sh (rlO q.1)
    · rw [rdC_1 hq h0 h2]
      exact Nat.le_of_lt (zr_I hl)
    · rw [rdC_2 hq h0 h2]
      show (9218868437227405312 : UInt64).toNat ≤ _
      decide +kernel
theorem tv_rd {m st : Int32} {sh : Nat → Int32} {o T : Nat → UInt64} {om : Int32} {K : Nat → Int32} {E : Ev} {n : Nat} (hn : n ≤ 12) (hT : ∀ r, r < 12 → bS m r → cmg (o r) 9218868437227405312 < 0 → r < n ∧ tv (T r) ∧ tv (FP.dadd (T r) 4588807732320345784) ∧ tv (FP.dadd (FP.dadd (T r) 4588807732320345784) 4602678819172646912)) (hE : tvE E) (hom : M12 om n) :
    (rdC m st sh o T om K E).1.toNat ≤ 9218868437227405312 ∧ M12 (rdC m st sh o T om K E).2.1 n ∧ tvE (rdC m st sh o T om K E).2.2.2.1 ∧ tvC (rdC m st sh o T om K E).2.2.2.2 := by
  have hL : ∀ e, e ∈ ltC m o T 12 → e < n ∧ tv (T e) ∧ tv (FP.dadd (T e) 4588807732320345784) ∧ tv (FP.dadd (FP.dadd (T e) 4588807732320345784) 4602678819172646912) := fun e he => by
    obtain ⟨-, b, c, d⟩ := ltC_mem (Nat.le_refl _) he
    exact hT e b c d
  obtain ⟨q, hq⟩ : ∃ q, tkC T st (ltC m o T 12) 9218868437227405312 [] E = q := ⟨_, rfl⟩
  have hO : ∀ e, e ∈ q.1 → e ∈ ltC m o T 12 := fun e he => by
    rw [← hq] at he
    rcases tkC_mem he with w | w
    · cases w
    · exact w
  have hE2 : tvE q.2 := by rw [← hq]; exact tv_tk (fun e he => (hL e he).2.1) hE
  by_cases h0 : q.1 = []
  · rw [rdC_0 hq h0]
    exact ⟨by show (9218868437227405312 : UInt64).toNat ≤ _; decide +kernel, hom, hE2, Or.inr (Or.inl rfl)⟩
  · have hl := hL _ (hO _ (rlO_mem h0))
    have hf : q.1.headD 0 ∈ q.1 := by
      cases hqq : q.1 with
      | nil => exact absurd hqq h0
      | cons f P => exact List.mem_cons_self
    have hh := hL _ (hO _ hf)
    have hE3 : tvE (opE T q.1 q.2) := tv_op (fun e he => (hL e (hO e he)).2.2.1) hE2
    have hm : M12 (opM q.1 om) n := m12_op hn (fun e he => (hL e (hO e he)).1) hom
    by_cases h2 : opK q.1 K (rlO q.1) ≤ sh (rlO q.1)
    · rw [rdC_1 hq h0 h2]
      exact ⟨Nat.le_of_lt (zr_I hl.2.2.2), M12_and hm, tvE_A hE3 hl.2.2.2, Or.inr (Or.inr hh.2.2.1)⟩
    · rw [rdC_2 hq h0 h2]
      exact ⟨by show (9218868437227405312 : UInt64).toNat ≤ _; decide +kernel, hm, hE3, Or.inr (Or.inr hh.2.2.1)⟩
theorem zs_T {g : Hp} {n : Nat} {m : Int32} {cur t : UInt64} (h : CR g n) (hb : ∀ j, j < 12 → bS m j → j < n) (hc : cur.toNat ≤ 1053 * 4503599627370496) (ht : t.toNat ≤ 1043 * 4503599627370496) : ∀ r, r < 12 → bS m r → cmg (tfS g r cur) 9218868437227405312 < 0 → r < n ∧ zr 964 1084 (FP.dadd t (tfS g r cur)) ∧ tv (FP.dadd (FP.dadd t (tfS g r cur)) 4588807732320345784) ∧ tv (FP.dadd (FP.dadd (FP.dadd t (tfS g r cur)) 4588807732320345784) 4602678819172646912) := fun r hr hbr hcr => by
  have hrn := hb r hr hbr
  have z := (zc_tm (h.2.2.2.2.2 r hrn) hc).2
  rw [zt_g z, zt_lt z] at hcr
  obtain ⟨a, b, c⟩ := zs_t ht hcr
  exact ⟨hrn, a, zr_mono b (by decide) (by decide) (by decide) (by decide), c⟩
theorem tv_4 {v : UInt64} (h : zr 964 1084 v) : tv v := zr_mono h (by decide) (by decide) (by decide) (by decide)
/-- the class's own times -/
theorem zs_tmQ {g : Hp} {n : Nat} {m : Int32} {cur dur : UInt64} (h : CR g n) (hb : ∀ j, j < 12 → bS m j → j < n) (hc : cur.toNat ≤ 1053 * 4503599627370496) (hd : zr 1013 1043 dur) : tmQ g m cur dur (fun _ t => t.toNat ≤ 9218868437227405312) := by
  refine ⟨by decide +kernel, fun i t ht hlt => ?_⟩
  have htb := zs_dur hd ht hlt
  have q := zs_T h hb hc htb
  refine ⟨fun r hr hbr => ⟨(zc_tm (h.2.2.2.2.2 r (hb r hr hbr)) hc).1, fun hcr => ⟨zc_n (q r hr hbr hcr).2.1, zc_n (q r hr hbr hcr).2.2.1, zc_n (q r hr hbr hcr).2.2.2⟩⟩, fun om K E => tv_rd1 (fun r hr hbr hcr => (q r hr hbr hcr).2.2.2)⟩
theorem tv_run {g : Hp} {n : Nat} {m st : Int32} {sh : Nat → Int32} {cur dur : UInt64} (h : CR g n) (hb : ∀ j, j < 12 → bS m j → j < n) (hc : cur.toNat ≤ 1053 * 4503599627370496) (hd : zr 1013 1043 dur) : ∀ (d : Nat) (t : UInt64) (om : Int32) (K : Nat → Int32) (E : Ev) (cl : UInt64), t.toNat ≤ 9218868437227405312 → M12 om n → tvE E → tvC cl → M12 (runC m st sh (fun r => tfS g r cur) dur d t om K E cl).1 n ∧ tvE (runC m st sh (fun r => tfS g r cur) dur d t om K E cl).2.1 ∧ tvC (runC m st sh (fun r => tfS g r cur) dur d t om K E cl).2.2
  | 0, _, _, _, _, _, _, h1, h2, h3 => ⟨h1, h2, h3⟩
  | d + 1, t, om, K, E, cl, ht, h1, h2, h3 => by
    by_cases a : m &&& om = 0
    · by_cases b : cml t dur < 0
      · rw [runC_2 a b]
        have htb := zs_dur hd ht b
        have q := zs_T h hb hc htb
        obtain ⟨r1, r2, r3, r4⟩ := tv_rd (m := m) (st := st) (sh := sh) (o := fun r => tfS g r cur) (T := fun r => FP.dadd t (tfS g r cur)) (om := om) (K := K) (E := E) h.1 (fun r hr hbr hcr => ⟨(q r hr hbr hcr).1, tv_4 (q r hr hbr hcr).2.1, (q r hr hbr hcr).2.2.1, (q r hr hbr hcr).2.2.2⟩) h2 h1
        exact tv_run h hb hc hd d _ _ _ _ _ r1 r2 r3 r4
      · rw [runC_1 a b]; exact ⟨h1, h2, h3⟩
    · rw [runC_0 a]; exact ⟨h1, h2, h3⟩
