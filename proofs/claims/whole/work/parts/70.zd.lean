/-! what holds at the entry -/
theorem lw_t {w : Cond} {i : Nat} (h : tables_1[i]? = some w) : w ∈ lw_tbl := List.mem_append_right _ (List.mem_of_getElem? h)
theorem k0_arr {args : Array Value} {s : State} {ty : FieldType} (h : (Cond.arrayClass ty).before args s = true) : ∃ c, ArrOfT s c ty ∧ s.vm.findClass ("[" ++ ty.toString) = some c := by
  obtain ⟨c, k, comp, h1, h2, h3⟩ := Cond.arrayClass_spec h
  exact ⟨c, fun n z => ⟨fun k h => (by cases h), k, h2, comp, h3⟩, h1⟩
theorem k0_gK {args : Array Value} {s : State} (hts : ∀ w ∈ lw_tbl, w.before args s = true) : ∃ (G : va_G) (tc : Tc), gK G tc s := by
  have hg : ∀ w ∈ gw, w.before args s = true := fun w hw => hts w (gw_tbl hw)
  obtain ⟨c0, i0, h0⟩ := u_known hg giX0 (hts (Cond.instantiable RX0 4) (lw_t (i := 115) (by decide +kernel)))
  obtain ⟨c1, i1, h1⟩ := u_known hg giX1 (hts (Cond.instantiable RX1 7) (lw_t (i := 36) (by decide +kernel)))
  obtain ⟨c2, i2, h2⟩ := u_known hg giX2 (hts (Cond.instantiable RX2 7) (lw_t (i := 75) (by decide +kernel)))
  obtain ⟨c3, i3, h3⟩ := u_known hg giX3 (hts (Cond.instantiable RX3 6) (lw_t (i := 180) (by decide +kernel)))
  obtain ⟨c4, i4, h4⟩ := u_known hg giX4 (hts (Cond.instantiable RX4 4) (lw_t (i := 30) (by decide +kernel)))
  obtain ⟨c5, i5, h5⟩ := u_known hg giX5 (hts (Cond.instantiable RX5 3) (lw_t (i := 160) (by decide +kernel)))
  obtain ⟨c6, i6, h6⟩ := u_known hg giX6 (hts (Cond.instantiable RX6 3) (lw_t (i := 22) (by decide +kernel)))
  obtain ⟨c7, i7, h7⟩ := u_known hg giX7 (hts (Cond.instantiable RX7 15) (lw_t (i := 741) (by decide +kernel)))
  obtain ⟨t0, ha0, hn0⟩ := k0_arr (hts (Cond.arrayClass .int) (lw_t (i := 72) (by decide +kernel)))
  obtain ⟨t1, ha1, hn1⟩ := k0_arr (hts (Cond.arrayClass .double) (lw_t (i := 73) (by decide +kernel)))
  obtain ⟨t2, ha2, hn2⟩ := k0_arr (hts (Cond.arrayClass .long) (lw_t (i := 1053) (by decide +kernel)))
  have hO := hts (Cond.arrayOver (.object RX4)) (lw_t (i := 166) (by decide +kernel))
  obtain ⟨comp, t3, kA, f1, -, f2, f3, f4⟩ := Cond.arrayOver_spec hO
  refine ⟨(fun c => [c0, c1, c2, c3, c4, c5, c6, c7].getD c 0, fun c => [i0, i1, i2, i3, i4, i5, i6, i7].getD c (fun _ => 0)), fun c => [t0, t1, t2, t3].getD c 0, ⟨⟨fun c q hq => ?_, fun k q hq => ?_⟩, ?_, ?_, ?_⟩, va_AO.of hO⟩
  · match c, hq with
    | 0, hq => cases hq; exact h0
    | 1, hq => cases hq; exact h1
    | 2, hq => cases hq; exact h2
    | 3, hq => cases hq; exact h3
    | 4, hq => cases hq; exact h4
    | 5, hq => cases hq; exact h5
    | 6, hq => cases hq; exact h6
    | 7, hq => cases hq; exact h7
    | c + 8, hq => cases hq
  · match k, hq with
    | 0, hq => cases hq; exact ⟨ha0, hn0⟩
    | 1, hq => cases hq; exact ⟨ha1, hn1⟩
    | 2, hq => cases hq; exact ⟨ha2, hn2⟩
    | 3, hq => cases hq; exact ⟨fun n z => ⟨fun k h => (by cases h), kA, f2, comp, f3⟩, kA, comp, f2, f3, f1, f4⟩
    | k + 4, hq => cases hq
  · exact va_Nw.of rfl (hts _ (lw_t (i := 248) (by decide +kernel)))
  · exact va_Nw.of rfl (hts _ (lw_t (i := 680) (by decide +kernel)))
  · exact va_Nw.of rfl (hts _ (lw_t (i := 230) (by decide +kernel)))
theorem k0_str {args : Array Value} {s : State} {k : Nat} {tx : String} {cur : Nat} (hcur : s.vm.findClass RX6 = some cur) (h : (Cond.stringRef RX6 k tx).before args s = true) : ∃ sa : Nat, vk_R RX6 k tx sa s := by
  have h1 : (Cond.stringRef RX6 k tx).before #[] s = true := by
    simp only [Cond.before, Cond.holds, Cond.value] at h ⊢
    exact h
  obtain ⟨-, -, -, a, -, -, -, -, -, hev⟩ := Cond.stringRef_spec hcur h1
  exact ⟨a, vk_R.of h1 hev⟩
theorem k0_tK {args : Array Value} {s : State} (hts : ∀ w ∈ lw_tbl, w.before args s = true) : tK s := by
  obtain ⟨cC, kC, hfc, -⟩ := Cond.instantiable_spec (hts (Cond.instantiable RX6 3) (lw_t (i := 22) (by decide +kernel)))
  refine ⟨?_, ?_, ?_⟩
  · exact List.forall_mem_cons.mpr ⟨va_Nw.of rfl (hts _ (lw_t (i := 373) (by decide +kernel))), List.forall_mem_cons.mpr ⟨va_Nw.of rfl (hts _ (lw_t (i := 459) (by decide +kernel))), List.forall_mem_cons.mpr ⟨va_Nw.of rfl (hts _ (lw_t (i := 624) (by decide +kernel))), fun _ h => absurd h List.not_mem_nil⟩⟩⟩
  · exact List.forall_mem_cons.mpr ⟨va_Nw.of rfl (hts _ (lw_t (i := 374) (by decide +kernel))), List.forall_mem_cons.mpr ⟨va_Nw.of rfl (hts _ (lw_t (i := 375) (by decide +kernel))), List.forall_mem_cons.mpr ⟨va_Nw.of rfl (hts _ (lw_t (i := 376) (by decide +kernel))), List.forall_mem_cons.mpr ⟨va_Nw.of rfl (hts _ (lw_t (i := 377) (by decide +kernel))), List.forall_mem_cons.mpr ⟨va_Nw.of rfl (hts _ (lw_t (i := 378) (by decide +kernel))), List.forall_mem_cons.mpr ⟨va_Nw.of rfl (hts _ (lw_t (i := 379) (by decide +kernel))), fun _ h => absurd h List.not_mem_nil⟩⟩⟩⟩⟩⟩
  · exact List.forall_mem_cons.mpr ⟨k0_str hfc (hts _ (lw_t (i := 412) (by decide +kernel))), List.forall_mem_cons.mpr ⟨k0_str hfc (hts _ (lw_t (i := 444) (by decide +kernel))), List.forall_mem_cons.mpr ⟨k0_str hfc (hts _ (lw_t (i := 456) (by decide +kernel))), List.forall_mem_cons.mpr ⟨k0_str hfc (hts _ (lw_t (i := 466) (by decide +kernel))), List.forall_mem_cons.mpr ⟨k0_str hfc (hts _ (lw_t (i := 484) (by decide +kernel))), List.forall_mem_cons.mpr ⟨k0_str hfc (hts _ (lw_t (i := 485) (by decide +kernel))), List.forall_mem_cons.mpr ⟨k0_str hfc (hts _ (lw_t (i := 497) (by decide +kernel))), List.forall_mem_cons.mpr ⟨k0_str hfc (hts _ (lw_t (i := 508) (by decide +kernel))), List.forall_mem_cons.mpr ⟨k0_str hfc (hts _ (lw_t (i := 516) (by decide +kernel))), List.forall_mem_cons.mpr ⟨k0_str hfc (hts _ (lw_t (i := 517) (by decide +kernel))), List.forall_mem_cons.mpr ⟨k0_str hfc (hts _ (lw_t (i := 518) (by decide +kernel))), List.forall_mem_cons.mpr ⟨k0_str hfc (hts _ (lw_t (i := 527) (by decide +kernel))), List.forall_mem_cons.mpr ⟨k0_str hfc (hts _ (lw_t (i := 535) (by decide +kernel))), List.forall_mem_cons.mpr ⟨k0_str hfc (hts _ (lw_t (i := 577) (by decide +kernel))), List.forall_mem_cons.mpr ⟨k0_str hfc (hts _ (lw_t (i := 596) (by decide +kernel))), List.forall_mem_cons.mpr ⟨k0_str hfc (hts _ (lw_t (i := 604) (by decide +kernel))), List.forall_mem_cons.mpr ⟨k0_str hfc (hts _ (lw_t (i := 631) (by decide +kernel))), List.forall_mem_cons.mpr ⟨k0_str hfc (hts _ (lw_t (i := 660) (by decide +kernel))), List.forall_mem_cons.mpr ⟨k0_str hfc (hts _ (lw_t (i := 720) (by decide +kernel))), List.forall_mem_cons.mpr ⟨k0_str hfc (hts _ (lw_t (i := 735) (by decide +kernel))), fun _ h => absurd h List.not_mem_nil⟩⟩⟩⟩⟩⟩⟩⟩⟩⟩⟩⟩⟩⟩⟩⟩⟩⟩⟩⟩
theorem k0_tZ {args : Array Value} {s : State} {A : Nat → Prop} (hts : ∀ w ∈ lw_tbl, w.before args s = true) (hg : (Jvm.Cond.and given_1 narrow_1).before args s = true) (hA : ∀ a : Nat, a < s.heap.size → ¬ A a) : tZ A s s.heap := by
  have hf := flat_of_before _ hg
  have hi := hts (Cond.initialized Bundle.tN) (lw_t (i := 10) (by decide +kernel))
  exact ⟨vx_Zqof (hts _ (lw_t (i := 398) (by decide +kernel))) hi (hf _ (by decide +kernel)) hA, vx_Zqof (hts _ (lw_t (i := 400) (by decide +kernel))) hi (hf _ (by decide +kernel)) hA⟩
theorem k0_nC {args : Array Value} {s : State} (hg : (Jvm.Cond.and given_1 narrow_1).before args s = true) : nC s := va_Nc.of (flat_of_before _ hg _ (by decide +kernel))
