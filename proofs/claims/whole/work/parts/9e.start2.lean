/-! THE LAW'S START -/
theorem lt_1 {w : Cond} (h : w ∈ tables_1_1) : w ∈ lw_tbl := List.mem_append_right _ (List.mem_append_left _ h)
theorem lt_2 {w : Cond} (h : w ∈ tables_1_2) : w ∈ lw_tbl := List.mem_append_right _ (List.mem_append_right _ (List.mem_append_left _ h))
theorem lt_3 {w : Cond} (h : w ∈ tables_1_3) : w ∈ lw_tbl := List.mem_append_right _ (List.mem_append_right _ (List.mem_append_right _ (List.mem_append_left _ h)))
theorem lt_4 {w : Cond} (h : w ∈ tables_1_4) : w ∈ lw_tbl := List.mem_append_right _ (List.mem_append_right _ (List.mem_append_right _ (List.mem_append_right _ h)))
theorem s0_g {args : Array Value} {s : State} (hts : ∀ w ∈ lw_tbl, w.before args s = true) : ∀ w ∈ ct_GW, w.before args s = true := fun w h => hts w (List.mem_filter.mp h).1
theorem s0_arr {args : Array Value} {s : State} {ty : FieldType} (h : (Cond.arrayClass ty).before args s = true) : ∃ d : ClassId, ArrOfT s d ty ∧ s.vm.findClass ("[" ++ ty.toString) = some d := by
  obtain ⟨d, k, comp, h1, h2, h3⟩ := Cond.arrayClass_spec h
  exact ⟨d, fun n z => ⟨fun k h => (by cases h), k, h2, comp, h3⟩, h1⟩
theorem s0_arrO {args : Array Value} {s : State} {C : String} (h : (Cond.arrayOver (.object C)).before args s = true) : ∃ d : ClassId, ArrOfT s d (.object C) ∧ va_RA s d (.object C) := by
  obtain ⟨comp, d, k, h1, h2, h3, h4, h5⟩ := Cond.arrayOver_spec h
  exact ⟨d, fun n z => ⟨fun k h => (by cases h), k, h3, comp, h4⟩, k, comp, h3, h4, h1, h5⟩
theorem s0_K {args : Array Value} {s : State} (hts : ∀ w ∈ lw_tbl, w.before args s = true) : ∃ (D : va_G) (cA : Nat → ClassId), va_K D ct_cl (ct_tys cA) s := by
  have hg := s0_g hts
  obtain ⟨c0, i0, k0⟩ := u_known hg ct_in0 (hg _ (ct_t1 (List.mem_of_getElem? (i := 34) rfl) rfl))
  obtain ⟨c1, i1, k1⟩ := u_known hg ct_in1 (hg _ (ct_t1 (List.mem_of_getElem? (i := 91) rfl) rfl))
  obtain ⟨c2, i2, k2⟩ := u_known hg ct_in2 (hg _ (ct_t1 (List.mem_of_getElem? (i := 174) rfl) rfl))
  obtain ⟨c3, i3, k3⟩ := u_known hg ct_in3 (hg _ (ct_t1 (List.mem_of_getElem? (i := 25) rfl) rfl))
  obtain ⟨c4, i4, k4⟩ := u_known hg ct_in4 (hg _ (ct_t1 (List.mem_of_getElem? (i := 17) rfl) rfl))
  obtain ⟨c5, i5, k5⟩ := u_known hg ct_in5 (hg _ (ct_t3 (List.mem_of_getElem? (i := 114) rfl) rfl))
  obtain ⟨d0, f0, g0⟩ := s0_arr (hts _ (lt_1 (List.mem_of_getElem? (i := 90) rfl)))
  obtain ⟨d1, f1, g1⟩ := s0_arr (hts _ (lt_1 (List.mem_of_getElem? (i := 209) rfl)))
  obtain ⟨d4, f4, g4⟩ := s0_arr (hts _ (lt_4 (List.mem_of_getElem? (i := 67) rfl)))
  obtain ⟨d2, f2, g2⟩ := s0_arrO (hts _ (lt_1 (List.mem_of_getElem? (i := 31) rfl)))
  obtain ⟨d3, f3, g3⟩ := s0_arrO (hts _ (lt_1 (List.mem_of_getElem? (i := 33) rfl)))
  refine ⟨(fun n => match n with | 0 => c0 | 1 => c1 | 2 => c2 | 3 => c3 | 4 => c4 | _ => c5, fun n => match n with | 0 => i0 | 1 => i1 | 2 => i2 | 3 => i3 | 4 => i4 | _ => i5), fun n => match n with | 0 => d0 | 1 => d1 | 2 => d2 | 3 => d3 | _ => d4, fun k q h => ?_, fun k q h => ?_⟩
  · rcases k with _ | _ | _ | _ | _ | _ | k
    · have e := Option.some.inj h
      subst e
      exact k0
    · have e := Option.some.inj h
      subst e
      exact k1
    · have e := Option.some.inj h
      subst e
      exact k2
    · have e := Option.some.inj h
      subst e
      exact k3
    · have e := Option.some.inj h
      subst e
      exact k4
    · have e := Option.some.inj h
      subst e
      exact k5
    · exact absurd (List.getElem?_eq_some_iff.mp h).1 (Nat.not_lt.mpr (Nat.le_add_left 6 k))
  · rcases k with _ | _ | _ | _ | _ | k
    · have e := Option.some.inj h
      subst e
      exact ⟨f0, g0⟩
    · have e := Option.some.inj h
      subst e
      exact ⟨f1, g1⟩
    · have e := Option.some.inj h
      subst e
      exact ⟨f2, g2⟩
    · have e := Option.some.inj h
      subst e
      exact ⟨f3, g3⟩
    · have e := Option.some.inj h
      subst e
      exact ⟨f4, g4⟩
    · exact absurd (List.getElem?_eq_some_iff.mp h).1 (Nat.not_lt.mpr (Nat.le_add_left 5 k))
theorem s0_nw {args : Array Value} {s : State} (hts : ∀ w ∈ lw_tbl, w.before args s = true) : mm_nw ct_NW s := by
  intro q hq
  simp only [ct_NW, List.mem_cons, List.not_mem_nil, or_false] at hq
  rcases hq with rfl | rfl | rfl
  · exact va_Nw.of rfl (hts _ (lt_2 (List.mem_of_getElem? (i := 133) rfl)))
  · exact va_Nw.of rfl (hts _ (lt_2 (List.mem_of_getElem? (i := 186) rfl)))
  · exact va_Nw.of rfl (hts _ (lt_3 (List.mem_of_getElem? (i := 112) rfl)))
theorem s0_cn {args : Array Value} {s : State} (hts : ∀ w ∈ lw_tbl, w.before args s = true) : cn_x s := by
  refine ⟨fun q hq => ?_, va_AO.of (hts _ (lt_1 (List.mem_of_getElem? (i := 31) rfl))), va_AO.of (hts _ (lt_1 (List.mem_of_getElem? (i := 33) rfl)))⟩
  simp only [ct_NI, List.mem_cons, List.not_mem_nil, or_false] at hq
  rcases hq with rfl | rfl | rfl
  · exact va_Nw.of rfl (hts _ (lt_1 (List.mem_of_getElem? (i := 35) rfl)))
  · exact va_Nw.of rfl (hts _ (lt_1 (List.mem_of_getElem? (i := 92) rfl)))
  · exact va_Nw.of rfl (hts _ (lt_1 (List.mem_of_getElem? (i := 175) rfl)))
set_option maxRecDepth 100000 in
set_option maxHeartbeats 1000000 in
theorem s0_cx {args : Array Value} {s : State} {cc : ClassId} (hc : s.vm.findClass "CraneTurns" = some cc) (hts : ∀ w ∈ lw_tbl, w.before args s = true) (hgv : (Jvm.Cond.and given_1 narrow_1).before args s = true) : mx_cx cu_XS s := by
  have hs := flat_of_before _ hgv
  have st : ∀ {k : Nat} {tx : String}, (Cond.stringRef "CraneTurns" k tx).before args s = true → ∃ sa, vk_R "CraneTurns" k tx sa s := fun h => by
    obtain ⟨-, -, -, sa, -, -, -, -, -, hev⟩ := Cond.stringRef_spec hc h
    exact ⟨sa, vk_R.of h hev⟩
  refine ⟨fun q hq => ?_, fun q hq => ?_, fun q hq q' hq' hn => ?_, fun q hq => ?_⟩
  · simp only [ct_E, List.mem_cons, List.not_mem_nil, or_false] at hq
    rcases hq with rfl | rfl | rfl | rfl
    · exact va_Nw.of rfl (hts _ (lt_1 (List.mem_of_getElem? (i := 236) rfl)))
    · exact va_Nw.of rfl (hts _ (lt_2 (List.mem_of_getElem? (i := 68) rfl)))
    · exact va_Nw.of rfl (hts _ (lt_2 (List.mem_of_getElem? (i := 105) rfl)))
    · exact va_Nw.of rfl (hts _ (lt_2 (List.mem_of_getElem? (i := 136) rfl)))
  · simp only [ct_XD, List.mem_cons, List.not_mem_nil, or_false] at hq
    rcases hq with rfl | rfl | rfl
    · exact va_Nw.of rfl (hts _ (lt_1 (List.mem_of_getElem? (i := 238) rfl)))
    · exact va_Nw.of rfl (hts _ (lt_2 (List.mem_of_getElem? (i := 0) rfl)))
    · exact va_Nw.of rfl (hts _ (lt_2 (List.mem_of_getElem? (i := 2) rfl)))
  · simp only [ct_E, List.mem_cons, List.not_mem_nil, or_false] at hq hq'
    rcases hq with rfl | rfl | rfl | rfl <;> rcases hq' with rfl | rfl | rfl | rfl
    · exact absurd rfl hn
    · exact va_Nc.of (args := args) (hs _ (by decide +kernel))
    · exact va_Nc.of (args := args) (hs _ (by decide +kernel))
    · exact va_Nc.of (args := args) (hs _ (by decide +kernel))
    · exact va_Nc.of (args := args) (hs _ (by decide +kernel))
    · exact absurd rfl hn
    · exact va_Nc.of (args := args) (hs _ (by decide +kernel))
    · exact va_Nc.of (args := args) (hs _ (by decide +kernel))
    · exact va_Nc.of (args := args) (hs _ (by decide +kernel))
    · exact va_Nc.of (args := args) (hs _ (by decide +kernel))
    · exact absurd rfl hn
    · exact va_Nc.of (args := args) (hs _ (by decide +kernel))
    · exact va_Nc.of (args := args) (hs _ (by decide +kernel))
    · exact va_Nc.of (args := args) (hs _ (by decide +kernel))
    · exact va_Nc.of (args := args) (hs _ (by decide +kernel))
    · exact absurd rfl hn
  · simp only [cu_XS, List.mem_cons, List.not_mem_nil, or_false] at hq
    rcases hq with rfl | rfl | rfl | rfl | rfl | rfl | rfl | rfl | rfl | rfl | rfl | rfl | rfl | rfl | rfl | rfl | rfl | rfl | rfl
    · exact st (hts _ (lt_2 (List.mem_of_getElem? (i := 36) rfl)))
    · exact st (hts _ (lt_2 (List.mem_of_getElem? (i := 75) rfl)))
    · exact st (hts _ (lt_2 (List.mem_of_getElem? (i := 119) rfl)))
    · exact st (hts _ (lt_2 (List.mem_of_getElem? (i := 120) rfl)))
    · exact st (hts _ (lt_2 (List.mem_of_getElem? (i := 143) rfl)))
    · exact st (hts _ (lt_2 (List.mem_of_getElem? (i := 163) rfl)))
    · exact st (hts _ (lt_2 (List.mem_of_getElem? (i := 164) rfl)))
    · exact st (hts _ (lt_2 (List.mem_of_getElem? (i := 181) rfl)))
    · exact st (hts _ (lt_2 (List.mem_of_getElem? (i := 187) rfl)))
    · exact st (hts _ (lt_2 (List.mem_of_getElem? (i := 203) rfl)))
    · exact st (hts _ (lt_2 (List.mem_of_getElem? (i := 219) rfl)))
    · exact st (hts _ (lt_2 (List.mem_of_getElem? (i := 228) rfl)))
    · exact st (hts _ (lt_3 (List.mem_of_getElem? (i := 38) rfl)))
    · exact st (hts _ (lt_3 (List.mem_of_getElem? (i := 46) rfl)))
    · exact st (hts _ (lt_3 (List.mem_of_getElem? (i := 58) rfl)))
    · exact st (hts _ (lt_3 (List.mem_of_getElem? (i := 107) rfl)))
    · exact st (hts _ (lt_2 (List.mem_of_getElem? (i := 162) rfl)))
    · exact st (hts _ (lt_2 (List.mem_of_getElem? (i := 112) rfl)))
    · exact st (hts _ (lt_2 (List.mem_of_getElem? (i := 180) rfl)))
theorem s0_st {args : Array Value} {s : State} (hts : ∀ w ∈ lw_tbl, w.before args s = true) (hgv : (Jvm.Cond.and given_1 narrow_1).before args s = true) : mx_st (fun q : Nat => s.heap.size ≤ q) s s.heap := by
  have hs := flat_of_before _ hgv
  refine ⟨vx_Zqof (hts _ (lt_2 (List.mem_of_getElem? (i := 21) rfl))) (hts _ (lt_1 (List.mem_of_getElem? (i := 7) rfl))) (hs _ (by decide +kernel)) (fun a h => Nat.not_le.mpr h), vx_Zqof (hts _ (lt_2 (List.mem_of_getElem? (i := 23) rfl))) (hts _ (lt_1 (List.mem_of_getElem? (i := 7) rfl))) (hs _ (by decide +kernel)) (fun a h => Nat.not_le.mpr h)⟩
