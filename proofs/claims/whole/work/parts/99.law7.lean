def R_law : String := "CraneTurnsLaw"
def lw_P (b : Addr) (xs : List Int32) (args : Array Value) (s : State) : Prop := args = #[.ref b] ∧ s.IntsAt b xs ∧ xs.length ≤ 2560 ∧ (Jvm.Cond.and given_1 narrow_1).before args s = true
def lw_Q (_ : Array Value) (s : State) (o : Outcome) (t : State) : Prop := o = .returned (some (.int 1)) ∧ Framed s o t [] 655870 7128494
def lw_Z (below : List Frame) (a : Array Value) (s : State) : State → Prop := fun t => ∃ o, t.status = .running ∧ Ended t below o ∧ lw_Q a s o t
/-- the law's own end, with 1 on the stack, nothing written that was there before, its room as the claim has it -/
theorem lw_ret {p : Program} {l : Launch} {e : Env} {s : State} {m : MethodId} {below : List Frame} {meth : Method} {c : Code} {b : Nat} (hx : p.tables.exec = Jvm.exec) (hb : c.code = code) (hr : meth.sig.returnType = ret) (hlocks : meth.locks = false) {pc : Nat} {H : Heap} {ls : Array Slot} (hdg : decode code pc = .ok (.ireturn, 1)) : W p l e room_1 s m #[Value.ref b] below meth c H [] 655870 7128494 (lw_Z below #[Value.ref b] s) (F0 m pc ls [.int 1]) := by
  intro T hT X
  obtain ⟨fs, hret, hrun, hended, hW, hframe⟩ := X.leave (v := some (.int 1)) (hlocks := hlocks) (fun h => by rw [hr] at h; cases h)
  have hmeth' : T.vm.method? m = some meth := X.method'
  refine ⟨T.setFrames fs, ?_, .returned (some (.int 1)), hrun, hended, rfl, ⟨_, rfl⟩, hW, hframe⟩
  jvm_step X.here [X.here.top, hx, hb, hdg, hmeth', hr, ret, narrow_b1]
  (try refine ⟨rfl, ?_⟩); (try refine ⟨rfl, ?_⟩)
  first | (intro acts; rw [hret _ acts rfl rfl rfl]) | rw [hret _ _ rfl rfl rfl]
  exact Steps.refl _
/-- what holds at the law's entry: the machine, the code, the tables' words (any of lw_tbl by 'hts w (by decide +kernel)'), the script of L ints xs at the cell b, what the Statement gives of the start (any of its parts by flat_of_before) -/
def lw_At (p : Program) (s : State) (m : MethodId) (meth : Method) (c : Code) (b L : Nat) (xs : Nat → Int32) : Prop :=
  p.tables.exec = Jvm.exec ∧ c.code = code ∧ meth.sig.returnType = ret ∧ c.maxLocals = 7 ∧ s.vm.findClass R_law = some m.cls ∧ (∀ w ∈ lw_tbl, w.before #[Value.ref b] s = true) ∧ va_X b L xs s s.heap ∧ b < s.heap.size ∧ meth.locks = false ∧ (Jvm.Cond.and given_1 narrow_1).before #[Value.ref b] s = true
/-! THE LAW'S LOOP -/
section LL
variable {D : va_G} {ad : Nat → Nat} {cA : Nat → ClassId} {l : Launch} {p : Program} {e : Env} {s : State} {m : MethodId} {below : List Frame} {meth : Method} {c : Code} {o b L : Nat} {xs : Nat → Int32}
set_option maxRecDepth 20000 in
set_option maxHeartbeats 4000000 in
theorem law_loop (C : LX D cA p s m #[Value.ref b] c) (hr : meth.sig.returnType = ret) (hlocks : meth.locks = false) (hl : l.stackTraces = false) (hX : va_X b L xs s s.heap) (hbl : b < s.heap.size) (hL : L ≤ 2560) : ∀ (r t T n j : Nat) (M : mm_M) (f : Nat → Int64) (H : Heap) (locs : List Loc) (ls : Array Slot), L < 5 * t + 5 * r → 5 * t ≤ L → T ≤ t → gs M n j T → LWd D ad cA s M o f H locs → lv_has ls 7 (lw_lv ad b o (5 * t)) → W p l e room_1 s m #[Value.ref b] below meth c H locs (1000 + t) (10000 + 6 * t) (lw_Z below #[Value.ref b] s) (F0 m 23 ls [])
  | 0, t, T, n, j, M, f, H, locs, ls, h1, h2, _, _, _, _ => absurd h1 (by omega)
  | r + 1, t, T, n, j, M, f, H, locs, ls, h1, h2, hT, hg, hW, hl9 => by
    have hx := C.1.1
    have hb := C.1.2.1
    have hbA : ¬ (fun q : Nat => s.heap.size ≤ q) b := Nat.not_le.mpr hbl
    have ih := law_loop C hr hlocks hl hX hbl hL r (t + 1)
    refine lv_iload (i := 4) hx hb (by decide +kernel) (lv_at hl9 4 rfl) ?_
    refine lv_aload_n (k := 0) hx hb (by decide +kernel) rfl (lv_at hl9 0 rfl) ?_
    refine va_slen hx hb hX hbl hbA hW.2.2.2 (by decide +kernel) ?_
    refine lv_iconst (n := 5) (v := nI 5) hx hb (by decide +kernel) (by decide) ?_
    refine lv_isub hx hb (by decide +kernel) ?_
    have eL : (Int32.ofNat L - nI 5).toInt = L - 5 := by
      show (nI L - nI 5).toInt = L - 5
      exact pk_sub_toInt (by omega) (by omega)
    have ei : (nI (5 * t)).toInt = 5 * t := nI_toInt (by omega)
    refine lv_icmp_gt (off := 766) (tgt := 795) hx hb (by decide +kernel) (by decide) (fun _ => ?_) (fun hgt => ?_)
    · refine lv_iconst (n := 1) (v := 1) hx hb (by decide +kernel) (by decide) ?_
      refine va_forget (fun q hq => hW.2.2.2.2.2 q hq) ?_
      refine W.widen (k := 655870) (n := 7128494) (by omega) (by omega) ?_
      exact lw_ret hx hb hr hlocks (by decide +kernel)
    · have hi : 5 * t + 4 < L := by
        rw [xa_lt, eL, ei] at hgt
        omega
      have tail : ∀ (H1 : Heap) (locs1 : List Loc) (M1 : mm_M) (f1 : Nat → Int64) (ls1 : Array Slot) (n1 j1 T1 : Nat), T1 ≤ T + 1 → gs M1 n1 j1 T1 → LWd D ad cA s M1 o f1 H1 locs1 → lv_has ls1 7 (lw_lv ad b o (5 * t)) → W p l e room_1 s m #[Value.ref b] below meth c H1 locs1 (1000 + t + 1) (10000 + 6 * t + 6) (lw_Z below #[Value.ref b] s) (F0 m 789 ls1 []) := by
        intro H1 locs1 M1 f1 ls1 n1 j1 T1 hT1 g1 hW1 hl1
        refine lv_iinc (i := 4) (k := 4) (n := 5) (v := nI (5 * (t + 1))) (lv' := [(4, .int (nI (5 * (t + 1)))), (0, .ref b), (1, .ref (ad 0)), (2, .ref (ad 24)), (3, .ref o)]) hx hb (by decide +kernel) hl1 rfl ?_ (by decide) rfl (fun ls2 hl2 => ?_)
        · show nI (5 * t) + nI 5 = nI (5 * (t + 1))
          rw [show 5 * (t + 1) = 5 * t + 5 by omega]
          exact (Int32.ofNat_add (5 * t) 5).symm
        · refine lv_goto (off := -769) (tgt := 23) hx hb (by decide +kernel) (by decide) ?_
          have := ih T1 n1 j1 M1 f1 H1 locs1 ls2 (by omega) (by omega) (by omega) g1 hW1 (lv_sub hl2 [1, 2, 3, 4, 0] rfl)
          rw [show 1000 + (t + 1) = 1000 + t + 1 by omega, show 10000 + 6 * (t + 1) = 10000 + 6 * t + 6 by omega] at this
          exact this
      refine lv_aload_n (k := 0) hx hb (by decide +kernel) rfl (lv_at hl9 0 rfl) ?_
      refine lv_iload (i := 4) hx hb (by decide +kernel) (lv_at hl9 4 rfl) ?_
      refine va_sld hx hb hX hbl hbA hW.2.2.2 (vp_in_nI (by omega) (by omega)) (by decide +kernel) ?_
      refine lv_bipush (n := 15) (v := 15) hx hb (by decide +kernel) (by decide) ?_
      refine lv_iand hx hb (by decide +kernel) ?_
      obtain ⟨jj, hj, ej⟩ := pk_andE (xs (nI (5 * t)).toNatClampNeg) (m := 15) 4 (by decide)
      rw [ej]
      have hT5 : T + 5 < 2 ^ 31 := by omega
      have hcc : 1000 + t ≤ 500000 ∧ 10000 + 6 * t ≤ 6000000 := by omega
      have cs : jj = 0 ∨ jj = 1 ∨ jj = 2 ∨ jj = 3 ∨ jj = 4 ∨ jj = 5 ∨ jj = 6 ∨ jj = 7 ∨ jj = 8 ∨ jj = 9 ∨ jj = 10 ∨ jj = 11 ∨ 12 ≤ jj := by omega
      rcases cs with rfl | rfl | rfl | rfl | rfl | rfl | rfl | rfl | rfl | rfl | rfl | rfl | hj12
      · refine lv_tableIn (dflt := 750) (lo := 0) (hi := 11) (offs := #[61, 133, 205, 285, 333, 369, 433, 489, 557, 625, 638, 694]) (len := 61) (off := 61) (tgt := 100) hx hb (by decide +kernel) (by decide) (by decide) (by decide) (by decide) ?_
        exact lc_track C hl hX hbl hi hL hW hg hT5 hl9 hcc tail
      · refine lv_tableIn (dflt := 750) (lo := 0) (hi := 11) (offs := #[61, 133, 205, 285, 333, 369, 433, 489, 557, 625, 638, 694]) (len := 61) (off := 133) (tgt := 172) hx hb (by decide +kernel) (by decide) (by decide) (by decide) (by decide) ?_
        exact lc_crane C hl hX hbl hi hL hW hg hT5 hl9 hcc tail
      · refine lv_tableIn (dflt := 750) (lo := 0) (hi := 11) (offs := #[61, 133, 205, 285, 333, 369, 433, 489, 557, 625, 638, 694]) (len := 61) (off := 205) (tgt := 244) hx hb (by decide +kernel) (by decide) (by decide) (by decide) (by decide) ?_
        exact lc_job C hl hX hbl hi hL hW hg hT5 hl9 hcc tail
      · refine lv_tableIn (dflt := 750) (lo := 0) (hi := 11) (offs := #[61, 133, 205, 285, 333, 369, 433, 489, 557, 625, 638, 694]) (len := 61) (off := 285) (tgt := 324) hx hb (by decide +kernel) (by decide) (by decide) (by decide) (by decide) ?_
        exact lc_give C hl hX hbl hi hL hW hg hT5 hl9 hcc tail
      · refine lv_tableIn (dflt := 750) (lo := 0) (hi := 11) (offs := #[61, 133, 205, 285, 333, 369, 433, 489, 557, 625, 638, 694]) (len := 61) (off := 333) (tgt := 372) hx hb (by decide +kernel) (by decide) (by decide) (by decide) (by decide) ?_
        exact lc_take C hl hX hbl hi hL hW hg hT5 hl9 hcc tail
      · refine lv_tableIn (dflt := 750) (lo := 0) (hi := 11) (offs := #[61, 133, 205, 285, 333, 369, 433, 489, 557, 625, 638, 694]) (len := 61) (off := 369) (tgt := 408) hx hb (by decide +kernel) (by decide) (by decide) (by decide) (by decide) ?_
        by_cases hz : sa xs (5 * t) 2 = 0
        · exact lc_broken0 C hl hX hbl hi hL hW hg hT5 hl9 hcc hz tail
        · exact lc_broken1 C hl hX hbl hi hL hW hg hT5 hl9 hcc hz tail
      · refine lv_tableIn (dflt := 750) (lo := 0) (hi := 11) (offs := #[61, 133, 205, 285, 333, 369, 433, 489, 557, 625, 638, 694]) (len := 61) (off := 433) (tgt := 472) hx hb (by decide +kernel) (by decide) (by decide) (by decide) (by decide) ?_
        exact lc_run C hl hX hbl hi hL hW hg hT5 hl9 hcc tail
      · refine lv_tableIn (dflt := 750) (lo := 0) (hi := 11) (offs := #[61, 133, 205, 285, 333, 369, 433, 489, 557, 625, 638, 694]) (len := 61) (off := 489) (tgt := 528) hx hb (by decide +kernel) (by decide) (by decide) (by decide) (by decide) ?_
        exact lc_at C hl hX hbl hi hL hW hg hT5 hl9 hcc tail
      · refine lv_tableIn (dflt := 750) (lo := 0) (hi := 11) (offs := #[61, 133, 205, 285, 333, 369, 433, 489, 557, 625, 638, 694]) (len := 61) (off := 557) (tgt := 596) hx hb (by decide +kernel) (by decide) (by decide) (by decide) (by decide) ?_
        exact lc_state C hl hX hbl hi hL hW hg hT5 hl9 hcc tail
      · refine lv_tableIn (dflt := 750) (lo := 0) (hi := 11) (offs := #[61, 133, 205, 285, 333, 369, 433, 489, 557, 625, 638, 694]) (len := 61) (off := 625) (tgt := 664) hx hb (by decide +kernel) (by decide) (by decide) (by decide) (by decide) ?_
        exact lc_near C hl hX hbl hi hL hW hg hT5 hl9 hcc tail
      · refine lv_tableIn (dflt := 750) (lo := 0) (hi := 11) (offs := #[61, 133, 205, 285, 333, 369, 433, 489, 557, 625, 638, 694]) (len := 61) (off := 638) (tgt := 677) hx hb (by decide +kernel) (by decide) (by decide) (by decide) (by decide) ?_
        exact lc_plan C hl hX hbl hi hL hW hg hT5 hl9 hcc tail
      · refine lv_tableIn (dflt := 750) (lo := 0) (hi := 11) (offs := #[61, 133, 205, 285, 333, 369, 433, 489, 557, 625, 638, 694]) (len := 61) (off := 694) (tgt := 733) hx hb (by decide +kernel) (by decide) (by decide) (by decide) (by decide) ?_
        exact lc_planned C hl hX hbl hi hL hW hg hT5 hl9 hcc tail
      · refine lv_tableOut (dflt := 750) (lo := 0) (hi := 11) (offs := #[61, 133, 205, 285, 333, 369, 433, 489, 557, 625, 638, 694]) (len := 61) (tgt := 789) hx hb (by decide +kernel) (Or.inr (by rw [nI_toInt (by omega)]; omega)) (by decide) ?_
        refine W.widen (k := 1000 + t + 1) (n := 10000 + 6 * t + 6) (by omega) (by omega) ?_
        exact tail H locs M f ls n j T (by omega) hg hW hl9
end LL
