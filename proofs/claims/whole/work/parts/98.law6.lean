/-! THE CASES OF THE LAW -/
def sa (xs : Nat → Int32) (i k : Nat) : Int32 := xs (nI i + nI k).toNatClampNeg
theorem sa_in {i k L : Nat} (hi : i + 4 < L) (hk : k ≤ 4) (hL : L ≤ 2560) : vp_in (nI i + nI k) L := by
  rw [show nI i + nI k = nI (i + k) from (Int32.ofNat_add i k).symm]
  exact vp_in_nI (by omega) (by omega)
theorem lg_cmp_self {x : Int64} : lg_cmp x x = 0 := by simp [lg_cmp]
section LC
variable {D : va_G} {ad : Nat → Nat} {cA : Nat → ClassId} {l : Launch} {p : Program} {e : Env} {s : State} {m : MethodId} {args : Array Value} {below : List Frame} {meth : Method} {c : Code} {H : Heap} {locs : List Loc} {Q : State → Prop} {cells slots : Nat} {ls : Array Slot} {M : mm_M} {o : Nat} {f : Nat → Int64} {n j T b L i : Nat} {xs : Nat → Int32}
def lw_lv (ad : Nat → Nat) (b o i : Nat) : List (Nat × Value) := [(0, .ref b), (1, .ref (ad 0)), (2, .ref (ad 24)), (3, .ref o), (4, .int (nI i))]
set_option maxHeartbeats 1000000 in
theorem lw_class {pc : Nat} {rest : List Value} {M' : mm_M} (C : LX D cA p s m args c) (hW : LWd D ad cA s M o f H locs) {z idx n : Nat} {As : List mm_V} {r : Option Int32} (hSem : ct_Sem 12 z M (.inr (4, 0) :: As) (r, M')) (hok : ∀ v ∈ As, mm_ok ct_kd ct_N v)
    (hcd : Cond.code (ct_T.1 z) (ct_T.2.1 z) (ct_T.2.2.1 z) (ct_T.2.2.2 z) ∈ ct_GW) (hw : ∀ w ∈ [Cond.methodLink "CraneTurnsLaw" idx (ct_T.1 z), .instanceMethod (ct_T.1 z), .selects "CraneTurns" (ct_T.1 z) (ct_T.1 z), .initialized "CraneTurns"], w ∈ ct_GW)
    (hd : (ct_T.1 z).cls = "CraneTurns" ∧ (ct_T.1 z).cls ≠ "java/lang/invoke/MethodHandle" ∧ (ct_T.1 z).cls ≠ "java/lang/invoke/VarHandle" ∧ (parseMethodDescriptor (ct_T.1 z).desc).map (fun d => d.parameters.length) = some n) (hmx : ct_T.2.2.1 z ≤ 30) (han : As.length = n) (hls : ls.size = 7)
    (hr : (rest.map fun v => v.category).sum ≤ 8) (hc : cells ≤ 600000 ∧ slots ≤ 7000000) (d : decode code pc = .ok (.invokevirtual idx, 3))
    (kk : ∀ (H1 : Heap) (locs1 : List Loc), LWd D ad cA s M' o f H1 locs1 → W p l e room_1 s m args below meth c H1 locs1 cells slots Q (F0 m (pc + 3) ls ((r.map Value.int).toList ++ rest))) :
    W p l e room_1 s m args below meth c H locs cells slots Q (F0 m pc ls ((As.map (mm_v ad)).reverse ++ Value.ref (ad 0) :: rest)) := by
  obtain ⟨⟨hx, hb, hml, hown⟩, hg, hK, hnw, hcx, hst⟩ := C
  have hin := lw_in hW
  obtain ⟨hP, hPo, hDD, hS⟩ := hW
  have ho := mo_o (sz := 0) hP hPo hDD
  have hD := mo_Dl hDD
  have h24 : (0 : Nat) ∈ ct_N := by decide
  obtain ⟨q0, hq0, he⟩ := mm_W_get (ad := ad) (cA := cA) (K := ct_K) (kd := ct_kd) (M := M) h24
  have hM := ct_sound (D := D) (ad := ad) (cA := cA) (l := l) 12 z M (.inr (4, 0) :: As) r M' H.size hSem (fun v hv => by
    rcases List.mem_cons.mp hv with rfl | hv
    · exact ⟨by decide, by decide⟩
    · exact hok v hv)
  refine mm_runF (M := M) (mc := 0) (ms := 0) (va_runV (As := As.map (mm_v ad)) (rest := rest) (b := ad 0) ⟨hx, hb, hml, hown, hg⟩ hM (cwV n hg (mm_goodA ct_good hcd hw) rfl rfl rfl hd ⟨by decide, by show 8 + (ct_T.2.2.1 z + 11) + 60 * 12 ≤ 84000; omega⟩) ⟨mm_blind, va_recv hK hP (ci := 4) rfl he, fun U hU hW => ⟨rfl, by rw [hU], by rw [hU]; exact hP, va_K.moved hW.alike hK, hD.weaken (fun _ _ _ _ => trivial), mm_nw_warm hW hnw⟩⟩ rfl (by simp [han]) hls rfl (lv_room hr) d ⟨by show cells + 0 ≤ 655870; omega, by show slots + 0 ≤ 7128494; omega⟩) hS hin (fun H1 locs1 h1 h2 h3 h4 => ?_)
  exact kk H1 locs1 ⟨h3, hPo.kept (mo_kept ho h2), mo_D hDD, h4⟩
theorem ok_ints {xs : List Int32} : ∀ v ∈ xs.map (Sum.inl : Int32 → mm_V), mm_ok ct_kd ct_N v := fun v hv => by
  obtain ⟨x, -, rfl⟩ := List.mem_map.mp hv
  exact trivial
/-- what comes behind a case -/
def LK (D : va_G) (ad : Nat → Nat) (cA : Nat → ClassId) (p : Program) (l : Launch) (e : Env) (s : State) (m : MethodId) (args : Array Value) (below : List Frame) (meth : Method) (c : Code) (Q : State → Prop) (cells slots b o i T : Nat) : Prop :=
  ∀ (H1 : Heap) (locs1 : List Loc) (M1 : mm_M) (f1 : Nat → Int64) (ls1 : Array Slot) (n1 j1 T1 : Nat), T1 ≤ T + 1 → gs M1 n1 j1 T1 → LWd D ad cA s M1 o f1 H1 locs1 → lv_has ls1 7 (lw_lv ad b o i) → W p l e room_1 s m args below meth c H1 locs1 (cells + 1) (slots + 6) Q (F0 m 789 ls1 [])
set_option maxRecDepth 20000 in
set_option maxHeartbeats 4000000 in
theorem lc_track (C : LX D cA p s m args c) (hl : l.stackTraces = false) (hX : va_X b L xs s s.heap) (hbl : b < s.heap.size) (hi : i + 4 < L) (hL : L ≤ 2560) (hW : LWd D ad cA s M o f H locs) (hg : gs M n j T) (hT : T + 5 < 2 ^ 31) (hl9 : lv_has ls 7 (lw_lv ad b o i)) (hc : cells ≤ 500000 ∧ slots ≤ 6000000) (kk : LK D ad cA p l e s m args below meth c Q cells slots b o i T) : W p l e room_1 s m args below meth c H locs cells slots Q (F0 m 100 ls []) := by
  have hx := C.1.1
  have hb := C.1.2.1
  have hK := C.2.2.1
  have hbA : ¬ (fun q : Nat => s.heap.size ≤ q) b := Nat.not_le.mpr hbl
  obtain ⟨M1, M2, k, n', j', T', hT', hPB, s1, s2, g⟩ := st_track (D := D) (ad := ad) (cA := cA) hl hg (sa xs i 1) (sa xs i 2) (sa xs i 3) (sa xs i 4)
  have hl9 : lv_has ls 7 [(0, .ref b), (1, .ref (ad 0)), (2, .ref (ad 24)), (3, .ref o), (4, .int (nI i))] := hl9
  refine lv_aload_n (k := 1) hx hb (by decide +kernel) rfl (lv_at hl9 1 rfl) ?_
  refine lv_aload_n (k := 0) hx hb (by decide +kernel) rfl (lv_at hl9 0 rfl) ?_
  refine lv_iload (i := 4) hx hb (by decide +kernel) (lv_at hl9 4 rfl) ?_
  refine lv_iconst (n := 1) (v := nI 1) hx hb (by decide +kernel) (by decide) ?_
  refine lv_iadd hx hb (by decide +kernel) ?_
  refine va_sld hx hb hX hbl hbA hW.2.2.2 (sa_in (k := 1) hi (by decide) hL) (by decide +kernel) ?_
  refine lv_aload_n (k := 0) hx hb (by decide +kernel) rfl (lv_at hl9 0 rfl) ?_
  refine lv_iload (i := 4) hx hb (by decide +kernel) (lv_at hl9 4 rfl) ?_
  refine lv_iconst (n := 2) (v := nI 2) hx hb (by decide +kernel) (by decide) ?_
  refine lv_iadd hx hb (by decide +kernel) ?_
  refine va_sld hx hb hX hbl hbA hW.2.2.2 (sa_in (k := 2) hi (by decide) hL) (by decide +kernel) ?_
  refine lv_aload_n (k := 0) hx hb (by decide +kernel) rfl (lv_at hl9 0 rfl) ?_
  refine lv_iload (i := 4) hx hb (by decide +kernel) (lv_at hl9 4 rfl) ?_
  refine lv_iconst (n := 3) (v := nI 3) hx hb (by decide +kernel) (by decide) ?_
  refine lv_iadd hx hb (by decide +kernel) ?_
  refine va_sld hx hb hX hbl hbA hW.2.2.2 (sa_in (k := 3) hi (by decide) hL) (by decide +kernel) ?_
  refine lv_aload_n (k := 0) hx hb (by decide +kernel) rfl (lv_at hl9 0 rfl) ?_
  refine lv_iload (i := 4) hx hb (by decide +kernel) (lv_at hl9 4 rfl) ?_
  refine lv_iconst (n := 4) (v := nI 4) hx hb (by decide +kernel) (by decide) ?_
  refine lv_iadd hx hb (by decide +kernel) ?_
  refine va_sld hx hb hX hbl hbA hW.2.2.2 (sa_in (k := 4) hi (by decide) hL) (by decide +kernel) ?_
  refine lw_void (as := [.inr (4, 0), .inl (sa xs i 1), .inl (sa xs i 2), .inl (sa xs i 3), .inl (sa xs i 4)]) (idx := 61) (n := 5) (rest := []) C hW (hp_track hPB H.size) (ct_t1 (List.mem_of_getElem? (i := 223) rfl) rfl) (mm_3 (ct_t1 (List.mem_of_getElem? (i := 221) rfl) rfl) (ct_t1 (List.mem_of_getElem? (i := 222) rfl) rfl) (ct_t1 (List.mem_of_getElem? (i := 0) rfl) rfl)) (by decide +kernel) (by decide) rfl hl9.1 (by decide) ⟨by omega, by omega⟩ (by decide +kernel) (fun H1 locs1 hW1 => ?_)
  refine lv_istore (i := 5) (lv' := [(5, .int k), (0, .ref b), (1, .ref (ad 0)), (2, .ref (ad 24)), (3, .ref o), (4, .int (nI i))]) hx hb (by decide +kernel) hl9 (by decide) rfl (fun ls hl9 => ?_)
  refine lv_aload_n (k := 2) hx hb (by decide +kernel) rfl (lv_at hl9 3 rfl) ?_
  refine lv_aload_n (k := 0) hx hb (by decide +kernel) rfl (lv_at hl9 1 rfl) ?_
  refine lv_iload (i := 4) hx hb (by decide +kernel) (lv_at hl9 5 rfl) ?_
  refine lv_iconst (n := 1) (v := nI 1) hx hb (by decide +kernel) (by decide) ?_
  refine lv_iadd hx hb (by decide +kernel) ?_
  refine va_sld hx hb hX hbl hbA hW1.2.2.2 (sa_in (k := 1) hi (by decide) hL) (by decide +kernel) ?_
  refine lv_aload_n (k := 0) hx hb (by decide +kernel) rfl (lv_at hl9 1 rfl) ?_
  refine lv_iload (i := 4) hx hb (by decide +kernel) (lv_at hl9 5 rfl) ?_
  refine lv_iconst (n := 2) (v := nI 2) hx hb (by decide +kernel) (by decide) ?_
  refine lv_iadd hx hb (by decide +kernel) ?_
  refine va_sld hx hb hX hbl hbA hW1.2.2.2 (sa_in (k := 2) hi (by decide) hL) (by decide +kernel) ?_
  refine lv_aload_n (k := 0) hx hb (by decide +kernel) rfl (lv_at hl9 1 rfl) ?_
  refine lv_iload (i := 4) hx hb (by decide +kernel) (lv_at hl9 5 rfl) ?_
  refine lv_iconst (n := 3) (v := nI 3) hx hb (by decide +kernel) (by decide) ?_
  refine lv_iadd hx hb (by decide +kernel) ?_
  refine va_sld hx hb hX hbl hbA hW1.2.2.2 (sa_in (k := 3) hi (by decide) hL) (by decide +kernel) ?_
  refine lv_aload_n (k := 0) hx hb (by decide +kernel) rfl (lv_at hl9 1 rfl) ?_
  refine lv_iload (i := 4) hx hb (by decide +kernel) (lv_at hl9 5 rfl) ?_
  refine lv_iconst (n := 4) (v := nI 4) hx hb (by decide +kernel) (by decide) ?_
  refine lv_iadd hx hb (by decide +kernel) ?_
  refine va_sld hx hb hX hbl hbA hW1.2.2.2 (sa_in (k := 4) hi (by decide) hL) (by decide +kernel) ?_
  refine lw_model (z := 42) (idx := 66) (n := 4) (As := [.inl (sa xs i 1), .inl (sa xs i 2), .inl (sa xs i 3), .inl (sa xs i 4)]) (rest := []) C hW1 s1 (ok_ints (xs := [(sa xs i 1), (sa xs i 2), (sa xs i 3), (sa xs i 4)])) (ct_t3 (List.mem_of_getElem? (i := 166) rfl) rfl) (mm_4 (ct_t3 (List.mem_of_getElem? (i := 163) rfl) rfl) (ct_t3 (List.mem_of_getElem? (i := 164) rfl) rfl) (ct_t3 (List.mem_of_getElem? (i := 165) rfl) rfl) (ct_t1 (List.mem_of_getElem? (i := 6) rfl) rfl)) (by decide +kernel) (by decide) rfl hl9.1 (Nat.le_of_ble_eq_true rfl) ⟨by omega, by omega⟩ (by decide +kernel) (fun H2 locs2 hW2 => ?_)
  refine lv_aload_n (k := 2) hx hb (by decide +kernel) rfl (lv_at hl9 3 rfl) ?_
  refine lw_model (z := 33) (idx := 67) (n := 0) (As := []) (rest := []) C hW2 s2 (ok_ints (xs := [])) (ct_t3 (List.mem_of_getElem? (i := 162) rfl) rfl) (mm_4 (ct_t3 (List.mem_of_getElem? (i := 159) rfl) rfl) (ct_t3 (List.mem_of_getElem? (i := 160) rfl) rfl) (ct_t3 (List.mem_of_getElem? (i := 161) rfl) rfl) (ct_t1 (List.mem_of_getElem? (i := 6) rfl) rfl)) (by decide +kernel) (by decide) rfl hl9.1 (Nat.le_of_ble_eq_true rfl) ⟨by omega, by omega⟩ (by decide +kernel) (fun H3 locs3 hW3 => ?_)
  refine lv_iload (i := 5) hx hb (by decide +kernel) (lv_at hl9 0 rfl) ?_
  refine lv_icmp_eq (off := 5) (tgt := 169) hx hb (by decide +kernel) (by decide) (fun _ => ?_) (fun z => absurd rfl z)
  refine lv_goto (off := 620) (tgt := 789) hx hb (by decide +kernel) (by decide) ?_
  exact kk _ _ _ _ ls _ _ _ hT' g hW3 (lv_sub hl9 [1, 2, 3, 4, 5] rfl)
set_option maxRecDepth 20000 in
set_option maxHeartbeats 4000000 in
theorem lc_crane (C : LX D cA p s m args c) (hl : l.stackTraces = false) (hX : va_X b L xs s s.heap) (hbl : b < s.heap.size) (hi : i + 4 < L) (hL : L ≤ 2560) (hW : LWd D ad cA s M o f H locs) (hg : gs M n j T) (hT : T + 5 < 2 ^ 31) (hl9 : lv_has ls 7 (lw_lv ad b o i)) (hc : cells ≤ 500000 ∧ slots ≤ 6000000) (kk : LK D ad cA p l e s m args below meth c Q cells slots b o i T) : W p l e room_1 s m args below meth c H locs cells slots Q (F0 m 172 ls []) := by
  have hx := C.1.1
  have hb := C.1.2.1
  have hK := C.2.2.1
  have hbA : ¬ (fun q : Nat => s.heap.size ≤ q) b := Nat.not_le.mpr hbl
  obtain ⟨M1, M2, k, n', j', T', hT', hPB, s1, s2, g⟩ := st_crane (D := D) (ad := ad) (cA := cA) hl hg (by omega) (sa xs i 1) (sa xs i 2) (sa xs i 3) (sa xs i 4)
  have hl9 : lv_has ls 7 [(0, .ref b), (1, .ref (ad 0)), (2, .ref (ad 24)), (3, .ref o), (4, .int (nI i))] := hl9
  refine lv_aload_n (k := 1) hx hb (by decide +kernel) rfl (lv_at hl9 1 rfl) ?_
  refine lv_aload_n (k := 0) hx hb (by decide +kernel) rfl (lv_at hl9 0 rfl) ?_
  refine lv_iload (i := 4) hx hb (by decide +kernel) (lv_at hl9 4 rfl) ?_
  refine lv_iconst (n := 1) (v := nI 1) hx hb (by decide +kernel) (by decide) ?_
  refine lv_iadd hx hb (by decide +kernel) ?_
  refine va_sld hx hb hX hbl hbA hW.2.2.2 (sa_in (k := 1) hi (by decide) hL) (by decide +kernel) ?_
  refine lv_aload_n (k := 0) hx hb (by decide +kernel) rfl (lv_at hl9 0 rfl) ?_
  refine lv_iload (i := 4) hx hb (by decide +kernel) (lv_at hl9 4 rfl) ?_
  refine lv_iconst (n := 2) (v := nI 2) hx hb (by decide +kernel) (by decide) ?_
  refine lv_iadd hx hb (by decide +kernel) ?_
  refine va_sld hx hb hX hbl hbA hW.2.2.2 (sa_in (k := 2) hi (by decide) hL) (by decide +kernel) ?_
  refine lv_aload_n (k := 0) hx hb (by decide +kernel) rfl (lv_at hl9 0 rfl) ?_
  refine lv_iload (i := 4) hx hb (by decide +kernel) (lv_at hl9 4 rfl) ?_
  refine lv_iconst (n := 3) (v := nI 3) hx hb (by decide +kernel) (by decide) ?_
  refine lv_iadd hx hb (by decide +kernel) ?_
  refine va_sld hx hb hX hbl hbA hW.2.2.2 (sa_in (k := 3) hi (by decide) hL) (by decide +kernel) ?_
  refine lv_aload_n (k := 0) hx hb (by decide +kernel) rfl (lv_at hl9 0 rfl) ?_
  refine lv_iload (i := 4) hx hb (by decide +kernel) (lv_at hl9 4 rfl) ?_
  refine lv_iconst (n := 4) (v := nI 4) hx hb (by decide +kernel) (by decide) ?_
  refine lv_iadd hx hb (by decide +kernel) ?_
  refine va_sld hx hb hX hbl hbA hW.2.2.2 (sa_in (k := 4) hi (by decide) hL) (by decide +kernel) ?_
  refine lw_void (as := [.inr (4, 0), .inl (sa xs i 1), .inl (sa xs i 2), .inl (sa xs i 3), .inl (sa xs i 4)]) (idx := 71) (n := 5) (rest := []) C hW (hp_crane hPB H.size) (ct_t2 (List.mem_of_getElem? (i := 92) rfl) rfl) (mm_3 (ct_t2 (List.mem_of_getElem? (i := 90) rfl) rfl) (ct_t2 (List.mem_of_getElem? (i := 91) rfl) rfl) (ct_t1 (List.mem_of_getElem? (i := 0) rfl) rfl)) (by decide +kernel) (by decide) rfl hl9.1 (by decide) ⟨by omega, by omega⟩ (by decide +kernel) (fun H1 locs1 hW1 => ?_)
  refine lv_istore (i := 5) (lv' := [(5, .int k), (0, .ref b), (1, .ref (ad 0)), (2, .ref (ad 24)), (3, .ref o), (4, .int (nI i))]) hx hb (by decide +kernel) hl9 (by decide) rfl (fun ls hl9 => ?_)
  refine lv_aload_n (k := 2) hx hb (by decide +kernel) rfl (lv_at hl9 3 rfl) ?_
  refine lv_aload_n (k := 0) hx hb (by decide +kernel) rfl (lv_at hl9 1 rfl) ?_
  refine lv_iload (i := 4) hx hb (by decide +kernel) (lv_at hl9 5 rfl) ?_
  refine lv_iconst (n := 1) (v := nI 1) hx hb (by decide +kernel) (by decide) ?_
  refine lv_iadd hx hb (by decide +kernel) ?_
  refine va_sld hx hb hX hbl hbA hW1.2.2.2 (sa_in (k := 1) hi (by decide) hL) (by decide +kernel) ?_
  refine lv_aload_n (k := 0) hx hb (by decide +kernel) rfl (lv_at hl9 1 rfl) ?_
  refine lv_iload (i := 4) hx hb (by decide +kernel) (lv_at hl9 5 rfl) ?_
  refine lv_iconst (n := 2) (v := nI 2) hx hb (by decide +kernel) (by decide) ?_
  refine lv_iadd hx hb (by decide +kernel) ?_
  refine va_sld hx hb hX hbl hbA hW1.2.2.2 (sa_in (k := 2) hi (by decide) hL) (by decide +kernel) ?_
  refine lv_aload_n (k := 0) hx hb (by decide +kernel) rfl (lv_at hl9 1 rfl) ?_
  refine lv_iload (i := 4) hx hb (by decide +kernel) (lv_at hl9 5 rfl) ?_
  refine lv_iconst (n := 3) (v := nI 3) hx hb (by decide +kernel) (by decide) ?_
  refine lv_iadd hx hb (by decide +kernel) ?_
  refine va_sld hx hb hX hbl hbA hW1.2.2.2 (sa_in (k := 3) hi (by decide) hL) (by decide +kernel) ?_
  refine lv_aload_n (k := 0) hx hb (by decide +kernel) rfl (lv_at hl9 1 rfl) ?_
  refine lv_iload (i := 4) hx hb (by decide +kernel) (lv_at hl9 5 rfl) ?_
  refine lv_iconst (n := 4) (v := nI 4) hx hb (by decide +kernel) (by decide) ?_
  refine lv_iadd hx hb (by decide +kernel) ?_
  refine va_sld hx hb hX hbl hbA hW1.2.2.2 (sa_in (k := 4) hi (by decide) hL) (by decide +kernel) ?_
  refine lw_model (z := 43) (idx := 73) (n := 4) (As := [.inl (sa xs i 1), .inl (sa xs i 2), .inl (sa xs i 3), .inl (sa xs i 4)]) (rest := []) C hW1 s1 (ok_ints (xs := [(sa xs i 1), (sa xs i 2), (sa xs i 3), (sa xs i 4)])) (ct_t3 (List.mem_of_getElem? (i := 181) rfl) rfl) (mm_4 (ct_t3 (List.mem_of_getElem? (i := 178) rfl) rfl) (ct_t3 (List.mem_of_getElem? (i := 179) rfl) rfl) (ct_t3 (List.mem_of_getElem? (i := 180) rfl) rfl) (ct_t1 (List.mem_of_getElem? (i := 6) rfl) rfl)) (by decide +kernel) (by decide) rfl hl9.1 (Nat.le_of_ble_eq_true rfl) ⟨by omega, by omega⟩ (by decide +kernel) (fun H2 locs2 hW2 => ?_)
  refine lv_aload_n (k := 2) hx hb (by decide +kernel) rfl (lv_at hl9 3 rfl) ?_
  refine lw_model (z := 33) (idx := 67) (n := 0) (As := []) (rest := []) C hW2 s2 (ok_ints (xs := [])) (ct_t3 (List.mem_of_getElem? (i := 162) rfl) rfl) (mm_4 (ct_t3 (List.mem_of_getElem? (i := 159) rfl) rfl) (ct_t3 (List.mem_of_getElem? (i := 160) rfl) rfl) (ct_t3 (List.mem_of_getElem? (i := 161) rfl) rfl) (ct_t1 (List.mem_of_getElem? (i := 6) rfl) rfl)) (by decide +kernel) (by decide) rfl hl9.1 (Nat.le_of_ble_eq_true rfl) ⟨by omega, by omega⟩ (by decide +kernel) (fun H3 locs3 hW3 => ?_)
  refine lv_iload (i := 5) hx hb (by decide +kernel) (lv_at hl9 0 rfl) ?_
  refine lv_icmp_eq (off := 5) (tgt := 241) hx hb (by decide +kernel) (by decide) (fun _ => ?_) (fun z => absurd rfl z)
  refine lv_goto (off := 548) (tgt := 789) hx hb (by decide +kernel) (by decide) ?_
  exact kk _ _ _ _ ls _ _ _ hT' g hW3 (lv_sub hl9 [1, 2, 3, 4, 5] rfl)
set_option maxRecDepth 20000 in
set_option maxHeartbeats 4000000 in
theorem lc_job (C : LX D cA p s m args c) (hl : l.stackTraces = false) (hX : va_X b L xs s s.heap) (hbl : b < s.heap.size) (hi : i + 4 < L) (hL : L ≤ 2560) (hW : LWd D ad cA s M o f H locs) (hg : gs M n j T) (hT : T + 5 < 2 ^ 31) (hl9 : lv_has ls 7 (lw_lv ad b o i)) (hc : cells ≤ 500000 ∧ slots ≤ 6000000) (kk : LK D ad cA p l e s m args below meth c Q cells slots b o i T) : W p l e room_1 s m args below meth c H locs cells slots Q (F0 m 244 ls []) := by
  have hx := C.1.1
  have hb := C.1.2.1
  have hK := C.2.2.1
  have hbA : ¬ (fun q : Nat => s.heap.size ≤ q) b := Nat.not_le.mpr hbl
  obtain ⟨M1, M2, k, r, b9, n', j', T', hT', hPB, s1, he, s2, g⟩ := st_job (D := D) (ad := ad) (cA := cA) hl hg (sa xs i 1) (sa xs i 2) (sa xs i 3)
  have hl9 : lv_has ls 7 [(0, .ref b), (1, .ref (ad 0)), (2, .ref (ad 24)), (3, .ref o), (4, .int (nI i))] := hl9
  refine lv_aload_n (k := 1) hx hb (by decide +kernel) rfl (lv_at hl9 1 rfl) ?_
  refine lv_aload_n (k := 0) hx hb (by decide +kernel) rfl (lv_at hl9 0 rfl) ?_
  refine lv_iload (i := 4) hx hb (by decide +kernel) (lv_at hl9 4 rfl) ?_
  refine lv_iconst (n := 1) (v := nI 1) hx hb (by decide +kernel) (by decide) ?_
  refine lv_iadd hx hb (by decide +kernel) ?_
  refine va_sld hx hb hX hbl hbA hW.2.2.2 (sa_in (k := 1) hi (by decide) hL) (by decide +kernel) ?_
  refine lv_aload_n (k := 0) hx hb (by decide +kernel) rfl (lv_at hl9 0 rfl) ?_
  refine lv_iload (i := 4) hx hb (by decide +kernel) (lv_at hl9 4 rfl) ?_
  refine lv_iconst (n := 2) (v := nI 2) hx hb (by decide +kernel) (by decide) ?_
  refine lv_iadd hx hb (by decide +kernel) ?_
  refine va_sld hx hb hX hbl hbA hW.2.2.2 (sa_in (k := 2) hi (by decide) hL) (by decide +kernel) ?_
  refine lv_aload_n (k := 0) hx hb (by decide +kernel) rfl (lv_at hl9 0 rfl) ?_
  refine lv_iload (i := 4) hx hb (by decide +kernel) (lv_at hl9 4 rfl) ?_
  refine lv_iconst (n := 3) (v := nI 3) hx hb (by decide +kernel) (by decide) ?_
  refine lv_iadd hx hb (by decide +kernel) ?_
  refine va_sld hx hb hX hbl hbA hW.2.2.2 (sa_in (k := 3) hi (by decide) hL) (by decide +kernel) ?_
  refine lv_aload_n (k := 3) hx hb (by decide +kernel) rfl (lv_at hl9 3 rfl) ?_
  refine lw_out (as := [.inr (4, 0), .inl (sa xs i 1), .inl (sa xs i 2), .inl (sa xs i 3)]) (idx := 74) (n := 5) (rest := []) C hW (hp_job hPB H.size) (ct_t2 (List.mem_of_getElem? (i := 153) rfl) rfl) (mm_3 (ct_t2 (List.mem_of_getElem? (i := 151) rfl) rfl) (ct_t2 (List.mem_of_getElem? (i := 152) rfl) rfl) (ct_t1 (List.mem_of_getElem? (i := 0) rfl) rfl)) (by decide +kernel) (by decide) rfl hl9.1 (by decide) ⟨by omega, by omega⟩ (by decide +kernel) (fun H1 locs1 f1 hW1 hf => ?_)
  refine lv_istore (i := 5) (lv' := [(5, .int k), (0, .ref b), (1, .ref (ad 0)), (2, .ref (ad 24)), (3, .ref o), (4, .int (nI i))]) hx hb (by decide +kernel) hl9 (by decide) rfl (fun ls hl9 => ?_)
  refine lv_aload_n (k := 2) hx hb (by decide +kernel) rfl (lv_at hl9 3 rfl) ?_
  refine lv_aload_n (k := 0) hx hb (by decide +kernel) rfl (lv_at hl9 1 rfl) ?_
  refine lv_iload (i := 4) hx hb (by decide +kernel) (lv_at hl9 5 rfl) ?_
  refine lv_iconst (n := 1) (v := nI 1) hx hb (by decide +kernel) (by decide) ?_
  refine lv_iadd hx hb (by decide +kernel) ?_
  refine va_sld hx hb hX hbl hbA hW1.2.2.2 (sa_in (k := 1) hi (by decide) hL) (by decide +kernel) ?_
  refine lv_aload_n (k := 0) hx hb (by decide +kernel) rfl (lv_at hl9 1 rfl) ?_
  refine lv_iload (i := 4) hx hb (by decide +kernel) (lv_at hl9 5 rfl) ?_
  refine lv_iconst (n := 2) (v := nI 2) hx hb (by decide +kernel) (by decide) ?_
  refine lv_iadd hx hb (by decide +kernel) ?_
  refine va_sld hx hb hX hbl hbA hW1.2.2.2 (sa_in (k := 2) hi (by decide) hL) (by decide +kernel) ?_
  refine lv_aload_n (k := 0) hx hb (by decide +kernel) rfl (lv_at hl9 1 rfl) ?_
  refine lv_iload (i := 4) hx hb (by decide +kernel) (lv_at hl9 5 rfl) ?_
  refine lv_iconst (n := 3) (v := nI 3) hx hb (by decide +kernel) (by decide) ?_
  refine lv_iadd hx hb (by decide +kernel) ?_
  refine va_sld hx hb hX hbl hbA hW1.2.2.2 (sa_in (k := 3) hi (by decide) hL) (by decide +kernel) ?_
  refine lw_model (z := 44) (idx := 77) (n := 3) (As := [.inl (sa xs i 1), .inl (sa xs i 2), .inl (sa xs i 3)]) (rest := []) C hW1 s1 (ok_ints (xs := [(sa xs i 1), (sa xs i 2), (sa xs i 3)])) (ct_t3 (List.mem_of_getElem? (i := 193) rfl) rfl) (mm_4 (ct_t3 (List.mem_of_getElem? (i := 190) rfl) rfl) (ct_t3 (List.mem_of_getElem? (i := 191) rfl) rfl) (ct_t3 (List.mem_of_getElem? (i := 192) rfl) rfl) (ct_t1 (List.mem_of_getElem? (i := 6) rfl) rfl)) (by decide +kernel) (by decide) rfl hl9.1 (Nat.le_of_ble_eq_true rfl) ⟨by omega, by omega⟩ (by decide +kernel) (fun H2 locs2 hW2 => ?_)
  refine lv_istore (i := 6) (lv' := [(6, .int b9), (5, .int k), (0, .ref b), (1, .ref (ad 0)), (2, .ref (ad 24)), (3, .ref o), (4, .int (nI i))]) hx hb (by decide +kernel) hl9 (by decide) rfl (fun ls hl9 => ?_)
  refine lv_aload_n (k := 2) hx hb (by decide +kernel) rfl (lv_at hl9 4 rfl) ?_
  refine lw_model (z := 33) (idx := 67) (n := 0) (As := []) (rest := []) C hW2 s2 (ok_ints (xs := [])) (ct_t3 (List.mem_of_getElem? (i := 162) rfl) rfl) (mm_4 (ct_t3 (List.mem_of_getElem? (i := 159) rfl) rfl) (ct_t3 (List.mem_of_getElem? (i := 160) rfl) rfl) (ct_t3 (List.mem_of_getElem? (i := 161) rfl) rfl) (ct_t1 (List.mem_of_getElem? (i := 6) rfl) rfl)) (by decide +kernel) (by decide) rfl hl9.1 (Nat.le_of_ble_eq_true rfl) ⟨by omega, by omega⟩ (by decide +kernel) (fun H3 locs3 hW3 => ?_)
  refine lv_iload (i := 5) hx hb (by decide +kernel) (lv_at hl9 1 rfl) ?_
  refine lv_icmp_eq (off := 5) (tgt := 304) hx hb (by decide +kernel) (by decide) (fun _ => ?_) (fun z => absurd rfl z)
  refine lv_iload (i := 5) hx hb (by decide +kernel) (lv_at hl9 1 rfl) ?_
  have hend : W p l e room_1 s m args below meth c H3 locs3 (cells + 1) (slots + 6) Q (F0 m 321 ls []) := by
    refine lv_goto (off := 468) (tgt := 789) hx hb (by decide +kernel) (by decide) ?_
    exact kk _ _ _ _ ls _ _ _ hT' g hW3 (lv_sub hl9 [2, 3, 4, 5, 6] rfl)
  refine lv_if_ne (off := 15) (tgt := 321) hx hb (by decide +kernel) (by decide) (fun _ => hend) (fun hk0 => ?_)
  have hk1 : k = 0 := hk0
  refine lv_aload_n (k := 3) hx hb (by decide +kernel) rfl (lv_at hl9 5 rfl) ?_
  refine lv_iconst (n := 0) (v := nI 0) hx hb (by decide +kernel) (by decide) ?_
  refine va_lald (n := 1) (f := f1) hx hb hK hW3.2.1 0 4 rfl rfl (vp_in_nI (n := 0) (N := 1) (by decide) (by decide)) (by decide +kernel) ?_
  refine lv_iload (i := 6) hx hb (by decide +kernel) (lv_at hl9 0 rfl) ?_
  refine lv_i2l (x := b9) (v := b9.toInt64) hx hb (by decide +kernel) rfl ?_
  refine W.lcmp (x := f1 0) (y := b9.toInt64) hx hb (by decide +kernel) ?_
  have hcm : lg_cmp (f1 0) b9.toInt64 = 0 := by rw [hf hk1, he hk1]; exact lg_cmp_self
  refine lv_if_eq (off := 5) (tgt := 321) hx hb (by decide +kernel) (by decide) (fun _ => hend) (fun z => absurd hcm z)
set_option maxRecDepth 20000 in
set_option maxHeartbeats 4000000 in
theorem lc_give (C : LX D cA p s m args c) (hl : l.stackTraces = false) (hX : va_X b L xs s s.heap) (hbl : b < s.heap.size) (hi : i + 4 < L) (hL : L ≤ 2560) (hW : LWd D ad cA s M o f H locs) (hg : gs M n j T) (hT : T + 5 < 2 ^ 31) (hl9 : lv_has ls 7 (lw_lv ad b o i)) (hc : cells ≤ 500000 ∧ slots ≤ 6000000) (kk : LK D ad cA p l e s m args below meth c Q cells slots b o i T) : W p l e room_1 s m args below meth c H locs cells slots Q (F0 m 324 ls []) := by
  have hx := C.1.1
  have hb := C.1.2.1
  have hK := C.2.2.1
  have hbA : ¬ (fun q : Nat => s.heap.size ≤ q) b := Nat.not_le.mpr hbl
  obtain ⟨M1, M2, k, n', j', T', hT', hPB, s1, s2, g⟩ := st_give (D := D) (ad := ad) (cA := cA) hl hg (by omega) (sa xs i 1) (sa xs i 2)
  have hl9 : lv_has ls 7 [(0, .ref b), (1, .ref (ad 0)), (2, .ref (ad 24)), (3, .ref o), (4, .int (nI i))] := hl9
  refine lv_aload_n (k := 1) hx hb (by decide +kernel) rfl (lv_at hl9 1 rfl) ?_
  refine lv_aload_n (k := 0) hx hb (by decide +kernel) rfl (lv_at hl9 0 rfl) ?_
  refine lv_iload (i := 4) hx hb (by decide +kernel) (lv_at hl9 4 rfl) ?_
  refine lv_iconst (n := 1) (v := nI 1) hx hb (by decide +kernel) (by decide) ?_
  refine lv_iadd hx hb (by decide +kernel) ?_
  refine va_sld hx hb hX hbl hbA hW.2.2.2 (sa_in (k := 1) hi (by decide) hL) (by decide +kernel) ?_
  refine lv_aload_n (k := 0) hx hb (by decide +kernel) rfl (lv_at hl9 0 rfl) ?_
  refine lv_iload (i := 4) hx hb (by decide +kernel) (lv_at hl9 4 rfl) ?_
  refine lv_iconst (n := 2) (v := nI 2) hx hb (by decide +kernel) (by decide) ?_
  refine lv_iadd hx hb (by decide +kernel) ?_
  refine va_sld hx hb hX hbl hbA hW.2.2.2 (sa_in (k := 2) hi (by decide) hL) (by decide +kernel) ?_
  refine lw_void (as := [.inr (4, 0), .inl (sa xs i 1), .inl (sa xs i 2)]) (idx := 78) (n := 3) (rest := []) C hW (hp_give hPB H.size) (ct_t2 (List.mem_of_getElem? (i := 171) rfl) rfl) (mm_3 (ct_t2 (List.mem_of_getElem? (i := 169) rfl) rfl) (ct_t2 (List.mem_of_getElem? (i := 170) rfl) rfl) (ct_t1 (List.mem_of_getElem? (i := 0) rfl) rfl)) (by decide +kernel) (by decide) rfl hl9.1 (by decide) ⟨by omega, by omega⟩ (by decide +kernel) (fun H1 locs1 hW1 => ?_)
  refine lv_istore (i := 5) (lv' := [(5, .int k), (0, .ref b), (1, .ref (ad 0)), (2, .ref (ad 24)), (3, .ref o), (4, .int (nI i))]) hx hb (by decide +kernel) hl9 (by decide) rfl (fun ls hl9 => ?_)
  refine lv_aload_n (k := 2) hx hb (by decide +kernel) rfl (lv_at hl9 3 rfl) ?_
  refine lv_aload_n (k := 0) hx hb (by decide +kernel) rfl (lv_at hl9 1 rfl) ?_
  refine lv_iload (i := 4) hx hb (by decide +kernel) (lv_at hl9 5 rfl) ?_
  refine lv_iconst (n := 1) (v := nI 1) hx hb (by decide +kernel) (by decide) ?_
  refine lv_iadd hx hb (by decide +kernel) ?_
  refine va_sld hx hb hX hbl hbA hW1.2.2.2 (sa_in (k := 1) hi (by decide) hL) (by decide +kernel) ?_
  refine lv_aload_n (k := 0) hx hb (by decide +kernel) rfl (lv_at hl9 1 rfl) ?_
  refine lv_iload (i := 4) hx hb (by decide +kernel) (lv_at hl9 5 rfl) ?_
  refine lv_iconst (n := 2) (v := nI 2) hx hb (by decide +kernel) (by decide) ?_
  refine lv_iadd hx hb (by decide +kernel) ?_
  refine va_sld hx hb hX hbl hbA hW1.2.2.2 (sa_in (k := 2) hi (by decide) hL) (by decide +kernel) ?_
  refine lw_model (z := 47) (idx := 81) (n := 2) (As := [.inl (sa xs i 1), .inl (sa xs i 2)]) (rest := []) C hW1 s1 (ok_ints (xs := [(sa xs i 1), (sa xs i 2)])) (ct_t3 (List.mem_of_getElem? (i := 201) rfl) rfl) (mm_4 (ct_t3 (List.mem_of_getElem? (i := 198) rfl) rfl) (ct_t3 (List.mem_of_getElem? (i := 199) rfl) rfl) (ct_t3 (List.mem_of_getElem? (i := 200) rfl) rfl) (ct_t1 (List.mem_of_getElem? (i := 6) rfl) rfl)) (by decide +kernel) (by decide) rfl hl9.1 (Nat.le_of_ble_eq_true rfl) ⟨by omega, by omega⟩ (by decide +kernel) (fun H2 locs2 hW2 => ?_)
  refine lv_aload_n (k := 2) hx hb (by decide +kernel) rfl (lv_at hl9 3 rfl) ?_
  refine lw_model (z := 33) (idx := 67) (n := 0) (As := []) (rest := []) C hW2 s2 (ok_ints (xs := [])) (ct_t3 (List.mem_of_getElem? (i := 162) rfl) rfl) (mm_4 (ct_t3 (List.mem_of_getElem? (i := 159) rfl) rfl) (ct_t3 (List.mem_of_getElem? (i := 160) rfl) rfl) (ct_t3 (List.mem_of_getElem? (i := 161) rfl) rfl) (ct_t1 (List.mem_of_getElem? (i := 6) rfl) rfl)) (by decide +kernel) (by decide) rfl hl9.1 (Nat.le_of_ble_eq_true rfl) ⟨by omega, by omega⟩ (by decide +kernel) (fun H3 locs3 hW3 => ?_)
  refine lv_iload (i := 5) hx hb (by decide +kernel) (lv_at hl9 0 rfl) ?_
  refine lv_icmp_eq (off := 5) (tgt := 369) hx hb (by decide +kernel) (by decide) (fun _ => ?_) (fun z => absurd rfl z)
  refine lv_goto (off := 420) (tgt := 789) hx hb (by decide +kernel) (by decide) ?_
  exact kk _ _ _ _ ls _ _ _ hT' g hW3 (lv_sub hl9 [1, 2, 3, 4, 5] rfl)
set_option maxRecDepth 20000 in
set_option maxHeartbeats 4000000 in
theorem lc_take (C : LX D cA p s m args c) (hl : l.stackTraces = false) (hX : va_X b L xs s s.heap) (hbl : b < s.heap.size) (hi : i + 4 < L) (hL : L ≤ 2560) (hW : LWd D ad cA s M o f H locs) (hg : gs M n j T) (hT : T + 5 < 2 ^ 31) (hl9 : lv_has ls 7 (lw_lv ad b o i)) (hc : cells ≤ 500000 ∧ slots ≤ 6000000) (kk : LK D ad cA p l e s m args below meth c Q cells slots b o i T) : W p l e room_1 s m args below meth c H locs cells slots Q (F0 m 372 ls []) := by
  have hx := C.1.1
  have hb := C.1.2.1
  have hK := C.2.2.1
  have hbA : ¬ (fun q : Nat => s.heap.size ≤ q) b := Nat.not_le.mpr hbl
  obtain ⟨M1, M2, k, n', j', T', hT', hPB, s1, s2, g⟩ := st_take (D := D) (ad := ad) (cA := cA) hl hg (sa xs i 1)
  have hl9 : lv_has ls 7 [(0, .ref b), (1, .ref (ad 0)), (2, .ref (ad 24)), (3, .ref o), (4, .int (nI i))] := hl9
  refine lv_aload_n (k := 1) hx hb (by decide +kernel) rfl (lv_at hl9 1 rfl) ?_
  refine lv_aload_n (k := 0) hx hb (by decide +kernel) rfl (lv_at hl9 0 rfl) ?_
  refine lv_iload (i := 4) hx hb (by decide +kernel) (lv_at hl9 4 rfl) ?_
  refine lv_iconst (n := 1) (v := nI 1) hx hb (by decide +kernel) (by decide) ?_
  refine lv_iadd hx hb (by decide +kernel) ?_
  refine va_sld hx hb hX hbl hbA hW.2.2.2 (sa_in (k := 1) hi (by decide) hL) (by decide +kernel) ?_
  refine lw_void (as := [.inr (4, 0), .inl (sa xs i 1)]) (idx := 82) (n := 2) (rest := []) C hW (hp_take hPB H.size) (ct_t2 (List.mem_of_getElem? (i := 198) rfl) rfl) (mm_3 (ct_t2 (List.mem_of_getElem? (i := 196) rfl) rfl) (ct_t2 (List.mem_of_getElem? (i := 197) rfl) rfl) (ct_t1 (List.mem_of_getElem? (i := 0) rfl) rfl)) (by decide +kernel) (by decide) rfl hl9.1 (by decide) ⟨by omega, by omega⟩ (by decide +kernel) (fun H1 locs1 hW1 => ?_)
  refine lv_istore (i := 5) (lv' := [(5, .int k), (0, .ref b), (1, .ref (ad 0)), (2, .ref (ad 24)), (3, .ref o), (4, .int (nI i))]) hx hb (by decide +kernel) hl9 (by decide) rfl (fun ls hl9 => ?_)
  refine lv_aload_n (k := 2) hx hb (by decide +kernel) rfl (lv_at hl9 3 rfl) ?_
  refine lv_aload_n (k := 0) hx hb (by decide +kernel) rfl (lv_at hl9 1 rfl) ?_
  refine lv_iload (i := 4) hx hb (by decide +kernel) (lv_at hl9 5 rfl) ?_
  refine lv_iconst (n := 1) (v := nI 1) hx hb (by decide +kernel) (by decide) ?_
  refine lv_iadd hx hb (by decide +kernel) ?_
  refine va_sld hx hb hX hbl hbA hW1.2.2.2 (sa_in (k := 1) hi (by decide) hL) (by decide +kernel) ?_
  refine lw_model (z := 48) (idx := 85) (n := 1) (As := [.inl (sa xs i 1)]) (rest := []) C hW1 s1 (ok_ints (xs := [(sa xs i 1)])) (ct_t3 (List.mem_of_getElem? (i := 221) rfl) rfl) (mm_4 (ct_t3 (List.mem_of_getElem? (i := 218) rfl) rfl) (ct_t3 (List.mem_of_getElem? (i := 219) rfl) rfl) (ct_t3 (List.mem_of_getElem? (i := 220) rfl) rfl) (ct_t1 (List.mem_of_getElem? (i := 6) rfl) rfl)) (by decide +kernel) (by decide) rfl hl9.1 (Nat.le_of_ble_eq_true rfl) ⟨by omega, by omega⟩ (by decide +kernel) (fun H2 locs2 hW2 => ?_)
  refine lv_aload_n (k := 2) hx hb (by decide +kernel) rfl (lv_at hl9 3 rfl) ?_
  refine lw_model (z := 33) (idx := 67) (n := 0) (As := []) (rest := []) C hW2 s2 (ok_ints (xs := [])) (ct_t3 (List.mem_of_getElem? (i := 162) rfl) rfl) (mm_4 (ct_t3 (List.mem_of_getElem? (i := 159) rfl) rfl) (ct_t3 (List.mem_of_getElem? (i := 160) rfl) rfl) (ct_t3 (List.mem_of_getElem? (i := 161) rfl) rfl) (ct_t1 (List.mem_of_getElem? (i := 6) rfl) rfl)) (by decide +kernel) (by decide) rfl hl9.1 (Nat.le_of_ble_eq_true rfl) ⟨by omega, by omega⟩ (by decide +kernel) (fun H3 locs3 hW3 => ?_)
  refine lv_iload (i := 5) hx hb (by decide +kernel) (lv_at hl9 0 rfl) ?_
  refine lv_icmp_eq (off := 5) (tgt := 405) hx hb (by decide +kernel) (by decide) (fun _ => ?_) (fun z => absurd rfl z)
  refine lv_goto (off := 384) (tgt := 789) hx hb (by decide +kernel) (by decide) ?_
  exact kk _ _ _ _ ls _ _ _ hT' g hW3 (lv_sub hl9 [1, 2, 3, 4, 5] rfl)
set_option maxRecDepth 20000 in
set_option maxHeartbeats 4000000 in
theorem lc_broken0 (C : LX D cA p s m args c) (hl : l.stackTraces = false) (hX : va_X b L xs s s.heap) (hbl : b < s.heap.size) (hi : i + 4 < L) (hL : L ≤ 2560) (hW : LWd D ad cA s M o f H locs) (hg : gs M n j T) (hT : T + 5 < 2 ^ 31) (hl9 : lv_has ls 7 (lw_lv ad b o i)) (hc : cells ≤ 500000 ∧ slots ≤ 6000000) (h2 : sa xs i 2 = 0) (kk : LK D ad cA p l e s m args below meth c Q cells slots b o i T) : W p l e room_1 s m args below meth c H locs cells slots Q (F0 m 408 ls []) := by
  have hx := C.1.1
  have hb := C.1.2.1
  have hK := C.2.2.1
  have hbA : ¬ (fun q : Nat => s.heap.size ≤ q) b := Nat.not_le.mpr hbl
  obtain ⟨M1, M2, k, n', j', T', hT', hPB, s1, s2, g⟩ := st_broken (D := D) (ad := ad) (cA := cA) hl hg (sa xs i 1) 0 (Or.inl rfl)
  have hl9 : lv_has ls 7 [(0, .ref b), (1, .ref (ad 0)), (2, .ref (ad 24)), (3, .ref o), (4, .int (nI i))] := hl9
  refine lv_aload_n (k := 1) hx hb (by decide +kernel) rfl (lv_at hl9 1 rfl) ?_
  refine lv_aload_n (k := 0) hx hb (by decide +kernel) rfl (lv_at hl9 0 rfl) ?_
  refine lv_iload (i := 4) hx hb (by decide +kernel) (lv_at hl9 4 rfl) ?_
  refine lv_iconst (n := 1) (v := nI 1) hx hb (by decide +kernel) (by decide) ?_
  refine lv_iadd hx hb (by decide +kernel) ?_
  refine va_sld hx hb hX hbl hbA hW.2.2.2 (sa_in (k := 1) hi (by decide) hL) (by decide +kernel) ?_
  refine lv_aload_n (k := 0) hx hb (by decide +kernel) rfl (lv_at hl9 0 rfl) ?_
  refine lv_iload (i := 4) hx hb (by decide +kernel) (lv_at hl9 4 rfl) ?_
  refine lv_iconst (n := 2) (v := nI 2) hx hb (by decide +kernel) (by decide) ?_
  refine lv_iadd hx hb (by decide +kernel) ?_
  refine va_sld hx hb hX hbl hbA hW.2.2.2 (sa_in (k := 2) hi (by decide) hL) (by decide +kernel) ?_
  refine lv_if_eq (off := 7) (tgt := 428) hx hb (by decide +kernel) (by decide) (fun _ => ?_) (fun z => absurd h2 z)
  refine lv_iconst (n := 0) (v := nI 0) hx hb (by decide +kernel) (by decide) ?_
  refine lw_void (as := [.inr (4, 0), .inl (sa xs i 1), .inl 0]) (idx := 86) (n := 3) (rest := []) C hW (hp_broken hPB H.size) (ct_t2 (List.mem_of_getElem? (i := 214) rfl) rfl) (mm_3 (ct_t2 (List.mem_of_getElem? (i := 212) rfl) rfl) (ct_t2 (List.mem_of_getElem? (i := 213) rfl) rfl) (ct_t1 (List.mem_of_getElem? (i := 0) rfl) rfl)) (by decide +kernel) (by decide) rfl hl9.1 (by decide) ⟨by omega, by omega⟩ (by decide +kernel) (fun H1 locs1 hW1 => ?_)
  refine lv_istore (i := 5) (lv' := [(5, .int k), (0, .ref b), (1, .ref (ad 0)), (2, .ref (ad 24)), (3, .ref o), (4, .int (nI i))]) hx hb (by decide +kernel) hl9 (by decide) rfl (fun ls hl9 => ?_)
  refine lv_aload_n (k := 2) hx hb (by decide +kernel) rfl (lv_at hl9 3 rfl) ?_
  refine lv_aload_n (k := 0) hx hb (by decide +kernel) rfl (lv_at hl9 1 rfl) ?_
  refine lv_iload (i := 4) hx hb (by decide +kernel) (lv_at hl9 5 rfl) ?_
  refine lv_iconst (n := 1) (v := nI 1) hx hb (by decide +kernel) (by decide) ?_
  refine lv_iadd hx hb (by decide +kernel) ?_
  refine va_sld hx hb hX hbl hbA hW1.2.2.2 (sa_in (k := 1) hi (by decide) hL) (by decide +kernel) ?_
  refine lv_aload_n (k := 0) hx hb (by decide +kernel) rfl (lv_at hl9 1 rfl) ?_
  refine lv_iload (i := 4) hx hb (by decide +kernel) (lv_at hl9 5 rfl) ?_
  refine lv_iconst (n := 2) (v := nI 2) hx hb (by decide +kernel) (by decide) ?_
  refine lv_iadd hx hb (by decide +kernel) ?_
  refine va_sld hx hb hX hbl hbA hW1.2.2.2 (sa_in (k := 2) hi (by decide) hL) (by decide +kernel) ?_
  refine lv_if_eq (off := 7) (tgt := 454) hx hb (by decide +kernel) (by decide) (fun _ => ?_) (fun z => absurd h2 z)
  refine lv_iconst (n := 0) (v := nI 0) hx hb (by decide +kernel) (by decide) ?_
  refine lw_model (z := 49) (idx := 89) (n := 2) (As := [.inl (sa xs i 1), .inl 0]) (rest := []) C hW1 s1 (ok_ints (xs := [(sa xs i 1), 0])) (ct_t3 (List.mem_of_getElem? (i := 225) rfl) rfl) (mm_4 (ct_t3 (List.mem_of_getElem? (i := 222) rfl) rfl) (ct_t3 (List.mem_of_getElem? (i := 223) rfl) rfl) (ct_t3 (List.mem_of_getElem? (i := 224) rfl) rfl) (ct_t1 (List.mem_of_getElem? (i := 6) rfl) rfl)) (by decide +kernel) (by decide) rfl hl9.1 (Nat.le_of_ble_eq_true rfl) ⟨by omega, by omega⟩ (by decide +kernel) (fun H2 locs2 hW2 => ?_)
  refine lv_aload_n (k := 2) hx hb (by decide +kernel) rfl (lv_at hl9 3 rfl) ?_
  refine lw_model (z := 33) (idx := 67) (n := 0) (As := []) (rest := []) C hW2 s2 (ok_ints (xs := [])) (ct_t3 (List.mem_of_getElem? (i := 162) rfl) rfl) (mm_4 (ct_t3 (List.mem_of_getElem? (i := 159) rfl) rfl) (ct_t3 (List.mem_of_getElem? (i := 160) rfl) rfl) (ct_t3 (List.mem_of_getElem? (i := 161) rfl) rfl) (ct_t1 (List.mem_of_getElem? (i := 6) rfl) rfl)) (by decide +kernel) (by decide) rfl hl9.1 (Nat.le_of_ble_eq_true rfl) ⟨by omega, by omega⟩ (by decide +kernel) (fun H3 locs3 hW3 => ?_)
  refine lv_iload (i := 5) hx hb (by decide +kernel) (lv_at hl9 0 rfl) ?_
  refine lv_icmp_eq (off := 5) (tgt := 469) hx hb (by decide +kernel) (by decide) (fun _ => ?_) (fun z => absurd rfl z)
  refine lv_goto (off := 320) (tgt := 789) hx hb (by decide +kernel) (by decide) ?_
  exact kk _ _ _ _ ls _ _ _ hT' g hW3 (lv_sub hl9 [1, 2, 3, 4, 5] rfl)
set_option maxRecDepth 20000 in
set_option maxHeartbeats 4000000 in
theorem lc_broken1 (C : LX D cA p s m args c) (hl : l.stackTraces = false) (hX : va_X b L xs s s.heap) (hbl : b < s.heap.size) (hi : i + 4 < L) (hL : L ≤ 2560) (hW : LWd D ad cA s M o f H locs) (hg : gs M n j T) (hT : T + 5 < 2 ^ 31) (hl9 : lv_has ls 7 (lw_lv ad b o i)) (hc : cells ≤ 500000 ∧ slots ≤ 6000000) (h2 : ¬ sa xs i 2 = 0) (kk : LK D ad cA p l e s m args below meth c Q cells slots b o i T) : W p l e room_1 s m args below meth c H locs cells slots Q (F0 m 408 ls []) := by
  have hx := C.1.1
  have hb := C.1.2.1
  have hK := C.2.2.1
  have hbA : ¬ (fun q : Nat => s.heap.size ≤ q) b := Nat.not_le.mpr hbl
  obtain ⟨M1, M2, k, n', j', T', hT', hPB, s1, s2, g⟩ := st_broken (D := D) (ad := ad) (cA := cA) hl hg (sa xs i 1) 1 (Or.inr rfl)
  have hl9 : lv_has ls 7 [(0, .ref b), (1, .ref (ad 0)), (2, .ref (ad 24)), (3, .ref o), (4, .int (nI i))] := hl9
  refine lv_aload_n (k := 1) hx hb (by decide +kernel) rfl (lv_at hl9 1 rfl) ?_
  refine lv_aload_n (k := 0) hx hb (by decide +kernel) rfl (lv_at hl9 0 rfl) ?_
  refine lv_iload (i := 4) hx hb (by decide +kernel) (lv_at hl9 4 rfl) ?_
  refine lv_iconst (n := 1) (v := nI 1) hx hb (by decide +kernel) (by decide) ?_
  refine lv_iadd hx hb (by decide +kernel) ?_
  refine va_sld hx hb hX hbl hbA hW.2.2.2 (sa_in (k := 1) hi (by decide) hL) (by decide +kernel) ?_
  refine lv_aload_n (k := 0) hx hb (by decide +kernel) rfl (lv_at hl9 0 rfl) ?_
  refine lv_iload (i := 4) hx hb (by decide +kernel) (lv_at hl9 4 rfl) ?_
  refine lv_iconst (n := 2) (v := nI 2) hx hb (by decide +kernel) (by decide) ?_
  refine lv_iadd hx hb (by decide +kernel) ?_
  refine va_sld hx hb hX hbl hbA hW.2.2.2 (sa_in (k := 2) hi (by decide) hL) (by decide +kernel) ?_
  refine lv_if_eq (off := 7) (tgt := 428) hx hb (by decide +kernel) (by decide) (fun z => absurd z h2) (fun _ => ?_)
  refine lv_iconst (n := 1) (v := nI 1) hx hb (by decide +kernel) (by decide) ?_
  refine lv_goto (off := 4) (tgt := 429) hx hb (by decide +kernel) (by decide) ?_
  refine lw_void (as := [.inr (4, 0), .inl (sa xs i 1), .inl 1]) (idx := 86) (n := 3) (rest := []) C hW (hp_broken hPB H.size) (ct_t2 (List.mem_of_getElem? (i := 214) rfl) rfl) (mm_3 (ct_t2 (List.mem_of_getElem? (i := 212) rfl) rfl) (ct_t2 (List.mem_of_getElem? (i := 213) rfl) rfl) (ct_t1 (List.mem_of_getElem? (i := 0) rfl) rfl)) (by decide +kernel) (by decide) rfl hl9.1 (by decide) ⟨by omega, by omega⟩ (by decide +kernel) (fun H1 locs1 hW1 => ?_)
  refine lv_istore (i := 5) (lv' := [(5, .int k), (0, .ref b), (1, .ref (ad 0)), (2, .ref (ad 24)), (3, .ref o), (4, .int (nI i))]) hx hb (by decide +kernel) hl9 (by decide) rfl (fun ls hl9 => ?_)
  refine lv_aload_n (k := 2) hx hb (by decide +kernel) rfl (lv_at hl9 3 rfl) ?_
  refine lv_aload_n (k := 0) hx hb (by decide +kernel) rfl (lv_at hl9 1 rfl) ?_
  refine lv_iload (i := 4) hx hb (by decide +kernel) (lv_at hl9 5 rfl) ?_
  refine lv_iconst (n := 1) (v := nI 1) hx hb (by decide +kernel) (by decide) ?_
  refine lv_iadd hx hb (by decide +kernel) ?_
  refine va_sld hx hb hX hbl hbA hW1.2.2.2 (sa_in (k := 1) hi (by decide) hL) (by decide +kernel) ?_
  refine lv_aload_n (k := 0) hx hb (by decide +kernel) rfl (lv_at hl9 1 rfl) ?_
  refine lv_iload (i := 4) hx hb (by decide +kernel) (lv_at hl9 5 rfl) ?_
  refine lv_iconst (n := 2) (v := nI 2) hx hb (by decide +kernel) (by decide) ?_
  refine lv_iadd hx hb (by decide +kernel) ?_
  refine va_sld hx hb hX hbl hbA hW1.2.2.2 (sa_in (k := 2) hi (by decide) hL) (by decide +kernel) ?_
  refine lv_if_eq (off := 7) (tgt := 454) hx hb (by decide +kernel) (by decide) (fun z => absurd z h2) (fun _ => ?_)
  refine lv_iconst (n := 1) (v := nI 1) hx hb (by decide +kernel) (by decide) ?_
  refine lv_goto (off := 4) (tgt := 455) hx hb (by decide +kernel) (by decide) ?_
  refine lw_model (z := 49) (idx := 89) (n := 2) (As := [.inl (sa xs i 1), .inl 1]) (rest := []) C hW1 s1 (ok_ints (xs := [(sa xs i 1), 1])) (ct_t3 (List.mem_of_getElem? (i := 225) rfl) rfl) (mm_4 (ct_t3 (List.mem_of_getElem? (i := 222) rfl) rfl) (ct_t3 (List.mem_of_getElem? (i := 223) rfl) rfl) (ct_t3 (List.mem_of_getElem? (i := 224) rfl) rfl) (ct_t1 (List.mem_of_getElem? (i := 6) rfl) rfl)) (by decide +kernel) (by decide) rfl hl9.1 (Nat.le_of_ble_eq_true rfl) ⟨by omega, by omega⟩ (by decide +kernel) (fun H2 locs2 hW2 => ?_)
  refine lv_aload_n (k := 2) hx hb (by decide +kernel) rfl (lv_at hl9 3 rfl) ?_
  refine lw_model (z := 33) (idx := 67) (n := 0) (As := []) (rest := []) C hW2 s2 (ok_ints (xs := [])) (ct_t3 (List.mem_of_getElem? (i := 162) rfl) rfl) (mm_4 (ct_t3 (List.mem_of_getElem? (i := 159) rfl) rfl) (ct_t3 (List.mem_of_getElem? (i := 160) rfl) rfl) (ct_t3 (List.mem_of_getElem? (i := 161) rfl) rfl) (ct_t1 (List.mem_of_getElem? (i := 6) rfl) rfl)) (by decide +kernel) (by decide) rfl hl9.1 (Nat.le_of_ble_eq_true rfl) ⟨by omega, by omega⟩ (by decide +kernel) (fun H3 locs3 hW3 => ?_)
  refine lv_iload (i := 5) hx hb (by decide +kernel) (lv_at hl9 0 rfl) ?_
  refine lv_icmp_eq (off := 5) (tgt := 469) hx hb (by decide +kernel) (by decide) (fun _ => ?_) (fun z => absurd rfl z)
  refine lv_goto (off := 320) (tgt := 789) hx hb (by decide +kernel) (by decide) ?_
  exact kk _ _ _ _ ls _ _ _ hT' g hW3 (lv_sub hl9 [1, 2, 3, 4, 5] rfl)
set_option maxRecDepth 20000 in
set_option maxHeartbeats 4000000 in
theorem lc_run (C : LX D cA p s m args c) (hl : l.stackTraces = false) (hX : va_X b L xs s s.heap) (hbl : b < s.heap.size) (hi : i + 4 < L) (hL : L ≤ 2560) (hW : LWd D ad cA s M o f H locs) (hg : gs M n j T) (hT : T + 5 < 2 ^ 31) (hl9 : lv_has ls 7 (lw_lv ad b o i)) (hc : cells ≤ 500000 ∧ slots ≤ 6000000) (kk : LK D ad cA p l e s m args below meth c Q cells slots b o i T) : W p l e room_1 s m args below meth c H locs cells slots Q (F0 m 472 ls []) := by
  have hx := C.1.1
  have hb := C.1.2.1
  have hK := C.2.2.1
  have hbA : ¬ (fun q : Nat => s.heap.size ≤ q) b := Nat.not_le.mpr hbl
  obtain ⟨M1, M2, k, r, b9, n', j', T', hT', hPB, s1, he, s2, g⟩ := st_run (D := D) (ad := ad) (cA := cA) hl hg (sa xs i 1)
  have hl9 : lv_has ls 7 [(0, .ref b), (1, .ref (ad 0)), (2, .ref (ad 24)), (3, .ref o), (4, .int (nI i))] := hl9
  refine lv_aload_n (k := 1) hx hb (by decide +kernel) rfl (lv_at hl9 1 rfl) ?_
  refine lv_aload_n (k := 0) hx hb (by decide +kernel) rfl (lv_at hl9 0 rfl) ?_
  refine lv_iload (i := 4) hx hb (by decide +kernel) (lv_at hl9 4 rfl) ?_
  refine lv_iconst (n := 1) (v := nI 1) hx hb (by decide +kernel) (by decide) ?_
  refine lv_iadd hx hb (by decide +kernel) ?_
  refine va_sld hx hb hX hbl hbA hW.2.2.2 (sa_in (k := 1) hi (by decide) hL) (by decide +kernel) ?_
  refine lv_aload_n (k := 3) hx hb (by decide +kernel) rfl (lv_at hl9 3 rfl) ?_
  refine lw_out (as := [.inr (4, 0), .inl (sa xs i 1)]) (idx := 90) (n := 3) (rest := []) C hW (hp_run hPB H.size) (ct_t2 (List.mem_of_getElem? (i := 222) rfl) rfl) (mm_3 (ct_t2 (List.mem_of_getElem? (i := 220) rfl) rfl) (ct_t2 (List.mem_of_getElem? (i := 221) rfl) rfl) (ct_t1 (List.mem_of_getElem? (i := 0) rfl) rfl)) (by decide +kernel) (by decide) rfl hl9.1 (by decide) ⟨by omega, by omega⟩ (by decide +kernel) (fun H1 locs1 f1 hW1 hf => ?_)
  refine lv_istore (i := 5) (lv' := [(5, .int k), (0, .ref b), (1, .ref (ad 0)), (2, .ref (ad 24)), (3, .ref o), (4, .int (nI i))]) hx hb (by decide +kernel) hl9 (by decide) rfl (fun ls hl9 => ?_)
  refine lv_aload_n (k := 2) hx hb (by decide +kernel) rfl (lv_at hl9 3 rfl) ?_
  refine lv_aload_n (k := 0) hx hb (by decide +kernel) rfl (lv_at hl9 1 rfl) ?_
  refine lv_iload (i := 4) hx hb (by decide +kernel) (lv_at hl9 5 rfl) ?_
  refine lv_iconst (n := 1) (v := nI 1) hx hb (by decide +kernel) (by decide) ?_
  refine lv_iadd hx hb (by decide +kernel) ?_
  refine va_sld hx hb hX hbl hbA hW1.2.2.2 (sa_in (k := 1) hi (by decide) hL) (by decide +kernel) ?_
  refine lw_model (z := 60) (idx := 93) (n := 1) (As := [.inl (sa xs i 1)]) (rest := []) C hW1 s1 (ok_ints (xs := [(sa xs i 1)])) (ct_t3 (List.mem_of_getElem? (i := 229) rfl) rfl) (mm_4 (ct_t3 (List.mem_of_getElem? (i := 226) rfl) rfl) (ct_t3 (List.mem_of_getElem? (i := 227) rfl) rfl) (ct_t3 (List.mem_of_getElem? (i := 228) rfl) rfl) (ct_t1 (List.mem_of_getElem? (i := 6) rfl) rfl)) (by decide +kernel) (by decide) rfl hl9.1 (Nat.le_of_ble_eq_true rfl) ⟨by omega, by omega⟩ (by decide +kernel) (fun H2 locs2 hW2 => ?_)
  refine lv_istore (i := 6) (lv' := [(6, .int b9), (5, .int k), (0, .ref b), (1, .ref (ad 0)), (2, .ref (ad 24)), (3, .ref o), (4, .int (nI i))]) hx hb (by decide +kernel) hl9 (by decide) rfl (fun ls hl9 => ?_)
  refine lv_aload_n (k := 2) hx hb (by decide +kernel) rfl (lv_at hl9 4 rfl) ?_
  refine lw_model (z := 33) (idx := 67) (n := 0) (As := []) (rest := []) C hW2 s2 (ok_ints (xs := [])) (ct_t3 (List.mem_of_getElem? (i := 162) rfl) rfl) (mm_4 (ct_t3 (List.mem_of_getElem? (i := 159) rfl) rfl) (ct_t3 (List.mem_of_getElem? (i := 160) rfl) rfl) (ct_t3 (List.mem_of_getElem? (i := 161) rfl) rfl) (ct_t1 (List.mem_of_getElem? (i := 6) rfl) rfl)) (by decide +kernel) (by decide) rfl hl9.1 (Nat.le_of_ble_eq_true rfl) ⟨by omega, by omega⟩ (by decide +kernel) (fun H3 locs3 hW3 => ?_)
  refine lv_iload (i := 5) hx hb (by decide +kernel) (lv_at hl9 1 rfl) ?_
  refine lv_icmp_eq (off := 5) (tgt := 508) hx hb (by decide +kernel) (by decide) (fun _ => ?_) (fun z => absurd rfl z)
  refine lv_iload (i := 5) hx hb (by decide +kernel) (lv_at hl9 1 rfl) ?_
  have hend : W p l e room_1 s m args below meth c H3 locs3 (cells + 1) (slots + 6) Q (F0 m 525 ls []) := by
    refine lv_goto (off := 264) (tgt := 789) hx hb (by decide +kernel) (by decide) ?_
    exact kk _ _ _ _ ls _ _ _ hT' g hW3 (lv_sub hl9 [2, 3, 4, 5, 6] rfl)
  refine lv_if_ne (off := 15) (tgt := 525) hx hb (by decide +kernel) (by decide) (fun _ => hend) (fun hk0 => ?_)
  have hk1 : k = 0 := hk0
  refine lv_aload_n (k := 3) hx hb (by decide +kernel) rfl (lv_at hl9 5 rfl) ?_
  refine lv_iconst (n := 0) (v := nI 0) hx hb (by decide +kernel) (by decide) ?_
  refine va_lald (n := 1) (f := f1) hx hb hK hW3.2.1 0 4 rfl rfl (vp_in_nI (n := 0) (N := 1) (by decide) (by decide)) (by decide +kernel) ?_
  refine lv_iload (i := 6) hx hb (by decide +kernel) (lv_at hl9 0 rfl) ?_
  refine lv_i2l (x := b9) (v := b9.toInt64) hx hb (by decide +kernel) rfl ?_
  refine W.lcmp (x := f1 0) (y := b9.toInt64) hx hb (by decide +kernel) ?_
  have hcm : lg_cmp (f1 0) b9.toInt64 = 0 := by rw [hf hk1, he hk1]; exact lg_cmp_self
  refine lv_if_eq (off := 5) (tgt := 525) hx hb (by decide +kernel) (by decide) (fun _ => hend) (fun z => absurd hcm z)
set_option maxRecDepth 20000 in
set_option maxHeartbeats 4000000 in
theorem lc_at (C : LX D cA p s m args c) (hl : l.stackTraces = false) (hX : va_X b L xs s s.heap) (hbl : b < s.heap.size) (hi : i + 4 < L) (hL : L ≤ 2560) (hW : LWd D ad cA s M o f H locs) (hg : gs M n j T) (hT : T + 5 < 2 ^ 31) (hl9 : lv_has ls 7 (lw_lv ad b o i)) (hc : cells ≤ 500000 ∧ slots ≤ 6000000) (kk : LK D ad cA p l e s m args below meth c Q cells slots b o i T) : W p l e room_1 s m args below meth c H locs cells slots Q (F0 m 528 ls []) := by
  have hx := C.1.1
  have hb := C.1.2.1
  have hK := C.2.2.1
  have hbA : ¬ (fun q : Nat => s.heap.size ≤ q) b := Nat.not_le.mpr hbl
  obtain ⟨M1, M2, k, r, b9, n', j', T', hT', hPB, s1, he, s2, g⟩ := st_at (D := D) (ad := ad) (cA := cA) hl hg (sa xs i 1) (sa xs i 2)
  have hl9 : lv_has ls 7 [(0, .ref b), (1, .ref (ad 0)), (2, .ref (ad 24)), (3, .ref o), (4, .int (nI i))] := hl9
  refine lv_aload_n (k := 1) hx hb (by decide +kernel) rfl (lv_at hl9 1 rfl) ?_
  refine lv_aload_n (k := 0) hx hb (by decide +kernel) rfl (lv_at hl9 0 rfl) ?_
  refine lv_iload (i := 4) hx hb (by decide +kernel) (lv_at hl9 4 rfl) ?_
  refine lv_iconst (n := 1) (v := nI 1) hx hb (by decide +kernel) (by decide) ?_
  refine lv_iadd hx hb (by decide +kernel) ?_
  refine va_sld hx hb hX hbl hbA hW.2.2.2 (sa_in (k := 1) hi (by decide) hL) (by decide +kernel) ?_
  refine lv_aload_n (k := 0) hx hb (by decide +kernel) rfl (lv_at hl9 0 rfl) ?_
  refine lv_iload (i := 4) hx hb (by decide +kernel) (lv_at hl9 4 rfl) ?_
  refine lv_iconst (n := 2) (v := nI 2) hx hb (by decide +kernel) (by decide) ?_
  refine lv_iadd hx hb (by decide +kernel) ?_
  refine va_sld hx hb hX hbl hbA hW.2.2.2 (sa_in (k := 2) hi (by decide) hL) (by decide +kernel) ?_
  refine lv_aload_n (k := 3) hx hb (by decide +kernel) rfl (lv_at hl9 3 rfl) ?_
  refine lw_out (as := [.inr (4, 0), .inl (sa xs i 1), .inl (sa xs i 2)]) (idx := 94) (n := 4) (rest := []) C hW (hp_at hPB H.size) (ct_t3 (List.mem_of_getElem? (i := 33) rfl) rfl) (mm_3 (ct_t3 (List.mem_of_getElem? (i := 31) rfl) rfl) (ct_t3 (List.mem_of_getElem? (i := 32) rfl) rfl) (ct_t1 (List.mem_of_getElem? (i := 0) rfl) rfl)) (by decide +kernel) (by decide) rfl hl9.1 (by decide) ⟨by omega, by omega⟩ (by decide +kernel) (fun H1 locs1 f1 hW1 hf => ?_)
  refine lv_istore (i := 5) (lv' := [(5, .int k), (0, .ref b), (1, .ref (ad 0)), (2, .ref (ad 24)), (3, .ref o), (4, .int (nI i))]) hx hb (by decide +kernel) hl9 (by decide) rfl (fun ls hl9 => ?_)
  refine lv_aload_n (k := 2) hx hb (by decide +kernel) rfl (lv_at hl9 3 rfl) ?_
  refine lv_aload_n (k := 0) hx hb (by decide +kernel) rfl (lv_at hl9 1 rfl) ?_
  refine lv_iload (i := 4) hx hb (by decide +kernel) (lv_at hl9 5 rfl) ?_
  refine lv_iconst (n := 1) (v := nI 1) hx hb (by decide +kernel) (by decide) ?_
  refine lv_iadd hx hb (by decide +kernel) ?_
  refine va_sld hx hb hX hbl hbA hW1.2.2.2 (sa_in (k := 1) hi (by decide) hL) (by decide +kernel) ?_
  refine lv_aload_n (k := 0) hx hb (by decide +kernel) rfl (lv_at hl9 1 rfl) ?_
  refine lv_iload (i := 4) hx hb (by decide +kernel) (lv_at hl9 5 rfl) ?_
  refine lv_iconst (n := 2) (v := nI 2) hx hb (by decide +kernel) (by decide) ?_
  refine lv_iadd hx hb (by decide +kernel) ?_
  refine va_sld hx hb hX hbl hbA hW1.2.2.2 (sa_in (k := 2) hi (by decide) hL) (by decide +kernel) ?_
  refine lw_model (z := 61) (idx := 97) (n := 2) (As := [.inl (sa xs i 1), .inl (sa xs i 2)]) (rest := []) C hW1 s1 (ok_ints (xs := [(sa xs i 1), (sa xs i 2)])) (ct_t4 (List.mem_of_getElem? (i := 34) rfl) rfl) (mm_4 (ct_t4 (List.mem_of_getElem? (i := 31) rfl) rfl) (ct_t4 (List.mem_of_getElem? (i := 32) rfl) rfl) (ct_t4 (List.mem_of_getElem? (i := 33) rfl) rfl) (ct_t1 (List.mem_of_getElem? (i := 6) rfl) rfl)) (by decide +kernel) (by decide) rfl hl9.1 (Nat.le_of_ble_eq_true rfl) ⟨by omega, by omega⟩ (by decide +kernel) (fun H2 locs2 hW2 => ?_)
  refine lv_istore (i := 6) (lv' := [(6, .int b9), (5, .int k), (0, .ref b), (1, .ref (ad 0)), (2, .ref (ad 24)), (3, .ref o), (4, .int (nI i))]) hx hb (by decide +kernel) hl9 (by decide) rfl (fun ls hl9 => ?_)
  refine lv_aload_n (k := 2) hx hb (by decide +kernel) rfl (lv_at hl9 4 rfl) ?_
  refine lw_model (z := 33) (idx := 67) (n := 0) (As := []) (rest := []) C hW2 s2 (ok_ints (xs := [])) (ct_t3 (List.mem_of_getElem? (i := 162) rfl) rfl) (mm_4 (ct_t3 (List.mem_of_getElem? (i := 159) rfl) rfl) (ct_t3 (List.mem_of_getElem? (i := 160) rfl) rfl) (ct_t3 (List.mem_of_getElem? (i := 161) rfl) rfl) (ct_t1 (List.mem_of_getElem? (i := 6) rfl) rfl)) (by decide +kernel) (by decide) rfl hl9.1 (Nat.le_of_ble_eq_true rfl) ⟨by omega, by omega⟩ (by decide +kernel) (fun H3 locs3 hW3 => ?_)
  refine lv_iload (i := 5) hx hb (by decide +kernel) (lv_at hl9 1 rfl) ?_
  refine lv_icmp_eq (off := 5) (tgt := 576) hx hb (by decide +kernel) (by decide) (fun _ => ?_) (fun z => absurd rfl z)
  refine lv_iload (i := 5) hx hb (by decide +kernel) (lv_at hl9 1 rfl) ?_
  have hend : W p l e room_1 s m args below meth c H3 locs3 (cells + 1) (slots + 6) Q (F0 m 593 ls []) := by
    refine lv_goto (off := 196) (tgt := 789) hx hb (by decide +kernel) (by decide) ?_
    exact kk _ _ _ _ ls _ _ _ hT' g hW3 (lv_sub hl9 [2, 3, 4, 5, 6] rfl)
  refine lv_if_ne (off := 15) (tgt := 593) hx hb (by decide +kernel) (by decide) (fun _ => hend) (fun hk0 => ?_)
  have hk1 : k = 0 := hk0
  refine lv_aload_n (k := 3) hx hb (by decide +kernel) rfl (lv_at hl9 5 rfl) ?_
  refine lv_iconst (n := 0) (v := nI 0) hx hb (by decide +kernel) (by decide) ?_
  refine va_lald (n := 1) (f := f1) hx hb hK hW3.2.1 0 4 rfl rfl (vp_in_nI (n := 0) (N := 1) (by decide) (by decide)) (by decide +kernel) ?_
  refine lv_iload (i := 6) hx hb (by decide +kernel) (lv_at hl9 0 rfl) ?_
  refine lv_i2l (x := b9) (v := b9.toInt64) hx hb (by decide +kernel) rfl ?_
  refine W.lcmp (x := f1 0) (y := b9.toInt64) hx hb (by decide +kernel) ?_
  have hcm : lg_cmp (f1 0) b9.toInt64 = 0 := by rw [hf hk1, he hk1]; exact lg_cmp_self
  refine lv_if_eq (off := 5) (tgt := 593) hx hb (by decide +kernel) (by decide) (fun _ => hend) (fun z => absurd hcm z)
set_option maxRecDepth 20000 in
set_option maxHeartbeats 4000000 in
theorem lc_state (C : LX D cA p s m args c) (hl : l.stackTraces = false) (hX : va_X b L xs s s.heap) (hbl : b < s.heap.size) (hi : i + 4 < L) (hL : L ≤ 2560) (hW : LWd D ad cA s M o f H locs) (hg : gs M n j T) (hT : T + 5 < 2 ^ 31) (hl9 : lv_has ls 7 (lw_lv ad b o i)) (hc : cells ≤ 500000 ∧ slots ≤ 6000000) (kk : LK D ad cA p l e s m args below meth c Q cells slots b o i T) : W p l e room_1 s m args below meth c H locs cells slots Q (F0 m 596 ls []) := by
  have hx := C.1.1
  have hb := C.1.2.1
  have hK := C.2.2.1
  have hbA : ¬ (fun q : Nat => s.heap.size ≤ q) b := Nat.not_le.mpr hbl
  obtain ⟨M1, M2, k, r, b9, n', j', T', hT', hPB, s1, he, s2, g⟩ := st_state (D := D) (ad := ad) (cA := cA) hl hg (sa xs i 1) (sa xs i 2)
  have hl9 : lv_has ls 7 [(0, .ref b), (1, .ref (ad 0)), (2, .ref (ad 24)), (3, .ref o), (4, .int (nI i))] := hl9
  refine lv_aload_n (k := 1) hx hb (by decide +kernel) rfl (lv_at hl9 1 rfl) ?_
  refine lv_aload_n (k := 0) hx hb (by decide +kernel) rfl (lv_at hl9 0 rfl) ?_
  refine lv_iload (i := 4) hx hb (by decide +kernel) (lv_at hl9 4 rfl) ?_
  refine lv_iconst (n := 1) (v := nI 1) hx hb (by decide +kernel) (by decide) ?_
  refine lv_iadd hx hb (by decide +kernel) ?_
  refine va_sld hx hb hX hbl hbA hW.2.2.2 (sa_in (k := 1) hi (by decide) hL) (by decide +kernel) ?_
  refine lv_aload_n (k := 0) hx hb (by decide +kernel) rfl (lv_at hl9 0 rfl) ?_
  refine lv_iload (i := 4) hx hb (by decide +kernel) (lv_at hl9 4 rfl) ?_
  refine lv_iconst (n := 2) (v := nI 2) hx hb (by decide +kernel) (by decide) ?_
  refine lv_iadd hx hb (by decide +kernel) ?_
  refine va_sld hx hb hX hbl hbA hW.2.2.2 (sa_in (k := 2) hi (by decide) hL) (by decide +kernel) ?_
  refine lv_aload_n (k := 3) hx hb (by decide +kernel) rfl (lv_at hl9 3 rfl) ?_
  refine lw_out (as := [.inr (4, 0), .inl (sa xs i 1), .inl (sa xs i 2)]) (idx := 98) (n := 4) (rest := []) C hW (hp_state hPB H.size) (ct_t3 (List.mem_of_getElem? (i := 41) rfl) rfl) (mm_3 (ct_t3 (List.mem_of_getElem? (i := 39) rfl) rfl) (ct_t3 (List.mem_of_getElem? (i := 40) rfl) rfl) (ct_t1 (List.mem_of_getElem? (i := 0) rfl) rfl)) (by decide +kernel) (by decide) rfl hl9.1 (by decide) ⟨by omega, by omega⟩ (by decide +kernel) (fun H1 locs1 f1 hW1 hf => ?_)
  refine lv_istore (i := 5) (lv' := [(5, .int k), (0, .ref b), (1, .ref (ad 0)), (2, .ref (ad 24)), (3, .ref o), (4, .int (nI i))]) hx hb (by decide +kernel) hl9 (by decide) rfl (fun ls hl9 => ?_)
  refine lv_aload_n (k := 2) hx hb (by decide +kernel) rfl (lv_at hl9 3 rfl) ?_
  refine lv_aload_n (k := 0) hx hb (by decide +kernel) rfl (lv_at hl9 1 rfl) ?_
  refine lv_iload (i := 4) hx hb (by decide +kernel) (lv_at hl9 5 rfl) ?_
  refine lv_iconst (n := 1) (v := nI 1) hx hb (by decide +kernel) (by decide) ?_
  refine lv_iadd hx hb (by decide +kernel) ?_
  refine va_sld hx hb hX hbl hbA hW1.2.2.2 (sa_in (k := 1) hi (by decide) hL) (by decide +kernel) ?_
  refine lv_aload_n (k := 0) hx hb (by decide +kernel) rfl (lv_at hl9 1 rfl) ?_
  refine lv_iload (i := 4) hx hb (by decide +kernel) (lv_at hl9 5 rfl) ?_
  refine lv_iconst (n := 2) (v := nI 2) hx hb (by decide +kernel) (by decide) ?_
  refine lv_iadd hx hb (by decide +kernel) ?_
  refine va_sld hx hb hX hbl hbA hW1.2.2.2 (sa_in (k := 2) hi (by decide) hL) (by decide +kernel) ?_
  refine lw_model (z := 62) (idx := 100) (n := 2) (As := [.inl (sa xs i 1), .inl (sa xs i 2)]) (rest := []) C hW1 s1 (ok_ints (xs := [(sa xs i 1), (sa xs i 2)])) (ct_t4 (List.mem_of_getElem? (i := 38) rfl) rfl) (mm_4 (ct_t4 (List.mem_of_getElem? (i := 35) rfl) rfl) (ct_t4 (List.mem_of_getElem? (i := 36) rfl) rfl) (ct_t4 (List.mem_of_getElem? (i := 37) rfl) rfl) (ct_t1 (List.mem_of_getElem? (i := 6) rfl) rfl)) (by decide +kernel) (by decide) rfl hl9.1 (Nat.le_of_ble_eq_true rfl) ⟨by omega, by omega⟩ (by decide +kernel) (fun H2 locs2 hW2 => ?_)
  refine lv_istore (i := 6) (lv' := [(6, .int b9), (5, .int k), (0, .ref b), (1, .ref (ad 0)), (2, .ref (ad 24)), (3, .ref o), (4, .int (nI i))]) hx hb (by decide +kernel) hl9 (by decide) rfl (fun ls hl9 => ?_)
  refine lv_aload_n (k := 2) hx hb (by decide +kernel) rfl (lv_at hl9 4 rfl) ?_
  refine lw_model (z := 33) (idx := 67) (n := 0) (As := []) (rest := []) C hW2 s2 (ok_ints (xs := [])) (ct_t3 (List.mem_of_getElem? (i := 162) rfl) rfl) (mm_4 (ct_t3 (List.mem_of_getElem? (i := 159) rfl) rfl) (ct_t3 (List.mem_of_getElem? (i := 160) rfl) rfl) (ct_t3 (List.mem_of_getElem? (i := 161) rfl) rfl) (ct_t1 (List.mem_of_getElem? (i := 6) rfl) rfl)) (by decide +kernel) (by decide) rfl hl9.1 (Nat.le_of_ble_eq_true rfl) ⟨by omega, by omega⟩ (by decide +kernel) (fun H3 locs3 hW3 => ?_)
  refine lv_iload (i := 5) hx hb (by decide +kernel) (lv_at hl9 1 rfl) ?_
  refine lv_icmp_eq (off := 5) (tgt := 644) hx hb (by decide +kernel) (by decide) (fun _ => ?_) (fun z => absurd rfl z)
  refine lv_iload (i := 5) hx hb (by decide +kernel) (lv_at hl9 1 rfl) ?_
  have hend : W p l e room_1 s m args below meth c H3 locs3 (cells + 1) (slots + 6) Q (F0 m 661 ls []) := by
    refine lv_goto (off := 128) (tgt := 789) hx hb (by decide +kernel) (by decide) ?_
    exact kk _ _ _ _ ls _ _ _ hT' g hW3 (lv_sub hl9 [2, 3, 4, 5, 6] rfl)
  refine lv_if_ne (off := 15) (tgt := 661) hx hb (by decide +kernel) (by decide) (fun _ => hend) (fun hk0 => ?_)
  have hk1 : k = 0 := hk0
  refine lv_aload_n (k := 3) hx hb (by decide +kernel) rfl (lv_at hl9 5 rfl) ?_
  refine lv_iconst (n := 0) (v := nI 0) hx hb (by decide +kernel) (by decide) ?_
  refine va_lald (n := 1) (f := f1) hx hb hK hW3.2.1 0 4 rfl rfl (vp_in_nI (n := 0) (N := 1) (by decide) (by decide)) (by decide +kernel) ?_
  refine lv_iload (i := 6) hx hb (by decide +kernel) (lv_at hl9 0 rfl) ?_
  refine lv_i2l (x := b9) (v := b9.toInt64) hx hb (by decide +kernel) rfl ?_
  refine W.lcmp (x := f1 0) (y := b9.toInt64) hx hb (by decide +kernel) ?_
  have hcm : lg_cmp (f1 0) b9.toInt64 = 0 := by rw [hf hk1, he hk1]; exact lg_cmp_self
  refine lv_if_eq (off := 5) (tgt := 661) hx hb (by decide +kernel) (by decide) (fun _ => hend) (fun z => absurd hcm z)
set_option maxRecDepth 20000 in
set_option maxHeartbeats 4000000 in
theorem lc_near (C : LX D cA p s m args c) (hl : l.stackTraces = false) (hX : va_X b L xs s s.heap) (hbl : b < s.heap.size) (hi : i + 4 < L) (hL : L ≤ 2560) (hW : LWd D ad cA s M o f H locs) (hg : gs M n j T) (hT : T + 5 < 2 ^ 31) (hl9 : lv_has ls 7 (lw_lv ad b o i)) (hc : cells ≤ 500000 ∧ slots ≤ 6000000) (kk : LK D ad cA p l e s m args below meth c Q cells slots b o i T) : W p l e room_1 s m args below meth c H locs cells slots Q (F0 m 664 ls []) := by
  have hx := C.1.1
  have hb := C.1.2.1
  have hK := C.2.2.1
  have hbA : ¬ (fun q : Nat => s.heap.size ≤ q) b := Nat.not_le.mpr hbl
  obtain ⟨M2, v, s1, s2, g⟩ := st_near hg
  have hl9 : lv_has ls 7 [(0, .ref b), (1, .ref (ad 0)), (2, .ref (ad 24)), (3, .ref o), (4, .int (nI i))] := hl9
  refine lv_aload_n (k := 1) hx hb (by decide +kernel) rfl (lv_at hl9 1 rfl) ?_
  refine lw_class (z := 0) (idx := 101) (n := 0) (As := []) (rest := []) C hW s1 (ok_ints (xs := [])) (ct_t1 (List.mem_of_getElem? (i := 220) rfl) rfl) (mm_4 (ct_t1 (List.mem_of_getElem? (i := 217) rfl) rfl) (ct_t1 (List.mem_of_getElem? (i := 218) rfl) rfl) (ct_t1 (List.mem_of_getElem? (i := 219) rfl) rfl) (ct_t1 (List.mem_of_getElem? (i := 1) rfl) rfl)) (by decide +kernel) (by decide) rfl hl9.1 (Nat.le_of_ble_eq_true rfl) ⟨by omega, by omega⟩ (by decide +kernel) (fun H1 locs1 hW1 => ?_)
  refine lv_aload_n (k := 2) hx hb (by decide +kernel) rfl (lv_at hl9 2 rfl) ?_
  refine lw_model (z := 63) (idx := 104) (n := 0) (As := []) (rest := [.int v]) C hW1 s2 (ok_ints (xs := [])) (ct_t4 (List.mem_of_getElem? (i := 42) rfl) rfl) (mm_4 (ct_t4 (List.mem_of_getElem? (i := 39) rfl) rfl) (ct_t4 (List.mem_of_getElem? (i := 40) rfl) rfl) (ct_t4 (List.mem_of_getElem? (i := 41) rfl) rfl) (ct_t1 (List.mem_of_getElem? (i := 6) rfl) rfl)) (by decide +kernel) (by decide) rfl hl9.1 (Nat.le_of_ble_eq_true rfl) ⟨by omega, by omega⟩ (by decide +kernel) (fun H2 locs2 hW2 => ?_)
  refine lv_icmp_eq (off := 117) (tgt := 789) hx hb (by decide +kernel) (by decide) (fun _ => ?_) (fun z => absurd rfl z)
  refine W.widen (k := cells + 1) (n := slots + 6) (by omega) (by omega) ?_
  exact kk _ _ _ _ ls _ _ _ (by omega) g hW2 (lv_sub hl9 [0, 1, 2, 3, 4] rfl)
set_option maxRecDepth 20000 in
set_option maxHeartbeats 4000000 in
theorem lc_plan (C : LX D cA p s m args c) (hl : l.stackTraces = false) (hX : va_X b L xs s s.heap) (hbl : b < s.heap.size) (hi : i + 4 < L) (hL : L ≤ 2560) (hW : LWd D ad cA s M o f H locs) (hg : gs M n j T) (hT : T + 5 < 2 ^ 31) (hl9 : lv_has ls 7 (lw_lv ad b o i)) (hc : cells ≤ 500000 ∧ slots ≤ 6000000) (kk : LK D ad cA p l e s m args below meth c Q cells slots b o i T) : W p l e room_1 s m args below meth c H locs cells slots Q (F0 m 677 ls []) := by
  have hx := C.1.1
  have hb := C.1.2.1
  have hK := C.2.2.1
  have hbA : ¬ (fun q : Nat => s.heap.size ≤ q) b := Nat.not_le.mpr hbl
  obtain ⟨M1, M2, k, r, b9, n', j', T', hT', hPB, s1, he, s2, g⟩ := st_plan (D := D) (ad := ad) (cA := cA) hl hg (by omega) (sa xs i 1)
  have hl9 : lv_has ls 7 [(0, .ref b), (1, .ref (ad 0)), (2, .ref (ad 24)), (3, .ref o), (4, .int (nI i))] := hl9
  refine lv_aload_n (k := 1) hx hb (by decide +kernel) rfl (lv_at hl9 1 rfl) ?_
  refine lv_aload_n (k := 0) hx hb (by decide +kernel) rfl (lv_at hl9 0 rfl) ?_
  refine lv_iload (i := 4) hx hb (by decide +kernel) (lv_at hl9 4 rfl) ?_
  refine lv_iconst (n := 1) (v := nI 1) hx hb (by decide +kernel) (by decide) ?_
  refine lv_iadd hx hb (by decide +kernel) ?_
  refine va_sld hx hb hX hbl hbA hW.2.2.2 (sa_in (k := 1) hi (by decide) hL) (by decide +kernel) ?_
  refine lv_aload_n (k := 3) hx hb (by decide +kernel) rfl (lv_at hl9 3 rfl) ?_
  refine lw_out (as := [.inr (4, 0), .inl (sa xs i 1)]) (idx := 105) (n := 3) (rest := []) C hW (hp_plan hPB H.size) (ct_t3 (List.mem_of_getElem? (i := 49) rfl) rfl) (mm_3 (ct_t3 (List.mem_of_getElem? (i := 47) rfl) rfl) (ct_t3 (List.mem_of_getElem? (i := 48) rfl) rfl) (ct_t1 (List.mem_of_getElem? (i := 0) rfl) rfl)) (by decide +kernel) (by decide) rfl hl9.1 (by decide) ⟨by omega, by omega⟩ (by decide +kernel) (fun H1 locs1 f1 hW1 hf => ?_)
  refine lv_istore (i := 5) (lv' := [(5, .int k), (0, .ref b), (1, .ref (ad 0)), (2, .ref (ad 24)), (3, .ref o), (4, .int (nI i))]) hx hb (by decide +kernel) hl9 (by decide) rfl (fun ls hl9 => ?_)
  refine lv_aload_n (k := 2) hx hb (by decide +kernel) rfl (lv_at hl9 3 rfl) ?_
  refine lv_aload_n (k := 0) hx hb (by decide +kernel) rfl (lv_at hl9 1 rfl) ?_
  refine lv_iload (i := 4) hx hb (by decide +kernel) (lv_at hl9 5 rfl) ?_
  refine lv_iconst (n := 1) (v := nI 1) hx hb (by decide +kernel) (by decide) ?_
  refine lv_iadd hx hb (by decide +kernel) ?_
  refine va_sld hx hb hX hbl hbA hW1.2.2.2 (sa_in (k := 1) hi (by decide) hL) (by decide +kernel) ?_
  refine lw_model (z := 68) (idx := 107) (n := 1) (As := [.inl (sa xs i 1)]) (rest := []) C hW1 s1 (ok_ints (xs := [(sa xs i 1)])) (ct_t4 (List.mem_of_getElem? (i := 46) rfl) rfl) (mm_4 (ct_t4 (List.mem_of_getElem? (i := 43) rfl) rfl) (ct_t4 (List.mem_of_getElem? (i := 44) rfl) rfl) (ct_t4 (List.mem_of_getElem? (i := 45) rfl) rfl) (ct_t1 (List.mem_of_getElem? (i := 6) rfl) rfl)) (by decide +kernel) (by decide) rfl hl9.1 (Nat.le_of_ble_eq_true rfl) ⟨by omega, by omega⟩ (by decide +kernel) (fun H2 locs2 hW2 => ?_)
  refine lv_istore (i := 6) (lv' := [(6, .int b9), (5, .int k), (0, .ref b), (1, .ref (ad 0)), (2, .ref (ad 24)), (3, .ref o), (4, .int (nI i))]) hx hb (by decide +kernel) hl9 (by decide) rfl (fun ls hl9 => ?_)
  refine lv_aload_n (k := 2) hx hb (by decide +kernel) rfl (lv_at hl9 4 rfl) ?_
  refine lw_model (z := 33) (idx := 67) (n := 0) (As := []) (rest := []) C hW2 s2 (ok_ints (xs := [])) (ct_t3 (List.mem_of_getElem? (i := 162) rfl) rfl) (mm_4 (ct_t3 (List.mem_of_getElem? (i := 159) rfl) rfl) (ct_t3 (List.mem_of_getElem? (i := 160) rfl) rfl) (ct_t3 (List.mem_of_getElem? (i := 161) rfl) rfl) (ct_t1 (List.mem_of_getElem? (i := 6) rfl) rfl)) (by decide +kernel) (by decide) rfl hl9.1 (Nat.le_of_ble_eq_true rfl) ⟨by omega, by omega⟩ (by decide +kernel) (fun H3 locs3 hW3 => ?_)
  refine lv_iload (i := 5) hx hb (by decide +kernel) (lv_at hl9 1 rfl) ?_
  refine lv_icmp_eq (off := 5) (tgt := 713) hx hb (by decide +kernel) (by decide) (fun _ => ?_) (fun z => absurd rfl z)
  refine lv_iload (i := 5) hx hb (by decide +kernel) (lv_at hl9 1 rfl) ?_
  have hend : W p l e room_1 s m args below meth c H3 locs3 (cells + 1) (slots + 6) Q (F0 m 730 ls []) := by
    refine lv_goto (off := 59) (tgt := 789) hx hb (by decide +kernel) (by decide) ?_
    exact kk _ _ _ _ ls _ _ _ hT' g hW3 (lv_sub hl9 [2, 3, 4, 5, 6] rfl)
  refine lv_if_ne (off := 15) (tgt := 730) hx hb (by decide +kernel) (by decide) (fun _ => hend) (fun hk0 => ?_)
  have hk1 : k = 0 := hk0
  refine lv_aload_n (k := 3) hx hb (by decide +kernel) rfl (lv_at hl9 5 rfl) ?_
  refine lv_iconst (n := 0) (v := nI 0) hx hb (by decide +kernel) (by decide) ?_
  refine va_lald (n := 1) (f := f1) hx hb hK hW3.2.1 0 4 rfl rfl (vp_in_nI (n := 0) (N := 1) (by decide) (by decide)) (by decide +kernel) ?_
  refine lv_iload (i := 6) hx hb (by decide +kernel) (lv_at hl9 0 rfl) ?_
  refine lv_i2l (x := b9) (v := b9.toInt64) hx hb (by decide +kernel) rfl ?_
  refine W.lcmp (x := f1 0) (y := b9.toInt64) hx hb (by decide +kernel) ?_
  have hcm : lg_cmp (f1 0) b9.toInt64 = 0 := by rw [hf hk1, he hk1]; exact lg_cmp_self
  refine lv_if_eq (off := 5) (tgt := 730) hx hb (by decide +kernel) (by decide) (fun _ => hend) (fun z => absurd hcm z)
set_option maxRecDepth 20000 in
set_option maxHeartbeats 4000000 in
theorem lc_planned (C : LX D cA p s m args c) (hl : l.stackTraces = false) (hX : va_X b L xs s s.heap) (hbl : b < s.heap.size) (hi : i + 4 < L) (hL : L ≤ 2560) (hW : LWd D ad cA s M o f H locs) (hg : gs M n j T) (hT : T + 5 < 2 ^ 31) (hl9 : lv_has ls 7 (lw_lv ad b o i)) (hc : cells ≤ 500000 ∧ slots ≤ 6000000) (kk : LK D ad cA p l e s m args below meth c Q cells slots b o i T) : W p l e room_1 s m args below meth c H locs cells slots Q (F0 m 733 ls []) := by
  have hx := C.1.1
  have hb := C.1.2.1
  have hK := C.2.2.1
  have hbA : ¬ (fun q : Nat => s.heap.size ≤ q) b := Nat.not_le.mpr hbl
  obtain ⟨M1, M2, k, r, b9, n', j', T', hT', hPB, s1, he, s2, g⟩ := st_planned (D := D) (ad := ad) (cA := cA) hl hg (sa xs i 1)
  have hl9 : lv_has ls 7 [(0, .ref b), (1, .ref (ad 0)), (2, .ref (ad 24)), (3, .ref o), (4, .int (nI i))] := hl9
  refine lv_aload_n (k := 1) hx hb (by decide +kernel) rfl (lv_at hl9 1 rfl) ?_
  refine lv_aload_n (k := 0) hx hb (by decide +kernel) rfl (lv_at hl9 0 rfl) ?_
  refine lv_iload (i := 4) hx hb (by decide +kernel) (lv_at hl9 4 rfl) ?_
  refine lv_iconst (n := 1) (v := nI 1) hx hb (by decide +kernel) (by decide) ?_
  refine lv_iadd hx hb (by decide +kernel) ?_
  refine va_sld hx hb hX hbl hbA hW.2.2.2 (sa_in (k := 1) hi (by decide) hL) (by decide +kernel) ?_
  refine lv_aload_n (k := 3) hx hb (by decide +kernel) rfl (lv_at hl9 3 rfl) ?_
  refine lw_out (as := [.inr (4, 0), .inl (sa xs i 1)]) (idx := 108) (n := 3) (rest := []) C hW (hp_planned hPB H.size) (ct_t3 (List.mem_of_getElem? (i := 102) rfl) rfl) (mm_3 (ct_t3 (List.mem_of_getElem? (i := 100) rfl) rfl) (ct_t3 (List.mem_of_getElem? (i := 101) rfl) rfl) (ct_t1 (List.mem_of_getElem? (i := 0) rfl) rfl)) (by decide +kernel) (by decide) rfl hl9.1 (by decide) ⟨by omega, by omega⟩ (by decide +kernel) (fun H1 locs1 f1 hW1 hf => ?_)
  refine lv_istore (i := 5) (lv' := [(5, .int k), (0, .ref b), (1, .ref (ad 0)), (2, .ref (ad 24)), (3, .ref o), (4, .int (nI i))]) hx hb (by decide +kernel) hl9 (by decide) rfl (fun ls hl9 => ?_)
  refine lv_aload_n (k := 2) hx hb (by decide +kernel) rfl (lv_at hl9 3 rfl) ?_
  refine lv_aload_n (k := 0) hx hb (by decide +kernel) rfl (lv_at hl9 1 rfl) ?_
  refine lv_iload (i := 4) hx hb (by decide +kernel) (lv_at hl9 5 rfl) ?_
  refine lv_iconst (n := 1) (v := nI 1) hx hb (by decide +kernel) (by decide) ?_
  refine lv_iadd hx hb (by decide +kernel) ?_
  refine va_sld hx hb hX hbl hbA hW1.2.2.2 (sa_in (k := 1) hi (by decide) hL) (by decide +kernel) ?_
  refine lw_model (z := 69) (idx := 110) (n := 1) (As := [.inl (sa xs i 1)]) (rest := []) C hW1 s1 (ok_ints (xs := [(sa xs i 1)])) (ct_t4 (List.mem_of_getElem? (i := 66) rfl) rfl) (mm_4 (ct_t4 (List.mem_of_getElem? (i := 63) rfl) rfl) (ct_t4 (List.mem_of_getElem? (i := 64) rfl) rfl) (ct_t4 (List.mem_of_getElem? (i := 65) rfl) rfl) (ct_t1 (List.mem_of_getElem? (i := 6) rfl) rfl)) (by decide +kernel) (by decide) rfl hl9.1 (Nat.le_of_ble_eq_true rfl) ⟨by omega, by omega⟩ (by decide +kernel) (fun H2 locs2 hW2 => ?_)
  refine lv_istore (i := 6) (lv' := [(6, .int b9), (5, .int k), (0, .ref b), (1, .ref (ad 0)), (2, .ref (ad 24)), (3, .ref o), (4, .int (nI i))]) hx hb (by decide +kernel) hl9 (by decide) rfl (fun ls hl9 => ?_)
  refine lv_aload_n (k := 2) hx hb (by decide +kernel) rfl (lv_at hl9 4 rfl) ?_
  refine lw_model (z := 33) (idx := 67) (n := 0) (As := []) (rest := []) C hW2 s2 (ok_ints (xs := [])) (ct_t3 (List.mem_of_getElem? (i := 162) rfl) rfl) (mm_4 (ct_t3 (List.mem_of_getElem? (i := 159) rfl) rfl) (ct_t3 (List.mem_of_getElem? (i := 160) rfl) rfl) (ct_t3 (List.mem_of_getElem? (i := 161) rfl) rfl) (ct_t1 (List.mem_of_getElem? (i := 6) rfl) rfl)) (by decide +kernel) (by decide) rfl hl9.1 (Nat.le_of_ble_eq_true rfl) ⟨by omega, by omega⟩ (by decide +kernel) (fun H3 locs3 hW3 => ?_)
  refine lv_iload (i := 5) hx hb (by decide +kernel) (lv_at hl9 1 rfl) ?_
  refine lv_icmp_eq (off := 5) (tgt := 769) hx hb (by decide +kernel) (by decide) (fun _ => ?_) (fun z => absurd rfl z)
  refine lv_iload (i := 5) hx hb (by decide +kernel) (lv_at hl9 1 rfl) ?_
  have hend : W p l e room_1 s m args below meth c H3 locs3 (cells + 1) (slots + 6) Q (F0 m 786 ls []) := by
    refine lv_goto (off := 3) (tgt := 789) hx hb (by decide +kernel) (by decide) ?_
    exact kk _ _ _ _ ls _ _ _ hT' g hW3 (lv_sub hl9 [2, 3, 4, 5, 6] rfl)
  refine lv_if_ne (off := 15) (tgt := 786) hx hb (by decide +kernel) (by decide) (fun _ => hend) (fun hk0 => ?_)
  have hk1 : k = 0 := hk0
  refine lv_aload_n (k := 3) hx hb (by decide +kernel) rfl (lv_at hl9 5 rfl) ?_
  refine lv_iconst (n := 0) (v := nI 0) hx hb (by decide +kernel) (by decide) ?_
  refine va_lald (n := 1) (f := f1) hx hb hK hW3.2.1 0 4 rfl rfl (vp_in_nI (n := 0) (N := 1) (by decide) (by decide)) (by decide +kernel) ?_
  refine lv_iload (i := 6) hx hb (by decide +kernel) (lv_at hl9 0 rfl) ?_
  refine lv_i2l (x := b9) (v := b9.toInt64) hx hb (by decide +kernel) rfl ?_
  refine W.lcmp (x := f1 0) (y := b9.toInt64) hx hb (by decide +kernel) ?_
  have hcm : lg_cmp (f1 0) b9.toInt64 = 0 := by rw [hf hk1, he hk1]; exact lg_cmp_self
  refine lv_if_eq (off := 5) (tgt := 786) hx hb (by decide +kernel) (by decide) (fun _ => hend) (fun z => absurd hcm z)
end LC
