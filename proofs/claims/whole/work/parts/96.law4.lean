/-! THE LAW'S BODY: calls -/
theorem mo_blind {D : va_G} {ad : Nat → Nat} {cA : Nat → ClassId} {M : mm_M} {as : List mm_V} {o sz : Nat} {f : Nat → Int64} : FrameBlind (mo_Pre D ad cA M as o f sz) := fun a U g mk q => by
  obtain ⟨q0, q1, q2, q3, q4, q5, q6, q7, q8⟩ := q
  exact ⟨q0, q1, q2, q3, va_K.moved (u := U) (U := U.calling g mk a) (Vm.Alike.refl U.vm) q4, q5, fun w hw => va_Nw.same rfl rfl (q6 w hw), mx_same rfl q7, q8.moved (u := U) (U := U.calling g mk a) (Vm.Alike.refl U.vm)⟩
theorem lw_good {w0 : Cond} {L : List Cond} (h0 : w0 ∈ ct_GW) (hL : ∀ w ∈ L, w ∈ ct_GW) : GoodIn ct_GW (L ++ w0 :: ct_GW) := fun w hw => by
  have hm : w ∈ ct_GW := by
    rcases List.mem_append.mp hw with h | h
    · exact hL w h
    · rcases List.mem_cons.mp h with rfl | h
      · exact h0
      · exact h
  exact ⟨hm, good_of_word (ct_good w hm)⟩
section LW
variable {D : va_G} {ad : Nat → Nat} {cA : Nat → ClassId} {l : Launch} {p : Program} {e : Env} {s : State} {m : MethodId} {args : Array Value} {below : List Frame} {meth : Method} {c : Code} {H : Heap} {locs : List Loc} {Q : State → Prop} {pc cells slots : Nat} {ls : Array Slot} {rest : List Value} {M M' : mm_M} {o : Nat} {f : Nat → Int64}
/-- what stands while the law runs -/
def LX (D : va_G) (cA : Nat → ClassId) (p : Program) (s : State) (m : MethodId) (args : Array Value) (c : Code) : Prop := (p.tables.exec = Jvm.exec ∧ c.code = code ∧ c.maxLocals = 7 ∧ s.vm.findClass "CraneTurnsLaw" = some m.cls) ∧ (∀ w ∈ ct_GW, w.before args s = true) ∧ va_K D ct_cl (ct_tys cA) s ∧ mm_nw ct_NW s ∧ mx_cx cu_XS s ∧ mx_st (fun q : Nat => s.heap.size ≤ q) s s.heap
/-- the world between two calls -/
def LWd (D : va_G) (ad : Nat → Nat) (cA : Nat → ClassId) (s : State) (M : mm_M) (o : Nat) (f : Nat → Int64) (H : Heap) (locs : List Loc) : Prop := va_P D ct_cl (ct_W ad cA M) H ∧ va_P D ct_cl [(o, mo_E cA f)] H ∧ va_D (fun q : Nat => s.heap.size ≤ q) (ct_W ad cA M ++ [(o, mo_E cA f)]) ∧ va_S (fun q : Nat => s.heap.size ≤ q) s.heap H locs
theorem lw_in (h : LWd D ad cA s M o f H locs) : ∀ q, va_A (ct_W ad cA M) H.size q → s.heap.size ≤ q := fun q z => by
  rcases z with ⟨k, e, z⟩ | z
  · exact h.2.2.1.2 k (q, e) (mo_in (ct_W_lt z) z)
  · exact Nat.le_trans h.2.2.2.1 z
theorem lw_in2 (h : LWd D ad cA s M o f H locs) : ∀ q, va_A (ct_W ad cA M ++ [(o, mo_E cA f)]) H.size q → s.heap.size ≤ q := fun q z => by
  rcases z with ⟨k, e, z⟩ | z
  · exact h.2.2.1.2 k (q, e) z
  · exact Nat.le_trans h.2.2.2.1 z
set_option maxHeartbeats 1000000 in
theorem lw_void (C : LX D cA p s m args c) (hW : LWd D ad cA s M o f H locs) {y : MethodName} {cc : ByteArray} {mx idx n : Nat} {hh : List (Nat × Nat × Nat × Nat)} {as : List mm_V} {k : Int32}
    (hM : Met l y (Cond.codeWith y cc mx (some .int) hh :: ct_GW) hl_rm (mx_Pre cu_XS ct_NW D ct_cl (ct_tys cA) ad cA ct_K ct_kd ct_N M as H.size) (mm_Post D ct_cl ad cA ct_K ct_kd ct_N (some k) M' (va_A (ct_W ad cA M) H.size)) 1 6 (va_A (ct_W ad cA M) H.size))
    (h0 : Cond.codeWith y cc mx (some .int) hh ∈ ct_GW) (hw : ∀ w ∈ [Cond.methodLink "CraneTurnsLaw" idx y, .static y, .initialized y.cls], w ∈ ct_GW) (hd : y.cls ≠ "java/lang/invoke/MethodHandle" ∧ y.cls ≠ "java/lang/invoke/VarHandle" ∧ (parseMethodDescriptor y.desc).map (fun d => d.parameters.length) = some n) (hmx : mx ≤ 30) (han : as.length = n) (hls : ls.size = 7)
    (hr : (rest.map fun v => v.category).sum ≤ 8) (hc : cells ≤ 600000 ∧ slots ≤ 7000000) (d : decode code pc = .ok (.invokestatic idx, 3))
    (kk : ∀ (H1 : Heap) (locs1 : List Loc), LWd D ad cA s M' o f H1 locs1 → W p l e room_1 s m args below meth c H1 locs1 (cells + 1) (slots + 6) Q (F0 m (pc + 3) ls (.int k :: rest))) :
    W p l e room_1 s m args below meth c H locs cells slots Q (F0 m pc ls ((as.map (mm_v ad)).reverse ++ rest)) := by
  obtain ⟨⟨hx, hb, hml, hown⟩, hg, hK, hnw, hcx, hst⟩ := C
  have hin := lw_in hW
  obtain ⟨hP, hPo, hDD, hS⟩ := hW
  have ho := mo_o (sz := 0) hP hPo hDD
  have hD := mo_Dl hDD
  refine mm_runF (M := M) (vx_runSW (As := as.map (mm_v ad)) (rest := rest) (hh := hh) ⟨hx, hb, hml, hown, hg⟩ hM (vx_cwSW n hg (lw_good h0 hw) rfl rfl rfl hd ⟨by decide, by show 8 + (mx + 11) + 840 ≤ 84000; omega⟩) ⟨mx_blind, fun U hU hW => ⟨⟨rfl, by rw [hU], by rw [hU]; exact hP, va_K.moved hW.alike hK, hD.weaken (fun _ _ _ _ => trivial), mm_nw_warm hW hnw⟩, mx_warm hW hcx, by rw [hU]; exact ((hst.kept hS.2.1).narrow hin).moved hW.alike⟩⟩ rfl (by simp [han]) hls rfl (lv_room hr) d ⟨by show cells + 1 ≤ 655870; omega, by show slots + 6 ≤ 7128494; omega⟩) hS hin (fun H1 locs1 h1 h2 h3 h4 => ?_)
  exact kk H1 locs1 ⟨h3, hPo.kept (mo_kept ho h2), mo_D hDD, h4⟩
set_option maxHeartbeats 1000000 in
theorem lw_model (C : LX D cA p s m args c) (hW : LWd D ad cA s M o f H locs) {z idx n : Nat} {As : List mm_V} {r : Option Int32} (hSem : ct_Sem 12 z M (.inr (5, 24) :: As) (r, M')) (hok : ∀ v ∈ As, mm_ok ct_kd ct_N v)
    (hcd : Cond.code (ct_T.1 z) (ct_T.2.1 z) (ct_T.2.2.1 z) (ct_T.2.2.2 z) ∈ ct_GW) (hw : ∀ w ∈ [Cond.methodLink "CraneTurnsLaw" idx (ct_T.1 z), .instanceMethod (ct_T.1 z), .selects "CraneTurnsModel" (ct_T.1 z) (ct_T.1 z), .initialized "CraneTurnsModel"], w ∈ ct_GW)
    (hd : (ct_T.1 z).cls = "CraneTurnsModel" ∧ (ct_T.1 z).cls ≠ "java/lang/invoke/MethodHandle" ∧ (ct_T.1 z).cls ≠ "java/lang/invoke/VarHandle" ∧ (parseMethodDescriptor (ct_T.1 z).desc).map (fun d => d.parameters.length) = some n) (hmx : ct_T.2.2.1 z ≤ 30) (han : As.length = n) (hls : ls.size = 7)
    (hr : (rest.map fun v => v.category).sum ≤ 8) (hc : cells ≤ 600000 ∧ slots ≤ 7000000) (d : decode code pc = .ok (.invokevirtual idx, 3))
    (kk : ∀ (H1 : Heap) (locs1 : List Loc), LWd D ad cA s M' o f H1 locs1 → W p l e room_1 s m args below meth c H1 locs1 cells slots Q (F0 m (pc + 3) ls ((r.map Value.int).toList ++ rest))) :
    W p l e room_1 s m args below meth c H locs cells slots Q (F0 m pc ls ((As.map (mm_v ad)).reverse ++ Value.ref (ad 24) :: rest)) := by
  obtain ⟨⟨hx, hb, hml, hown⟩, hg, hK, hnw, hcx, hst⟩ := C
  have hin := lw_in hW
  obtain ⟨hP, hPo, hDD, hS⟩ := hW
  have ho := mo_o (sz := 0) hP hPo hDD
  have hD := mo_Dl hDD
  have h24 : (24 : Nat) ∈ ct_N := by decide
  obtain ⟨q0, hq0, he⟩ := mm_W_get (ad := ad) (cA := cA) (K := ct_K) (kd := ct_kd) (M := M) h24
  have hM := ct_sound (D := D) (ad := ad) (cA := cA) (l := l) 12 z M (.inr (5, 24) :: As) r M' H.size hSem (fun v hv => by
    rcases List.mem_cons.mp hv with rfl | hv
    · exact ⟨by decide, by decide⟩
    · exact hok v hv)
  refine mm_runF (M := M) (mc := 0) (ms := 0) (va_runV (As := As.map (mm_v ad)) (rest := rest) (b := ad 24) ⟨hx, hb, hml, hown, hg⟩ hM (cwV n hg (mm_goodA ct_good hcd hw) rfl rfl rfl hd ⟨by decide, by show 8 + (ct_T.2.2.1 z + 11) + 60 * 12 ≤ 84000; omega⟩) ⟨mm_blind, va_recv hK hP (ci := 5) rfl he, fun U hU hW => ⟨rfl, by rw [hU], by rw [hU]; exact hP, va_K.moved hW.alike hK, hD.weaken (fun _ _ _ _ => trivial), mm_nw_warm hW hnw⟩⟩ rfl (by simp [han]) hls rfl (lv_room hr) d ⟨by show cells + 0 ≤ 655870; omega, by show slots + 0 ≤ 7128494; omega⟩) hS hin (fun H1 locs1 h1 h2 h3 h4 => ?_)
  exact kk H1 locs1 ⟨h3, hPo.kept (mo_kept ho h2), mo_D hDD, h4⟩
set_option maxHeartbeats 1000000 in
theorem lw_out (C : LX D cA p s m args c) (hW : LWd D ad cA s M o f H locs) {y : MethodName} {cc : ByteArray} {mx idx n : Nat} {hh : List (Nat × Nat × Nat × Nat)} {as : List mm_V} {k r : Int32}
    (hM : Met l y (Cond.codeWith y cc mx (some .int) hh :: ct_GW) hl_rm (mo_Pre D ad cA M as o f H.size) (mo_Post D ad cA k r M' o (va_A (ct_W ad cA M ++ [(o, mo_E cA f)]) H.size)) 1 6 (va_A (ct_W ad cA M ++ [(o, mo_E cA f)]) H.size))
    (h0 : Cond.codeWith y cc mx (some .int) hh ∈ ct_GW) (hw : ∀ w ∈ [Cond.methodLink "CraneTurnsLaw" idx y, .static y, .initialized y.cls], w ∈ ct_GW) (hd : y.cls ≠ "java/lang/invoke/MethodHandle" ∧ y.cls ≠ "java/lang/invoke/VarHandle" ∧ (parseMethodDescriptor y.desc).map (fun d => d.parameters.length) = some n) (hmx : mx ≤ 30) (han : as.length + 1 = n) (hls : ls.size = 7)
    (hr : (rest.map fun v => v.category).sum ≤ 8) (hc : cells ≤ 600000 ∧ slots ≤ 7000000) (d : decode code pc = .ok (.invokestatic idx, 3))
    (kk : ∀ (H1 : Heap) (locs1 : List Loc) (f' : Nat → Int64), LWd D ad cA s M' o f' H1 locs1 → (k = 0 → f' 0 = r.toInt64) → W p l e room_1 s m args below meth c H1 locs1 (cells + 1) (slots + 6) Q (F0 m (pc + 3) ls (.int k :: rest))) :
    W p l e room_1 s m args below meth c H locs cells slots Q (F0 m pc ls (Value.ref o :: ((as.map (mm_v ad)).reverse ++ rest))) := by
  obtain ⟨⟨hx, hb, hml, hown⟩, hg, hK, hnw, hcx, hst⟩ := C
  have hin := lw_in2 hW
  obtain ⟨hP, hPo, hDD, hS⟩ := hW
  have hr9 := vx_runSW (l := l) (e := e) (R := room_1) (below := below) (meth := meth) (H := H) (locs := locs) (cells := cells) (slots := slots) (g := F0 m pc ls (Value.ref o :: ((as.map (mm_v ad)).reverse ++ rest))) (As := as.map (mm_v ad) ++ [Value.ref o]) (rest := rest) (hh := hh) ⟨hx, hb, hml, hown, hg⟩ hM (vx_cwSW n hg (lw_good h0 hw) rfl rfl rfl hd ⟨by decide, by show 8 + (mx + 11) + 840 ≤ 84000; omega⟩) ⟨mo_blind, fun U hU hW => ⟨rfl, by rw [hU], by rw [hU]; exact hP, by rw [hU]; exact hPo, va_K.moved hW.alike hK, hDD.weaken (fun _ _ _ _ => trivial), mm_nw_warm hW hnw, mx_warm hW hcx, by rw [hU]; exact ((hst.kept hS.2.1).narrow hin).moved hW.alike⟩⟩ rfl (by simp [han]) hls (by simp [F0]) (lv_room hr) d ⟨by show cells + 1 ≤ 655870; omega, by show slots + 6 ≤ 7128494; omega⟩
  intro T hT X
  obtain ⟨v, st₀, t, T', L, h0', X', hL, e1, e2, ⟨⟨hv, hp, f', hpo, hf⟩, hz, hk⟩, st⟩ := hr9 T hT X
  cases hv
  rw [h0'] at hz hk
  obtain ⟨t2, a1, b1⟩ := kk T'.heap (locs ++ L) f' ⟨by rw [e1]; exact hp, by rw [e1]; exact hpo, mo_D hDD, ⟨Nat.le_trans hS.1 (by rw [e1]; exact hz), fun q h1 h2 => by rw [e1, hk q (Nat.lt_of_lt_of_le h1 hS.1) (fun z => h2 (hin q z))]; exact hS.2.1 q h1 h2, fun q hq => by
      rcases List.mem_append.mp hq with h | h
      · exact hS.2.2 q h
      · exact hin _ (hL q h)⟩⟩ hf T' rfl X'
  exact ⟨t2, st t2 a1, b1⟩
end LW
