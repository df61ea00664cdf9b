section MM3
variable {GW : List Cond} {NW : List mm_N} {D : va_G} {cl : List vw_C} {tys : List (ClassId × FieldType)} {ad : Nat → Nat} {cA : Nat → ClassId} {K : Nat → mm_K} {kd : Nat → Nat} {N : List Nat}
def mm_Pre (NW : List mm_N) (D : va_G) (cl : List vw_C) (tys : List (ClassId × FieldType)) (ad : Nat → Nat) (cA : Nat → ClassId) (K : Nat → mm_K) (kd : Nat → Nat) (N : List Nat) (M : mm_M) (as : List mm_V) (sz : Nat) : Array Value → State → Prop :=
  va_Pc (as.map (mm_v ad)) (fun U => U.heap.size = sz ∧ va_P D cl (mm_W ad cA K kd N M) U.heap ∧ va_K D cl tys U ∧ va_D (fun _ => True) (mm_W ad cA K kd N M) ∧ mm_nw NW U)
def mm_Post (D : va_G) (cl : List vw_C) (ad : Nat → Nat) (cA : Nat → ClassId) (K : Nat → mm_K) (kd : Nat → Nat) (N : List Nat) (r : Option Int32) (M : mm_M) (A : Nat → Prop) : Array Value → State → Outcome → State → Prop :=
  fun _ st oc t => (oc = .returned (r.map Value.int) ∧ va_P D cl (mm_W ad cA K kd N M) t.heap ∧ va_D A (mm_W ad cA K kd N M)) ∧ va_F A st t
def mm_rm (d : Nat) : Room := { frames := d, cells := 0, slots := 0, locals := 60 * d }
/-- the methods: name, code, locals, answer, class -/
abbrev mm_T : Type := (Nat → MethodName) × (Nat → ByteArray) × (Nat → Nat) × (Nat → Option FieldType)
def mm_ws (GW : List Cond) (T : mm_T) (z : Nat) : List Cond := Cond.code (T.1 z) (T.2.1 z) (T.2.2.1 z) (T.2.2.2 z) :: GW
def mm_Sound (GW : List Cond) (NW : List mm_N) (D : va_G) (cl : List vw_C) (tys : List (ClassId × FieldType)) (ad : Nat → Nat) (cA : Nat → ClassId) (K : Nat → mm_K) (kd : Nat → Nat) (N : List Nat) (l : Launch) (T : mm_T) (rm : Room) (S : mm_S) : Prop :=
  ∀ (z : Nat) (M : mm_M) (as : List mm_V) (r : Option Int32) (M' : mm_M) (sz : Nat), S z M as (r, M') → (∀ v ∈ as, mm_ok kd N v) →
    Met l (T.1 z) (mm_ws GW T z) rm (mm_Pre NW D cl tys ad cA K kd N M as sz) (mm_Post D cl ad cA K kd N r M' (va_A (mm_W ad cA K kd N M) sz)) 0 0 (va_A (mm_W ad cA K kd N M) sz)
theorem mm_nw_warm {s U : State} (hW : s.WarmedH U.vm) (h : mm_nw NW s) : mm_nw NW U := fun q hq => va_Nw.warmM hW (h q hq)
theorem mm_blind {M : mm_M} {as : List mm_V} {sz : Nat} : FrameBlind (mm_Pre NW D cl tys ad cA K kd N M as sz) := fun a U g mk q => by
  obtain ⟨q0, q1, qP, qK, qD, qN⟩ := q
  exact ⟨q0, q1, qP, va_K.moved (u := U) (U := U.calling g mk a) (Vm.Alike.refl U.vm) qK, qD, fun w hw => va_Nw.same rfl rfl (qN w hw)⟩
theorem mm_good {T : mm_T} {z : Nat} (hg : ∀ w ∈ GW, goodWord w = true) (hc : Cond.code (T.1 z) (T.2.1 z) (T.2.2.1 z) (T.2.2.2 z) ∈ GW) : GoodIn GW (mm_ws GW T z) := fun w hw => by
  rcases List.mem_cons.mp hw with h | h
  · rw [h]; exact ⟨hc, good_of_word (hg _ hc)⟩
  · exact ⟨h, good_of_word (hg _ h)⟩
theorem mm_goodA {T : mm_T} {z : Nat} {L : List Cond} (hg : ∀ w ∈ GW, goodWord w = true) (hc : Cond.code (T.1 z) (T.2.1 z) (T.2.2.1 z) (T.2.2.2 z) ∈ GW) (hL : ∀ w ∈ L, w ∈ GW) : GoodIn GW (L ++ mm_ws GW T z) := fun w hw => by
  rcases List.mem_append.mp hw with h | h
  · exact ⟨hL w h, good_of_word (hg _ (hL w h))⟩
  · exact mm_good hg hc w h
section RUN
variable {p : Program} {l : Launch} {e : Env} {R : Room} {s : State} {m : MethodId} {args : Array Value} {below : List Frame} {meth : Method} {c : Code} {H : Heap} {locs : List Loc} {cells slots : Nat} {Q : State → Prop}
variable {pc : Nat} {ls : Array Slot} {rest st0 : List Value} {a : Array Value} {A0 A1 : Nat → Prop} {H0 : Heap} {free : Addr → Prop}
theorem mm_run {r : Option Int32} {M' : mm_M} (hr : va_Run p l e R s m args below meth c H locs cells slots 0 0 (F0 m pc ls st0) rest (mm_Post D cl ad cA K kd N r M' A1 a) free) (hS : va_S A0 H0 H locs) (hA : ∀ q, q < H.size → A1 q → A0 q) (hf : ∀ q, free q → A0 q)
    (kk : ∀ (H1 : Heap) (locs1 : List Loc), va_P D cl (mm_W ad cA K kd N M') H1 → va_D A1 (mm_W ad cA K kd N M') → va_S A0 H0 H1 locs1 → W p l e R s m args below meth c H1 locs1 cells slots Q (F0 m (pc + 3) ls ((r.map Value.int).toList ++ rest))) : W p l e R s m args below meth c H locs cells slots Q (F0 m pc ls st0) := by
  intro T hT X
  obtain ⟨v, st₀, t, T', L, h0, X', hL, e1, e2, ⟨⟨hv, hp, hb⟩, hz, hk⟩, st⟩ := hr T hT X
  cases hv
  rw [h0] at hz hk
  obtain ⟨t2, a1, b1⟩ := kk T'.heap (locs ++ L) (by rw [e1]; exact hp) hb
    ⟨Nat.le_trans hS.1 (by rw [e1]; exact hz), fun q h1 h2 => by rw [e1, hk q (Nat.lt_of_lt_of_le h1 hS.1) (fun z => h2 (hA q (Nat.lt_of_lt_of_le h1 hS.1) z))]; exact hS.2.1 q h1 h2, fun q hq => by
      rcases List.mem_append.mp hq with h | h
      · exact hS.2.2 q h
      · exact hf _ (hL q h)⟩ T' rfl X'
  exact ⟨t2, st t2 a1, b1⟩
end RUN
theorem mm_in {A : Nat → Prop} {M : mm_M} {H0 H : Heap} {locs : List Loc} (hD : va_D A (mm_W ad cA K kd N M)) (hS : va_S A H0 H locs) (hA : ∀ q, H0.size ≤ q → A q) : ∀ q, va_A (mm_W ad cA K kd N M) H.size q → A q := fun q h => by
  rcases h with ⟨k, e, h⟩ | h
  · exact hD.2 k _ h
  · exact hA q (Nat.le_trans hS.1 h)
variable {l : Launch} {R : Room} {own : String} {cc : ByteArray} {nL pc : Nat} {S : mm_S} {T : mm_T} {rm : Room}
theorem mm_split {st As : List mm_V} {q : mm_V} {n : Nat} (h : (st.take n).reverse = q :: As) : st = As.reverse ++ q :: st.drop n := by
  have h1 : st.take n = (q :: As).reverse := by rw [← h, List.reverse_reverse]
  have h2 := List.take_append_drop n st
  rw [h1] at h2
  simpa using h2.symm
theorem mm_split0 {st As : List mm_V} {n : Nat} (h : (st.take n).reverse = As) : st = As.reverse ++ st.drop n := by
  rw [← h, List.reverse_reverse, List.take_append_drop]
set_option maxHeartbeats 1000000 in
theorem ok_callV {ci idx z n Nf : Nat} {C : String} {Tb : u_T} (hc : cl[ci]? = some (C, Tb, Nf)) (hS : mm_Sound GW NW D cl tys ad cA K kd N l T rm S) (hrm : rm.cells = 0 ∧ rm.slots = 0) (hR : rm.frames + 1 ≤ R.frames ∧ 8 + (T.2.2.1 z + 11) + rm.locals ≤ R.locals) {F : List (Option (Nat × Nat))} (hF : K ci = .inl F)
    (hg : ∀ w ∈ GW, goodWord w = true) (hcd : Cond.code (T.1 z) (T.2.1 z) (T.2.2.1 z) (T.2.2.2 z) ∈ GW) (hw : ∀ w ∈ [Cond.methodLink own idx (T.1 z), .instanceMethod (T.1 z), .selects C (T.1 z) (T.1 z), .initialized C], w ∈ GW)
    (hd : (T.1 z).cls = C ∧ (T.1 z).cls ≠ "java/lang/invoke/MethodHandle" ∧ (T.1 z).cls ≠ "java/lang/invoke/VarHandle" ∧ (parseMethodDescriptor (T.1 z).desc).map (fun d => d.parameters.length) = some n) (d : decode cc pc = .ok (.invokevirtual idx, 3)) :
    mm_Ok GW NW D cl tys ad cA K kd N l R own cc nL S pc (mi_call z (n + 1) (some ci)) := by
  intro p e s m args below meth c A cells slots Q X o g g' P hpc hf hP9 hG h1 h2 H locs ls hP hD hS9 hL
  obtain ⟨M, pc', gl, st⟩ := g
  simp only at hpc
  subst hpc
  obtain ⟨⟨hx, hb, hml, hown⟩, hts, hnw, hK, hlay, hA, hlk, hcl, hsl⟩ := X
  simp only at h1 h2 hP hD hL
  obtain ⟨w, r, M'⟩ := o
  obtain ⟨rfl, rfl⟩ := Prod.mk.inj (Option.some.inj hf)
  obtain ⟨hSem, hn, hrest, i, hhd⟩ := hP9
  simp only at hSem hn hrest hhd
  cases has : (st.take (n + 1)).reverse with
  | nil => rw [has] at hhd; simp at hhd
  | cons q As =>
    rw [has] at hhd hSem
    have hq : q = .inr (ci, i) := by simpa using hhd
    subst hq
    have hst := mm_split has
    have hlen : As.length = n := by
      have h3 := congrArg List.length has
      simp at h3
      omega
    have hval : ∀ v ∈ ((.inr (ci, i) : mm_V) :: As), mm_ok kd N v := fun v hv => h1 v (by
      have : v ∈ (st.take (n + 1)).reverse := by rw [has]; exact hv
      exact List.mem_of_mem_take (List.mem_reverse.mp this))
    obtain ⟨hi, hkd⟩ := sk_h hval
    obtain ⟨q0, hq0, he⟩ := mm_W_get (ad := ad) (cA := cA) (K := K) (kd := kd) (M := M) hi
    rw [hkd, mm_E_obj hF] at he
    have hM := hS z M (.inr (ci, i) :: As) r M' H.size hSem hval
    have hin := mm_in hD hS9 hA
    have hroom : ((((st.drop (n + 1)).map (mm_v ad)).map fun v => v.category)).sum ≤ 8 := by rw [mm_sum]; exact hrest
    have hstk : st.map (mm_v ad) = (As.map (mm_v ad)).reverse ++ Value.ref (ad i) :: (st.drop (n + 1)).map (mm_v ad) := by
      conv => lhs; rw [hst]
      simp [mm_v]
    refine mm_run (va_runV (As := As.map (mm_v ad)) (rest := (st.drop (n + 1)).map (mm_v ad)) (b := ad i) ⟨hx, hb, hml, hown, hts⟩ hM (cwV n hts (mm_goodA hg hcd hw) rfl hrm.1 hrm.2 hd hR) ⟨mm_blind, va_recv hK hP hc he, fun U hU hW => ⟨rfl, by rw [hU], by rw [hU]; exact hP, va_K.moved hW.alike hK, hD.weaken (fun _ _ _ _ => trivial), mm_nw_warm hW hnw⟩⟩ rfl (by simp [hlen]) hL.1 hstk (lv_room hroom) d ⟨hcl, hsl⟩) hS9 (fun q _ h => hin q h) hin (fun H1 locs1 hP1 hD1 hS1 => ?_)
    have hk := hG (by
      cases r with
      | none => exact fun v hv => h1 v (List.mem_of_mem_drop hv)
      | some r => exact sk_i (fun v hv => h1 v (List.mem_of_mem_drop hv))) h2 H1 locs1 ls hP1 (hD1.weaken (fun _ q _ h => hin q.1 h)) hS1 hL
    cases r with
    | none => exact hk
    | some r => exact hk
set_option maxHeartbeats 1000000 in
theorem ok_callS {idx z n : Nat} (hS : mm_Sound GW NW D cl tys ad cA K kd N l T rm S) (hrm : rm.cells = 0 ∧ rm.slots = 0) (hR : rm.frames + 1 ≤ R.frames ∧ 8 + (T.2.2.1 z + 11) + rm.locals ≤ R.locals)
    (hg : ∀ w ∈ GW, goodWord w = true) (hcd : Cond.code (T.1 z) (T.2.1 z) (T.2.2.1 z) (T.2.2.2 z) ∈ GW) (hw : ∀ w ∈ [Cond.methodLink own idx (T.1 z), .static (T.1 z), .initialized (T.1 z).cls], w ∈ GW)
    (hd : (T.1 z).cls ≠ "java/lang/invoke/MethodHandle" ∧ (T.1 z).cls ≠ "java/lang/invoke/VarHandle" ∧ (parseMethodDescriptor (T.1 z).desc).map (fun d => d.parameters.length) = some n) (d : decode cc pc = .ok (.invokestatic idx, 3)) :
    mm_Ok GW NW D cl tys ad cA K kd N l R own cc nL S pc (mi_call z n none) := by
  intro p e s m args below meth c A cells slots Q X o g g' P hpc hf hP9 hG h1 h2 H locs ls hP hD hS9 hL
  obtain ⟨M, pc', gl, st⟩ := g
  simp only at hpc
  subst hpc
  obtain ⟨⟨hx, hb, hml, hown⟩, hts, hnw, hK, hlay, hA, hlk, hcl, hsl⟩ := X
  simp only at h1 h2 hP hD hL
  obtain ⟨w, r, M'⟩ := o
  obtain ⟨rfl, rfl⟩ := Prod.mk.inj (Option.some.inj hf)
  obtain ⟨hSem, hn, hrest, -⟩ := hP9
  simp only at hSem hn hrest
  generalize has : (st.take n).reverse = As at hSem
  have hst := mm_split0 has
  have hlen : As.length = n := by
    have h3 := congrArg List.length has
    simp at h3
    omega
  have hval : ∀ v ∈ As, mm_ok kd N v := fun v hv => h1 v (by
    have : v ∈ (st.take n).reverse := by rw [has]; exact hv
    exact List.mem_of_mem_take (List.mem_reverse.mp this))
  have hM := hS z M As r M' H.size hSem hval
  have hin := mm_in hD hS9 hA
  have hroom : ((((st.drop n).map (mm_v ad)).map fun v => v.category)).sum ≤ 8 := by rw [mm_sum]; exact hrest
  have hstk : st.map (mm_v ad) = (As.map (mm_v ad)).reverse ++ (st.drop n).map (mm_v ad) := by
    conv => lhs; rw [hst]
    simp
  refine mm_run (va_runS (As := As.map (mm_v ad)) (rest := (st.drop n).map (mm_v ad)) ⟨hx, hb, hml, hown, hts⟩ hM (va_cwS n hts (mm_goodA hg hcd hw) rfl hrm.1 hrm.2 hd hR) ⟨mm_blind, fun U hU hW => ⟨rfl, by rw [hU], by rw [hU]; exact hP, va_K.moved hW.alike hK, hD.weaken (fun _ _ _ _ => trivial), mm_nw_warm hW hnw⟩⟩ rfl (by simp [hlen]) hL.1 hstk (lv_room hroom) d ⟨hcl, hsl⟩) hS9 (fun q _ h => hin q h) hin (fun H1 locs1 hP1 hD1 hS1 => ?_)
  have hk := hG (by
    cases r with
    | none => exact fun v hv => h1 v (List.mem_of_mem_drop hv)
    | some r => exact sk_i (fun v hv => h1 v (List.mem_of_mem_drop hv))) h2 H1 locs1 ls hP1 (hD1.weaken (fun _ q _ h => hin q.1 h)) hS1 hL
  cases r with
  | none => exact hk
  | some r => exact hk
set_option maxHeartbeats 1000000 in
theorem ok_callN {idx z n : Nat} {host : String} (hS : mm_Sound GW NW D cl tys ad cA K kd N l T rm S) (hrm : rm.cells = 0 ∧ rm.slots = 0) (hR : rm.frames + 1 ≤ R.frames ∧ 8 + (T.2.2.1 z + 11) + rm.locals ≤ R.locals)
    (hg : ∀ w ∈ GW, goodWord w = true) (hcd : Cond.code (T.1 z) (T.2.1 z) (T.2.2.1 z) (T.2.2.2 z) ∈ GW) (hw : ∀ w ∈ [Cond.static (T.1 z), .initialized (T.1 z).cls], w ∈ GW) (hnw9 : (own, idx, T.1 z, host) ∈ NW)
    (hd : (T.1 z).cls ≠ "java/lang/invoke/MethodHandle" ∧ (T.1 z).cls ≠ "java/lang/invoke/VarHandle" ∧ (parseMethodDescriptor (T.1 z).desc).map (fun d => d.parameters.length) = some n) (d : decode cc pc = .ok (.invokestatic idx, 3)) :
    mm_Ok GW NW D cl tys ad cA K kd N l R own cc nL S pc (mi_call z n none) := by
  intro p e s m args below meth c A cells slots Q X o g g' P hpc hf hP9 hG h1 h2 H locs ls hP hD hS9 hL
  obtain ⟨M, pc', gl, st⟩ := g
  simp only at hpc
  subst hpc
  obtain ⟨⟨hx, hb, hml, hown⟩, hts, hnw, hK, hlay, hA, hlk, hcl, hsl⟩ := X
  simp only at h1 h2 hP hD hL
  obtain ⟨w, r, M'⟩ := o
  obtain ⟨rfl, rfl⟩ := Prod.mk.inj (Option.some.inj hf)
  obtain ⟨hSem, hn, hrest, -⟩ := hP9
  simp only at hSem hn hrest
  generalize has : (st.take n).reverse = As at hSem
  have hst := mm_split0 has
  have hlen : As.length = n := by
    have h3 := congrArg List.length has
    simp at h3
    omega
  have hval : ∀ v ∈ As, mm_ok kd N v := fun v hv => h1 v (by
    have : v ∈ (st.take n).reverse := by rw [has]; exact hv
    exact List.mem_of_mem_take (List.mem_reverse.mp this))
  have hM := hS z M As r M' H.size hSem hval
  have hin := mm_in hD hS9 hA
  have hroom : ((((st.drop n).map (mm_v ad)).map fun v => v.category)).sum ≤ 8 := by rw [mm_sum]; exact hrest
  have hstk : st.map (mm_v ad) = (As.map (mm_v ad)).reverse ++ (st.drop n).map (mm_v ad) := by
    conv => lhs; rw [hst]
    simp
  refine mm_run (va_runSN (As := As.map (mm_v ad)) (rest := (st.drop n).map (mm_v ad)) ⟨hx, hb, hml, hown, hts⟩ hM ⟨va_cnB n hts (mm_good hg hcd) rfl hrm.1 hrm.2 (hnw _ hnw9) (hts _ (hw _ (List.mem_cons_of_mem _ List.mem_cons_self))) hd hR, hts _ (hw _ List.mem_cons_self), trivial⟩ ⟨mm_blind, fun U hU hW => ⟨rfl, by rw [hU], by rw [hU]; exact hP, va_K.moved hW.alike hK, hD.weaken (fun _ _ _ _ => trivial), mm_nw_warm hW hnw⟩⟩ rfl (by simp [hlen]) hL.1 hstk (lv_room hroom) d ⟨hcl, hsl⟩) hS9 (fun q _ h => hin q h) hin (fun H1 locs1 hP1 hD1 hS1 => ?_)
  have hk := hG (by
    cases r with
    | none => exact fun v hv => h1 v (List.mem_of_mem_drop hv)
    | some r => exact sk_i (fun v hv => h1 v (List.mem_of_mem_drop hv))) h2 H1 locs1 ls hP1 (hD1.weaken (fun _ q _ h => hin q.1 h)) hS1 hL
  cases r with
  | none => exact hk
  | some r => exact hk
end MM3
