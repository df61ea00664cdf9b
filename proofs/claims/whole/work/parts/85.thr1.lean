/-! METHODS THAT THROW: rows over the mini machine -/
/-- the words that a throw and its catching need beside the good ones -/
def ct_E : List String := ["java/lang/IllegalStateException", "java/lang/IllegalArgumentException", "java/lang/IndexOutOfBoundsException", "java/lang/UnsupportedOperationException"]
def ct_XD : List MethodName := [⟨"java/lang/RuntimeException", "<init>", "(Ljava/lang/String;)V"⟩, ⟨"java/lang/Exception", "<init>", "(Ljava/lang/String;)V"⟩, ⟨"java/lang/Throwable", "<init>", "(Ljava/lang/String;)V"⟩]
def mx_cx (XS : List (String × Nat × String)) (U : State) : Prop := (∀ q ∈ ct_E, va_Nw (.castable q q) U) ∧ (∀ x ∈ ct_XD, va_Nw (.declares x) U) ∧ (∀ q ∈ ct_E, ∀ q' ∈ ct_E, q ≠ q' → va_Nc q q' U) ∧ ∀ q ∈ XS, ∃ sa, vk_R q.1 q.2.1 q.2.2 sa U
theorem mx_warm {XS : List (String × Nat × String)} {s U : State} (hW : s.WarmedH U.vm) (h : mx_cx XS s) : mx_cx XS U :=
  ⟨fun q hq => va_Nw.warmC hW (h.1 q hq), fun x hx => va_Nw.warmD hW (h.2.1 x hx), fun q hq q' hq' hn => va_Nc.moved hW.alike (h.2.2.1 q hq q' hq' hn), fun q hq => by
    obtain ⟨sa, hs⟩ := h.2.2.2 q hq
    exact ⟨sa, vk_R.warm hW hs⟩⟩
theorem mx_same {XS : List (String × Nat × String)} {s U : State} (hv : U.vm = s.vm) (h : mx_cx XS s) : mx_cx XS U :=
  ⟨fun q hq => va_Nw.same rfl hv.symm (h.1 q hq), fun x hx => va_Nw.same rfl hv.symm (h.2.1 x hx), fun q hq q' hq' hn => va_Nc.moved (by rw [hv]; exact Vm.Alike.refl _) (h.2.2.1 q hq q' hq' hn), fun q hq => by
    obtain ⟨sa, hs⟩ := h.2.2.2 q hq
    exact ⟨sa, vk_R.same hv hs⟩⟩
/-- the two statics of Throwable, outside of A -/
def mx_st (A : Nat → Prop) (U : State) (H : Heap) : Prop := vx_Zq Bundle.tN "UNASSIGNED_STACK" Bundle.steD A U H ∧ vx_Zq Bundle.tN "SUPPRESSED_SENTINEL" Bundle.listD A U H
theorem mx_st.moved {A : Nat → Prop} {u U : State} {H : Heap} (hvm : u.vm.Alike U.vm) (h : mx_st A u H) : mx_st A U H := ⟨vx_Zq.moved hvm h.1, vx_Zq.moved hvm h.2⟩
theorem mx_st.kept {A : Nat → Prop} {U : State} {H H1 : Heap} (h : mx_st A U H) (hq : ∀ a : Nat, a < H.size → ¬ A a → H1[a]? = H[a]?) : mx_st A U H1 := ⟨vx_Zq.kept h.1 hq, vx_Zq.kept h.2 hq⟩
theorem mx_st.narrow {A B : Nat → Prop} {U : State} {H : Heap} (h : mx_st A U H) (hAB : ∀ q, B q → A q) : mx_st B U H := ⟨vx_Zq.narrow h.1 hAB, vx_Zq.narrow h.2 hAB⟩
theorem vaP_kept {D : va_G} {cl : List vw_C} {ws : va_W} {H H1 : Heap} (h : va_P D cl ws H) (hk : ∀ (k : Nat) (q : Nat × va_E), ws[k]? = some q → H1[q.1]? = H[q.1]?) : va_P D cl ws H1 := fun k q hq => by
  have h1 := h k q hq
  have h2 := hk k q hq
  obtain ⟨a, v⟩ := q
  cases v with
  | inl a9 => exact h2.trans h1
  | inr o =>
    obtain ⟨r, e1, e2⟩ := h1
    refine ⟨r, e1, ?_⟩
    unfold t_OB at e2 ⊢
    rw [h2]
    exact e2
section MX
variable {GW : List Cond} {NW : List mm_N} {D : va_G} {cl : List vw_C} {tys : List (ClassId × FieldType)} {ad : Nat → Nat} {cA : Nat → ClassId} {K : Nat → mm_K} {kd : Nat → Nat} {N : List Nat}
variable {l : Launch} {R : Room} {own : String} {cc : ByteArray} {nL : Nat} {S : mm_S} {XS : List (String × Nat × String)}
/-- a way from one place to another -/
def mm_To (pg : List (Nat × mm_F)) (S : mm_S) (g g' : mm_C) : Prop := ∃ os P, mm_path pg S os g = some (g', P) ∧ P
theorem mm_walk {pg : List (Nat × mm_F)} (hpg : ∀ pc f, mm_at pg pc = some f → mm_Ok GW NW D cl tys ad cA K kd N l R own cc nL S pc f)
    {p : Program} {e : Env} {s : State} {m : MethodId} {args : Array Value} {below : List Frame} {meth : Method} {c : Code} {A : Nat → Prop} {cells slots : Nat} {Q : State → Prop} (X : mm_Cx GW NW D cl tys K kd N R own cc nL p s m args meth c A cells slots) :
    ∀ (os : List mm_O) (g g' : mm_C) (P : Prop), mm_path pg S os g = some (g', P) → P → mm_G D cl ad cA K kd N p l e R s m args below meth c A nL cells slots Q g' → mm_G D cl ad cA K kd N p l e R s m args below meth c A nL cells slots Q g
  | [], g, g', P, h, hP, hG => by
    obtain ⟨rfl, rfl⟩ := Prod.mk.inj (Option.some.inj h)
    exact hG
  | o :: os, g, g', P, h, hP, hG => by
    simp only [mm_path] at h
    cases h1 : mm_at pg g.2.1 with
    | none => simp [h1] at h
    | some f =>
      simp only [h1] at h
      cases h2 : f S o g with
      | none => simp [h2] at h
      | some q =>
        obtain ⟨g1, P1⟩ := q
        simp only [h2] at h
        cases h3 : mm_path pg S os g1 with
        | none => simp [h3] at h
        | some q2 =>
          obtain ⟨g2, P2⟩ := q2
          simp only [h3] at h
          obtain ⟨e1, e2⟩ := Prod.mk.inj (Option.some.inj h)
          subst e1
          rw [← e2] at hP
          exact hpg _ _ h1 p e s m args below meth c A cells slots _ X o g g1 P1 rfl h2 hP.1 (mm_walk hpg X os g1 g2 P2 h3 hP.2 hG)
def mx_Pre (XS : List (String × Nat × String)) (NW : List mm_N) (D : va_G) (cl : List vw_C) (tys : List (ClassId × FieldType)) (ad : Nat → Nat) (cA : Nat → ClassId) (K : Nat → mm_K) (kd : Nat → Nat) (N : List Nat) (M : mm_M) (as : List mm_V) (sz : Nat) : Array Value → State → Prop :=
  fun a U => mm_Pre NW D cl tys ad cA K kd N M as sz a U ∧ mx_cx XS U ∧ mx_st (va_A (mm_W ad cA K kd N M) sz) U U.heap
theorem mx_blind {M : mm_M} {as : List mm_V} {sz : Nat} : FrameBlind (mx_Pre XS NW D cl tys ad cA K kd N M as sz) := fun a U g mk q => by
  obtain ⟨q0, q1, q2⟩ := q
  exact ⟨mm_blind a U g mk q0, mx_same rfl q1, q2.moved (u := U) (U := U.calling g mk a) (Vm.Alike.refl U.vm)⟩
/-- what is so when E has been thrown: the memory is M still -/
def mx_X (D : va_G) (cl : List vw_C) (ad : Nat → Nat) (cA : Nat → ClassId) (K : Nat → mm_K) (kd : Nat → Nat) (N : List Nat) (E0 : String) (M : mm_M) (A : Nat → Prop) : String → State → State → Prop :=
  vx_X (S := Unit) (fun _ => True) (fun E _ t => E = E0 ∧ va_P D cl (mm_W ad cA K kd N M) t.heap ∧ va_D A (mm_W ad cA K kd N M)) A
def mx_rm (d : Nat) : Room := { frames := d, cells := 1, slots := 6, locals := 60 * d }
def mx_Met (XS : List (String × Nat × String)) (GW : List Cond) (NW : List mm_N) (D : va_G) (cl : List vw_C) (tys : List (ClassId × FieldType)) (ad : Nat → Nat) (cA : Nat → ClassId) (K : Nat → mm_K) (kd : Nat → Nat) (N : List Nat) (l : Launch) (T : mm_T) (R : Room) (z : Nat) (M : mm_M) (as : List mm_V) (E : String) : Prop :=
  ∀ sz, vx_Met l (T.1 z) (mm_ws GW T z) R (mx_Pre XS NW D cl tys ad cA K kd N M as sz) (va_Qv (S := Unit) (fun _ => False) (fun _ _ => False) (va_A (mm_W ad cA K kd N M) sz)) (mx_X D cl ad cA K kd N E M (va_A (mm_W ad cA K kd N M) sz)) 1 6 (va_A (mm_W ad cA K kd N M) sz)
set_option maxHeartbeats 1000000 in
theorem mx_throw {T : mm_T} {z : Nat} {pg : List (Nat × mm_F)} (hl : l.stackTraces = false) (hpl : plainName (T.1 z).cls = true) (hlay : mm_lay K kd N)
    (hpg : ∀ pc f, mm_at pg pc = some f → mm_Ok GW NW D cl tys ad cA K kd N l R (T.1 z).cls (T.2.1 z) (T.2.2.1 z) S pc f) {M : mm_M} {as : List mm_V} (hok : ∀ v ∈ as, mm_ok kd N v) (hn : as.length ≤ T.2.2.1 z)
    {pc ik is ic : Nat} {E text : String} {gl : List (Option mm_V)} (hE : mm_To pg S (M, 0, as.map some ++ List.replicate (T.2.2.1 z - as.length) none, []) (M, pc, gl, []))
    (hEm : E ∈ ct_E) (hfit : Bundle.fit E = true) (hk : Cond.classLink (T.1 z).cls ik E ∈ GW) (hini : Cond.initialized E ∈ GW) (hstr : ((T.1 z).cls, is, text) ∈ XS)
    (hgd : ∀ w ∈ (vx_atS (T.1 z).cls ic E ["java/lang/RuntimeException", "java/lang/Exception"]).filter goodWord, w ∈ GW)
    (hng : ∀ w ∈ (vx_atS (T.1 z).cls ic E ["java/lang/RuntimeException", "java/lang/Exception"]).filter (fun w => !goodWord w), w ∈ Cond.castable E E :: ct_XD.map Cond.declares)
    (hot : ∀ w ∈ Cond.classLink (T.1 z).cls ik E :: Cond.initialized E :: vx_atS (T.1 z).cls ic E ["java/lang/RuntimeException", "java/lang/Exception"], vx_ot w = true)
    (hR : 6 ≤ R.frames ∧ 82 ≤ R.locals ∧ R.cells = 1 ∧ R.slots = 6)
    (d0 : decode (T.2.1 z) pc = .ok (.new ik, 3)) (d3 : decode (T.2.1 z) (pc + 3) = .ok (.dup, 1)) (d4 : decode (T.2.1 z) (pc + 4) = .ok (.ldc is, 2)) (d6 : decode (T.2.1 z) (pc + 6) = .ok (.invokespecial ic, 3)) (d9 : decode (T.2.1 z) (pc + 9) = .ok (.athrow, 1)) :
    mx_Met XS GW NW D cl tys ad cA K kd N l T R z M as E := by
  intro sz
  refine vx_ofW (cc := T.2.1 z) (maxL := T.2.2.1 z) (ret := T.2.2.2 z) hpl rfl ?_
  intro p e s m args below meth c s₁ B hml hex hv
  obtain ⟨⟨rfl, hsz, hP, hK, hD0, hnw⟩, hcx, hst⟩ := hv
  have hts := atoms_spec (ws := mm_ws GW T z) B.pre
  have hown : s.vm.findClass (T.1 z).cls = some m.cls := findClass_of_methodNamed B.named
  have hlocks := B.notSynchronized
  subst hsz
  have hD := hD0.self (sz := s.heap.size)
  obtain ⟨ls, hfr, hL⟩ := mm_entry (ad := ad) m as hn
  rw [hfr]
  obtain ⟨os, P, h1, h2⟩ := hE
  have hg : ∀ w ∈ GW, w.before (as.map (mm_v ad)).toArray s = true := fun w hw => hts w (List.mem_cons_of_mem _ hw)
  have key := mm_walk (A := va_A (mm_W ad cA K kd N M) s.heap.size) (e := e) (below := below) (Q := vx_MQ below (va_Qv (S := Unit) (fun _ => False) (fun _ _ => False) (va_A (mm_W ad cA K kd N M) s.heap.size)) (mx_X D cl ad cA K kd N E M (va_A (mm_W ad cA K kd N M) s.heap.size)) (as.map (mm_v ad)).toArray s 1 6 (va_A (mm_W ad cA K kd N M) s.heap.size)) (cells := 0) (slots := 0) hpg ⟨⟨B.exec, B.bytes, hml, hown⟩, hg, hnw, hK, hlay, fun q h => Or.inr h, hlocks, Nat.zero_le _, Nat.zero_le _⟩ os _ _ P h1 h2 ?_
  · refine key (fun v hv => by simp at hv) (fun v hv => ?_) s.heap [] ls hP hD va_S.rf hL
    rcases List.mem_append.mp hv with h | h
    · obtain ⟨w, hw, e⟩ := List.mem_map.mp h
      have : w = v := by simpa using e
      rw [← this]
      exact hok w hw
    · have := List.eq_of_mem_replicate h
      simp at this
  · intro _ _ H locs ls hP1 hD1 hS1 hL1
    obtain ⟨sa, hsa⟩ := hcx.2.2.2 _ hstr
    have hng2 : ∀ w ∈ Cond.castable E E :: ct_XD.map Cond.declares, w.before (as.map (mm_v ad)).toArray s = true := fun w hw => by
      rcases List.mem_cons.mp hw with rfl | hw
      · exact va_Nw.use rfl (hcx.1 E hEm)
      · obtain ⟨x, hx, rfl⟩ := List.mem_map.mp hw
        exact va_Nw.use rfl (hcx.2.1 x hx)
    refine vx_throwS (names := ["java/lang/RuntimeException", "java/lang/Exception"]) (A := va_A (mm_W ad cA K kd N M) s.heap.size) B.exec B.bytes hl hown hfit (by decide +kernel) (hg _ hk) (hg _ hini) hsa (vx_hat (fun w hw => hg w (hgd w hw)) hng hng2) hot hst.1 hst.2 hS1 (by rw [hL1.1, hml]) d0 d3 d4 d6 d9 (fun x hx => (hex x hx).elim) ?_ ?_ ?_ ?_ hlocks ?_ hS1.2.2 (Nat.le_refl _) (Nat.le_refl _)
    · show 2 + 3 < R.frames
      omega
    · show 0 + (13 * (2 + 1) + 43) ≤ R.locals
      omega
    · show 0 + 1 ≤ R.cells
      omega
    · show 0 + 6 ≤ R.slots
      omega
    · intro t hvm hz hq
      refine ⟨(), trivial, ⟨rfl, vaP_kept hP1 (fun k q hk => ?_), hD1⟩, Nat.le_trans hS1.1 hz, fun q h1 h2 => by rw [hq q (Nat.lt_of_lt_of_le h1 hS1.1)]; exact hS1.2.1 q h1 h2⟩
      exact hq _ (vx_lt hP1 hk)
set_option maxHeartbeats 1000000 in
theorem mx_need {T : mm_T} {z : Nat} {pg : List (Nat × mm_F)} (hpl : plainName (T.1 z).cls = true) (hlay : mm_lay K kd N)
    (hpg : ∀ pc f, mm_at pg pc = some f → mm_Ok GW NW D cl tys ad cA K kd N l R (T.1 z).cls (T.2.1 z) (T.2.2.1 z) S pc f) {M : mm_M} {as : List mm_V} (hok : ∀ v ∈ as, mm_ok kd N v) (hn : as.length ≤ T.2.2.1 z)
    {pc idx z' ci i n Nf : Nat} {C : String} {Tb : u_T} {E : String} {As : List mm_V} {gl : List (Option mm_V)} {F : List (Option (Nat × Nat))} (hE : mm_To pg S (M, 0, as.map some ++ List.replicate (T.2.2.1 z - as.length) none, []) (M, pc, gl, As.reverse ++ [.inr (ci, i)]))
    {rm : Room} (hM : mx_Met XS GW NW D cl tys ad cA K kd N l T rm z' M (.inr (ci, i) :: As) E) (hrm : rm.cells = 1 ∧ rm.slots = 6) (hR : rm.frames + 1 ≤ R.frames ∧ 8 + (T.2.2.1 z' + 11) + rm.locals ≤ R.locals) (hR2 : R.cells = 1 ∧ R.slots = 6) (hF : K ci = .inl F) (hc : cl[ci]? = some (C, Tb, Nf)) (hi : i ∈ N) (hkd : kd i = ci) (hAn : As.length = n)
    (hg : ∀ w ∈ GW, goodWord w = true) (hcd : Cond.code (T.1 z') (T.2.1 z') (T.2.2.1 z') (T.2.2.2 z') ∈ GW) (hw : ∀ w ∈ [Cond.methodLink (T.1 z).cls idx (T.1 z'), .instanceMethod (T.1 z'), .selects C (T.1 z') (T.1 z'), .initialized C], w ∈ GW)
    (hd : (T.1 z').cls = C ∧ (T.1 z').cls ≠ "java/lang/invoke/MethodHandle" ∧ (T.1 z').cls ≠ "java/lang/invoke/VarHandle" ∧ (parseMethodDescriptor (T.1 z').desc).map (fun d => d.parameters.length) = some n) (d : decode (T.2.1 z) pc = .ok (.invokevirtual idx, 3)) :
    mx_Met XS GW NW D cl tys ad cA K kd N l T R z M as E := by
  intro sz
  refine vx_ofW (cc := T.2.1 z) (maxL := T.2.2.1 z) (ret := T.2.2.2 z) hpl rfl ?_
  intro p e s m args below meth c s₁ B hml hex hv
  obtain ⟨⟨rfl, hsz, hP, hK, hD0, hnw⟩, hcx, hst⟩ := hv
  have hts := atoms_spec (ws := mm_ws GW T z) B.pre
  have hown : s.vm.findClass (T.1 z).cls = some m.cls := findClass_of_methodNamed B.named
  have hlocks := B.notSynchronized
  subst hsz
  have hD := hD0.self (sz := s.heap.size)
  obtain ⟨ls, hfr, hL⟩ := mm_entry (ad := ad) m as hn
  rw [hfr]
  obtain ⟨os, P, h1, h2⟩ := hE
  have hgw : ∀ w ∈ GW, w.before (as.map (mm_v ad)).toArray s = true := fun w hw => hts w (List.mem_cons_of_mem _ hw)
  have key := mm_walk (A := va_A (mm_W ad cA K kd N M) s.heap.size) (e := e) (below := below) (Q := vx_MQ below (va_Qv (S := Unit) (fun _ => False) (fun _ _ => False) (va_A (mm_W ad cA K kd N M) s.heap.size)) (mx_X D cl ad cA K kd N E M (va_A (mm_W ad cA K kd N M) s.heap.size)) (as.map (mm_v ad)).toArray s 1 6 (va_A (mm_W ad cA K kd N M) s.heap.size)) (cells := 0) (slots := 0) hpg ⟨⟨B.exec, B.bytes, hml, hown⟩, hgw, hnw, hK, hlay, fun q h => Or.inr h, hlocks, Nat.zero_le _, Nat.zero_le _⟩ os _ _ P h1 h2 ?_
  · refine key (fun v hv => by simp at hv) (fun v hv => ?_) s.heap [] ls hP hD va_S.rf hL
    rcases List.mem_append.mp hv with h | h
    · obtain ⟨w, hw, e⟩ := List.mem_map.mp h
      have : w = v := by simpa using e
      rw [← this]
      exact hok w hw
    · have := List.eq_of_mem_replicate h
      simp at this
  · intro _ _ H locs ls hP1 hD1 hS1 hL1
    simp only at hP1 hD1 hL1
    obtain ⟨q0, hq0, he⟩ := mm_W_get (ad := ad) (cA := cA) (K := K) (kd := kd) (M := M) hi
    rw [hkd, mm_E_obj hF] at he
    have hin : ∀ q, va_A (mm_W ad cA K kd N M) H.size q → va_A (mm_W ad cA K kd N M) s.heap.size q := fun q h => h.elim Or.inl (fun h => Or.inr (Nat.le_trans hS1.1 h))
    have hstk : (As.reverse ++ [(.inr (ci, i) : mm_V)]).map (mm_v ad) = (As.map (mm_v ad)).reverse ++ Value.ref (ad i) :: [] := by simp [mm_v]
    refine vx_callv (vx_runV (As := As.map (mm_v ad)) (rest := []) (b := ad i) ⟨B.exec, B.bytes, hml, hown, hgw⟩ (hM H.size) (cwV n hgw (mm_goodA hg hcd hw) rfl hrm.1 hrm.2 hd hR) ⟨mx_blind, va_recv hK hP1 hc he, fun U hU hW => ⟨⟨rfl, by rw [hU], by rw [hU]; exact hP1, va_K.moved hW.alike hK, hD1.weaken (fun _ _ _ _ => trivial), mm_nw_warm hW hnw⟩, mx_warm hW hcx, by rw [hU]; exact ((hst.kept hS1.2.1).narrow hin).moved hW.alike⟩⟩ rfl (by simp [hAn]) hL1.1 hstk (lv_room (Nat.zero_le _)) d ⟨by show 0 + 1 ≤ R.cells; omega, by show 0 + 6 ≤ R.slots; omega⟩) hS1 (fun q _ h => hin q h) hin (fun q _ h => hin q h) (fun E' ce q9 u t H1 locs1 ht hvm hu hB hz hk hS2 hce hcv hcl => ?_) (fun u t H1 locs1 _ _ hf => hf.elim)
    obtain ⟨rfl, hP2, hD2⟩ := hB
    rw [ht] at hP2
    refine vx_out (fun x hx => (hex x hx).elim) hlocks hce hcv hcl (fun t2 ht2 _ => ⟨(), trivial, ⟨rfl, by rw [ht2]; exact hP2, hD⟩, hS2.F ht2⟩) hS2.2.2 (Nat.le_refl _) (Nat.le_refl _)
end MX
