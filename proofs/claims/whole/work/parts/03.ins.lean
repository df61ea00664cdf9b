abbrev mm_N : Type := String × Nat × MethodName × String
def mm_nw (NW : List mm_N) (s : State) : Prop := ∀ q ∈ NW, va_Nw (.methodLinkNest q.1 q.2.1 q.2.2.1 q.2.2.2) s
section MM2
variable {GW : List Cond} {NW : List mm_N} {D : va_G} {cl : List vw_C} {tys : List (ClassId × FieldType)} {ad : Nat → Nat} {cA : Nat → ClassId} {K : Nat → mm_K} {kd : Nat → Nat} {N : List Nat}
def mm_Cx (GW : List Cond) (NW : List mm_N) (D : va_G) (cl : List vw_C) (tys : List (ClassId × FieldType)) (K : Nat → mm_K) (kd : Nat → Nat) (N : List Nat) (R : Room) (own : String) (cc : ByteArray) (nL : Nat) (p : Program) (s : State) (m : MethodId) (args : Array Value) (meth : Method) (c : Code) (A : Nat → Prop) (cells slots : Nat) : Prop :=
  (p.tables.exec = Jvm.exec ∧ c.code = cc ∧ c.maxLocals = nL ∧ s.vm.findClass own = some m.cls) ∧ (∀ w ∈ GW, w.before args s = true) ∧ mm_nw NW s ∧ va_K D cl tys s ∧ mm_lay K kd N ∧ (∀ q : Nat, s.heap.size ≤ q → A q) ∧ meth.locks = false ∧ cells ≤ R.cells ∧ slots ≤ R.slots
def mm_G (D : va_G) (cl : List vw_C) (ad : Nat → Nat) (cA : Nat → ClassId) (K : Nat → mm_K) (kd : Nat → Nat) (N : List Nat) (p : Program) (l : Launch) (e : Env) (R : Room) (s : State) (m : MethodId) (args : Array Value) (below : List Frame) (meth : Method) (c : Code) (A : Nat → Prop) (nL cells slots : Nat) (Q : State → Prop) (g : mm_C) : Prop :=
  (∀ v ∈ g.2.2.2, mm_ok kd N v) → (∀ v, some v ∈ g.2.2.1 → mm_ok kd N v) → ∀ (H : Heap) (locs : List Loc) (ls : Array Slot), va_P D cl (mm_W ad cA K kd N g.1) H → va_D A (mm_W ad cA K kd N g.1) → va_S A s.heap H locs → mm_L ad ls nL g.2.2.1 → W p l e R s m args below meth c H locs cells slots Q (F0 m g.2.1 ls (g.2.2.2.map (mm_v ad)))
def mm_Ok (GW : List Cond) (NW : List mm_N) (D : va_G) (cl : List vw_C) (tys : List (ClassId × FieldType)) (ad : Nat → Nat) (cA : Nat → ClassId) (K : Nat → mm_K) (kd : Nat → Nat) (N : List Nat) (l : Launch) (R : Room) (own : String) (cc : ByteArray) (nL : Nat) (S : mm_S) (pc : Nat) (f : mm_F) : Prop :=
  ∀ (p : Program) (e : Env) (s : State) (m : MethodId) (args : Array Value) (below : List Frame) (meth : Method) (c : Code) (A : Nat → Prop) (cells slots : Nat) (Q : State → Prop), mm_Cx GW NW D cl tys K kd N R own cc nL p s m args meth c A cells slots → ∀ (o : mm_O) (g g' : mm_C) (P : Prop), g.2.1 = pc → f S o g = some (g', P) → P → mm_G D cl ad cA K kd N p l e R s m args below meth c A nL cells slots Q g' → mm_G D cl ad cA K kd N p l e R s m args below meth c A nL cells slots Q g
theorem sk_i {x : Int32} {t : List mm_V} (h : ∀ v ∈ t, mm_ok kd N v) : ∀ v ∈ ((.inl x : mm_V) :: t), mm_ok kd N v := fun v hv => by
  rcases List.mem_cons.mp hv with rfl | hv
  · exact trivial
  · exact h v hv
theorem sk_r {a : mm_V} {t : List mm_V} (ha : mm_ok kd N a) (h : ∀ v ∈ t, mm_ok kd N v) : ∀ v ∈ (a :: t), mm_ok kd N v := fun v hv => by
  rcases List.mem_cons.mp hv with rfl | hv
  · exact ha
  · exact h v hv
theorem sk_t {a : mm_V} {t : List mm_V} (h : ∀ v ∈ (a :: t), mm_ok kd N v) : ∀ v ∈ t, mm_ok kd N v := fun v hv => h v (List.mem_cons_of_mem _ hv)
theorem sk_h {a : mm_V} {t : List mm_V} (h : ∀ v ∈ (a :: t), mm_ok kd N v) : mm_ok kd N a := h a List.mem_cons_self
theorem lk_s {i : Nat} {a : mm_V} {gl : List (Option mm_V)} (ha : mm_ok kd N a) (h : ∀ v, some v ∈ gl → mm_ok kd N v) : ∀ v, some v ∈ gl.set i (some a) → mm_ok kd N v := fun v hv => by
  rcases List.mem_or_eq_of_mem_set hv with h1 | h1
  · exact h v h1
  · have e : v = a := by simpa using h1
    rw [e]; exact ha
theorem mm_E_obj {ci i : Nat} {F : List (Option (Nat × Nat))} {r : Nat → Int32} (hF : K ci = .inl F) : mm_E ad cA K ci i r = .inr (ci, mm_fs ad i r 0 F) := by
  simp only [mm_E, hF]
theorem mm_E_prim {ck i t n : Nat} {r : Nat → Int32} (hF : K ck = .inr (.inl (t, n))) : mm_E ad cA K ck i r = .inl (cA t, n, .inl r) := by
  simp only [mm_E, hF]
theorem mm_E_refs {ck i t n ek off : Nat} {r : Nat → Int32} (hF : K ck = .inr (.inr (t, n, ek, off))) : mm_E ad cA K ck i r = .inl (cA t, n, .inr (.inr (.inr (.inr (fun j => some (ad (i + off + 32 * j))))))) := by
  simp only [mm_E, hF]
variable {l : Launch} {R : Room} {own : String} {cc : ByteArray} {nL pc : Nat} {S : mm_S}
set_option maxHeartbeats 1000000 in
theorem ok_iconst {n : Int} {v : Int32} (d : decode cc pc = .ok (.iconst n, 1)) (hv : Int32.ofInt n = v) : mm_Ok GW NW D cl tys ad cA K kd N l R own cc nL S pc (mi_push v 1) := by
  intro p e s m args below meth c A cells slots Q X o g g' P hpc hf hP9 hG h1 h2 H locs ls hP hD hS hL
  obtain ⟨M, pc', gl, st⟩ := g
  simp only at hpc
  subst hpc
  obtain ⟨⟨hx, hb, hml, hown⟩, hts, hnw, hK, hlay, hA, hlk, hcl, hsl⟩ := X
  simp only at h1 h2 hP hD hL
  obtain ⟨rfl, rfl⟩ := Prod.mk.inj (Option.some.inj (show some (((M, pc' + 1, gl, .inl v :: st) : mm_C), (True)) = some (g', P) from hf))
  exact lv_iconst hx hb d hv (hG (sk_i h1) h2 H locs ls hP hD hS hL)
set_option maxHeartbeats 1000000 in
theorem ok_bipush {n : Int} {v : Int32} (d : decode cc pc = .ok (.bipush n, 2)) (hv : (Int8.ofInt n).toInt32 = v) : mm_Ok GW NW D cl tys ad cA K kd N l R own cc nL S pc (mi_push v 2) := by
  intro p e s m args below meth c A cells slots Q X o g g' P hpc hf hP9 hG h1 h2 H locs ls hP hD hS hL
  obtain ⟨M, pc', gl, st⟩ := g
  simp only at hpc
  subst hpc
  obtain ⟨⟨hx, hb, hml, hown⟩, hts, hnw, hK, hlay, hA, hlk, hcl, hsl⟩ := X
  simp only at h1 h2 hP hD hL
  obtain ⟨rfl, rfl⟩ := Prod.mk.inj (Option.some.inj (show some (((M, pc' + 2, gl, .inl v :: st) : mm_C), (True)) = some (g', P) from hf))
  exact lv_bipush hx hb d hv (hG (sk_i h1) h2 H locs ls hP hD hS hL)
set_option maxHeartbeats 1000000 in
theorem ok_sipush {n : Int} {v : Int32} (d : decode cc pc = .ok (.sipush n, 3)) (hv : (Int16.ofInt n).toInt32 = v) : mm_Ok GW NW D cl tys ad cA K kd N l R own cc nL S pc (mi_push v 3) := by
  intro p e s m args below meth c A cells slots Q X o g g' P hpc hf hP9 hG h1 h2 H locs ls hP hD hS hL
  obtain ⟨M, pc', gl, st⟩ := g
  simp only at hpc
  subst hpc
  obtain ⟨⟨hx, hb, hml, hown⟩, hts, hnw, hK, hlay, hA, hlk, hcl, hsl⟩ := X
  simp only at h1 h2 hP hD hL
  obtain ⟨rfl, rfl⟩ := Prod.mk.inj (Option.some.inj (show some (((M, pc' + 3, gl, .inl v :: st) : mm_C), (True)) = some (g', P) from hf))
  exact lv_sipush hx hb d hv (hG (sk_i h1) h2 H locs ls hP hD hS hL)
set_option maxHeartbeats 1000000 in
theorem ok_ldc {idx : Nat} {v : Int32} (hc : Jvm.Cond.constant own idx v ∈ GW) (d : decode cc pc = .ok (.ldc idx, 2)) : mm_Ok GW NW D cl tys ad cA K kd N l R own cc nL S pc (mi_push v 2) := by
  intro p e s m args below meth c A cells slots Q X o g g' P hpc hf hP9 hG h1 h2 H locs ls hP hD hS hL
  obtain ⟨M, pc', gl, st⟩ := g
  simp only at hpc
  subst hpc
  obtain ⟨⟨hx, hb, hml, hown⟩, hts, hnw, hK, hlay, hA, hlk, hcl, hsl⟩ := X
  simp only at h1 h2 hP hD hL
  obtain ⟨rfl, rfl⟩ := Prod.mk.inj (Option.some.inj (show some (((M, pc' + 2, gl, .inl v :: st) : mm_C), (True)) = some (g', P) from hf))
  exact lv_ldc hx hb hown (hts _ hc) d (hG (sk_i h1) h2 H locs ls hP hD hS hL)
set_option maxHeartbeats 1000000 in
theorem ok_iload_n {k : Fin 4} {i : Nat} (d : decode cc pc = .ok (.iload_n k, 1)) (hi : (k : Nat) = i) : mm_Ok GW NW D cl tys ad cA K kd N l R own cc nL S pc (mi_iload i 1) := by
  intro p e s m args below meth c A cells slots Q X o g g' P hpc hf hP9 hG h1 h2 H locs ls hP hD hS hL
  obtain ⟨M, pc', gl, st⟩ := g
  simp only at hpc
  subst hpc
  obtain ⟨⟨hx, hb, hml, hown⟩, hts, hnw, hK, hlay, hA, hlk, hcl, hsl⟩ := X
  simp only at h1 h2 hP hD hL
  cases hg : gl[i]? with
  | none => simp [mi_iload, hg] at hf
  | some w =>
    rcases w with _ | x | x
    · simp [mi_iload, hg] at hf
    · obtain ⟨rfl, rfl⟩ := Prod.mk.inj (Option.some.inj (show some (((M, pc' + 1, gl, .inl x :: st) : mm_C), True) = some (g', P) from by rw [← hf]; simp [mi_iload, hg]))
      exact lv_iload_n hx hb d hi (mm_L_at hL hg) (hG (sk_i h1) h2 H locs ls hP hD hS hL)
    · simp [mi_iload, hg] at hf
set_option maxHeartbeats 1000000 in
theorem ok_iload {i : Nat} (d : decode cc pc = .ok (.iload i, 2)) : mm_Ok GW NW D cl tys ad cA K kd N l R own cc nL S pc (mi_iload i 2) := by
  intro p e s m args below meth c A cells slots Q X o g g' P hpc hf hP9 hG h1 h2 H locs ls hP hD hS hL
  obtain ⟨M, pc', gl, st⟩ := g
  simp only at hpc
  subst hpc
  obtain ⟨⟨hx, hb, hml, hown⟩, hts, hnw, hK, hlay, hA, hlk, hcl, hsl⟩ := X
  simp only at h1 h2 hP hD hL
  cases hg : gl[i]? with
  | none => simp [mi_iload, hg] at hf
  | some w =>
    rcases w with _ | x | x
    · simp [mi_iload, hg] at hf
    · obtain ⟨rfl, rfl⟩ := Prod.mk.inj (Option.some.inj (show some (((M, pc' + 2, gl, .inl x :: st) : mm_C), True) = some (g', P) from by rw [← hf]; simp [mi_iload, hg]))
      exact lv_iload hx hb d (mm_L_at hL hg) (hG (sk_i h1) h2 H locs ls hP hD hS hL)
    · simp [mi_iload, hg] at hf
set_option maxHeartbeats 1000000 in
theorem ok_aload_n {k : Fin 4} {i : Nat} (d : decode cc pc = .ok (.aload_n k, 1)) (hi : (k : Nat) = i) : mm_Ok GW NW D cl tys ad cA K kd N l R own cc nL S pc (mi_aload i 1) := by
  intro p e s m args below meth c A cells slots Q X o g g' P hpc hf hP9 hG h1 h2 H locs ls hP hD hS hL
  obtain ⟨M, pc', gl, st⟩ := g
  simp only at hpc
  subst hpc
  obtain ⟨⟨hx, hb, hml, hown⟩, hts, hnw, hK, hlay, hA, hlk, hcl, hsl⟩ := X
  simp only at h1 h2 hP hD hL
  cases hg : gl[i]? with
  | none => simp [mi_aload, hg] at hf
  | some w =>
    rcases w with _ | x | x
    · simp [mi_aload, hg] at hf
    · simp [mi_aload, hg] at hf
    · obtain ⟨rfl, rfl⟩ := Prod.mk.inj (Option.some.inj (show some (((M, pc' + 1, gl, .inr x :: st) : mm_C), True) = some (g', P) from by rw [← hf]; simp [mi_aload, hg]))
      exact lv_aload_n hx hb d hi (mm_L_at hL hg) (hG (sk_r (h2 _ (List.mem_of_getElem? hg)) h1) h2 H locs ls hP hD hS hL)
set_option maxHeartbeats 1000000 in
theorem ok_aload {i : Nat} (d : decode cc pc = .ok (.aload i, 2)) : mm_Ok GW NW D cl tys ad cA K kd N l R own cc nL S pc (mi_aload i 2) := by
  intro p e s m args below meth c A cells slots Q X o g g' P hpc hf hP9 hG h1 h2 H locs ls hP hD hS hL
  obtain ⟨M, pc', gl, st⟩ := g
  simp only at hpc
  subst hpc
  obtain ⟨⟨hx, hb, hml, hown⟩, hts, hnw, hK, hlay, hA, hlk, hcl, hsl⟩ := X
  simp only at h1 h2 hP hD hL
  cases hg : gl[i]? with
  | none => simp [mi_aload, hg] at hf
  | some w =>
    rcases w with _ | x | x
    · simp [mi_aload, hg] at hf
    · simp [mi_aload, hg] at hf
    · obtain ⟨rfl, rfl⟩ := Prod.mk.inj (Option.some.inj (show some (((M, pc' + 2, gl, .inr x :: st) : mm_C), True) = some (g', P) from by rw [← hf]; simp [mi_aload, hg]))
      exact lv_aload hx hb d (mm_L_at hL hg) (hG (sk_r (h2 _ (List.mem_of_getElem? hg)) h1) h2 H locs ls hP hD hS hL)
set_option maxHeartbeats 1000000 in
theorem ok_istore_n {k : Fin 4} {i : Nat} (d : decode cc pc = .ok (.istore_n k, 1)) (hi : (k : Nat) = i) : mm_Ok GW NW D cl tys ad cA K kd N l R own cc nL S pc (mi_istore i 1) := by
  intro p e s m args below meth c A cells slots Q X o g g' P hpc hf hP9 hG h1 h2 H locs ls hP hD hS hL
  obtain ⟨M, pc', gl, st⟩ := g
  simp only at hpc
  subst hpc
  obtain ⟨⟨hx, hb, hml, hown⟩, hts, hnw, hK, hlay, hA, hlk, hcl, hsl⟩ := X
  simp only at h1 h2 hP hD hL
  rcases st with _ | ⟨x | x, t⟩
  · simp [mi_istore] at hf
  · obtain ⟨rfl, rfl⟩ := Prod.mk.inj (Option.some.inj (show some (((M, pc' + 1, gl.set i (some (.inl x)), t) : mm_C), i < gl.length) = some (g', P) from hf))
    have hi9 : i < nL := by rw [← hL.2.1]; exact hP9
    exact lv_istore_n hx hb d hi (mm_L_lv hL) hi9 rfl (fun ls' hl' => hG (sk_t h1) (lk_s (trivial) h2) H locs ls' hP hD hS (mm_L_of (v := (.inl x : mm_V)) hL.2.1 hi9 hl'))
  · simp [mi_istore] at hf
set_option maxHeartbeats 1000000 in
theorem ok_istore {i : Nat} (d : decode cc pc = .ok (.istore i, 2)) : mm_Ok GW NW D cl tys ad cA K kd N l R own cc nL S pc (mi_istore i 2) := by
  intro p e s m args below meth c A cells slots Q X o g g' P hpc hf hP9 hG h1 h2 H locs ls hP hD hS hL
  obtain ⟨M, pc', gl, st⟩ := g
  simp only at hpc
  subst hpc
  obtain ⟨⟨hx, hb, hml, hown⟩, hts, hnw, hK, hlay, hA, hlk, hcl, hsl⟩ := X
  simp only at h1 h2 hP hD hL
  rcases st with _ | ⟨x | x, t⟩
  · simp [mi_istore] at hf
  · obtain ⟨rfl, rfl⟩ := Prod.mk.inj (Option.some.inj (show some (((M, pc' + 2, gl.set i (some (.inl x)), t) : mm_C), i < gl.length) = some (g', P) from hf))
    have hi9 : i < nL := by rw [← hL.2.1]; exact hP9
    exact lv_istore hx hb d (mm_L_lv hL) hi9 rfl (fun ls' hl' => hG (sk_t h1) (lk_s (trivial) h2) H locs ls' hP hD hS (mm_L_of (v := (.inl x : mm_V)) hL.2.1 hi9 hl'))
  · simp [mi_istore] at hf
set_option maxHeartbeats 1000000 in
theorem ok_astore_n {k : Fin 4} {i : Nat} (d : decode cc pc = .ok (.astore_n k, 1)) (hi : (k : Nat) = i) : mm_Ok GW NW D cl tys ad cA K kd N l R own cc nL S pc (mi_astore i 1) := by
  intro p e s m args below meth c A cells slots Q X o g g' P hpc hf hP9 hG h1 h2 H locs ls hP hD hS hL
  obtain ⟨M, pc', gl, st⟩ := g
  simp only at hpc
  subst hpc
  obtain ⟨⟨hx, hb, hml, hown⟩, hts, hnw, hK, hlay, hA, hlk, hcl, hsl⟩ := X
  simp only at h1 h2 hP hD hL
  rcases st with _ | ⟨x | x, t⟩
  · simp [mi_astore] at hf
  · simp [mi_astore] at hf
  · obtain ⟨rfl, rfl⟩ := Prod.mk.inj (Option.some.inj (show some (((M, pc' + 1, gl.set i (some (.inr x)), t) : mm_C), i < gl.length) = some (g', P) from hf))
    have hi9 : i < nL := by rw [← hL.2.1]; exact hP9
    exact lv_astore_n hx hb d hi (mm_L_lv hL) hi9 rfl (fun ls' hl' => hG (sk_t h1) (lk_s (sk_h h1) h2) H locs ls' hP hD hS (mm_L_of (v := (.inr x : mm_V)) hL.2.1 hi9 hl'))
set_option maxHeartbeats 1000000 in
theorem ok_astore {i : Nat} (d : decode cc pc = .ok (.astore i, 2)) : mm_Ok GW NW D cl tys ad cA K kd N l R own cc nL S pc (mi_astore i 2) := by
  intro p e s m args below meth c A cells slots Q X o g g' P hpc hf hP9 hG h1 h2 H locs ls hP hD hS hL
  obtain ⟨M, pc', gl, st⟩ := g
  simp only at hpc
  subst hpc
  obtain ⟨⟨hx, hb, hml, hown⟩, hts, hnw, hK, hlay, hA, hlk, hcl, hsl⟩ := X
  simp only at h1 h2 hP hD hL
  rcases st with _ | ⟨x | x, t⟩
  · simp [mi_astore] at hf
  · simp [mi_astore] at hf
  · obtain ⟨rfl, rfl⟩ := Prod.mk.inj (Option.some.inj (show some (((M, pc' + 2, gl.set i (some (.inr x)), t) : mm_C), i < gl.length) = some (g', P) from hf))
    have hi9 : i < nL := by rw [← hL.2.1]; exact hP9
    exact lv_astore hx hb d (mm_L_lv hL) hi9 rfl (fun ls' hl' => hG (sk_t h1) (lk_s (sk_h h1) h2) H locs ls' hP hD hS (mm_L_of (v := (.inr x : mm_V)) hL.2.1 hi9 hl'))
set_option maxHeartbeats 1000000 in
theorem ok_iinc {i : Nat} {n : Int} {v : Int32} (d : decode cc pc = .ok (.iinc i n, 3)) (hv : Int32.ofInt n = v) : mm_Ok GW NW D cl tys ad cA K kd N l R own cc nL S pc (mi_iinc i v) := by
  intro p e s m args below meth c A cells slots Q X o g g' P hpc hf hP9 hG h1 h2 H locs ls hP hD hS hL
  obtain ⟨M, pc', gl, st⟩ := g
  simp only at hpc
  subst hpc
  obtain ⟨⟨hx, hb, hml, hown⟩, hts, hnw, hK, hlay, hA, hlk, hcl, hsl⟩ := X
  simp only at h1 h2 hP hD hL
  cases hg : gl[i]? with
  | none => simp [mi_iinc, hg] at hf
  | some w =>
    rcases w with _ | x | x
    · simp [mi_iinc, hg] at hf
    · obtain ⟨rfl, rfl⟩ := Prod.mk.inj (Option.some.inj (show some (((M, pc' + 3, gl.set i (some (.inl (x + v))), st) : mm_C), True) = some (g', P) from by rw [← hf]; simp [mi_iinc, hg]))
      have hi9 : i < nL := by rw [← hL.2.1]; exact (List.getElem?_eq_some_iff.mp hg).1
      obtain ⟨kq, hkq⟩ := List.getElem?_of_mem (mm_lv_mem (ad := ad) (q := (i, Value.int x)).mpr ⟨.inl x, hg, rfl⟩)
      exact lv_iinc (v := x + v) hx hb d (mm_L_lv hL) hkq (by rw [hv]) hi9 rfl (fun ls' hl' => hG h1 (lk_s trivial h2) H locs ls' hP hD hS (mm_L_of (v := (.inl (x + v) : mm_V)) hL.2.1 hi9 hl'))
    · simp [mi_iinc, hg] at hf
set_option maxHeartbeats 1000000 in
theorem ok_iadd (d : decode cc pc = .ok (.iadd, 1)) : mm_Ok GW NW D cl tys ad cA K kd N l R own cc nL S pc (mi_bin (fun x y => x + y) 1) := by
  intro p e s m args below meth c A cells slots Q X o g g' P hpc hf hP9 hG h1 h2 H locs ls hP hD hS hL
  obtain ⟨M, pc', gl, st⟩ := g
  simp only at hpc
  subst hpc
  obtain ⟨⟨hx, hb, hml, hown⟩, hts, hnw, hK, hlay, hA, hlk, hcl, hsl⟩ := X
  simp only at h1 h2 hP hD hL
  rcases st with _ | ⟨y | y, _ | ⟨x | x, t⟩⟩
  · simp [mi_bin] at hf
  · simp [mi_bin] at hf
  · obtain ⟨rfl, rfl⟩ := Prod.mk.inj (Option.some.inj (show some (((M, pc' + 1, gl, .inl (x + y) :: t) : mm_C), True) = some (g', P) from hf))
    exact lv_iadd hx hb d (hG (sk_i (sk_t (sk_t h1))) h2 H locs ls hP hD hS hL)
  · simp [mi_bin] at hf
  · simp [mi_bin] at hf
  · simp [mi_bin] at hf
  · simp [mi_bin] at hf
set_option maxHeartbeats 1000000 in
theorem ok_isub (d : decode cc pc = .ok (.isub, 1)) : mm_Ok GW NW D cl tys ad cA K kd N l R own cc nL S pc (mi_bin (fun x y => x - y) 1) := by
  intro p e s m args below meth c A cells slots Q X o g g' P hpc hf hP9 hG h1 h2 H locs ls hP hD hS hL
  obtain ⟨M, pc', gl, st⟩ := g
  simp only at hpc
  subst hpc
  obtain ⟨⟨hx, hb, hml, hown⟩, hts, hnw, hK, hlay, hA, hlk, hcl, hsl⟩ := X
  simp only at h1 h2 hP hD hL
  rcases st with _ | ⟨y | y, _ | ⟨x | x, t⟩⟩
  · simp [mi_bin] at hf
  · simp [mi_bin] at hf
  · obtain ⟨rfl, rfl⟩ := Prod.mk.inj (Option.some.inj (show some (((M, pc' + 1, gl, .inl (x - y) :: t) : mm_C), True) = some (g', P) from hf))
    exact lv_isub hx hb d (hG (sk_i (sk_t (sk_t h1))) h2 H locs ls hP hD hS hL)
  · simp [mi_bin] at hf
  · simp [mi_bin] at hf
  · simp [mi_bin] at hf
  · simp [mi_bin] at hf
set_option maxHeartbeats 1000000 in
theorem ok_imul (d : decode cc pc = .ok (.imul, 1)) : mm_Ok GW NW D cl tys ad cA K kd N l R own cc nL S pc (mi_bin (fun x y => x * y) 1) := by
  intro p e s m args below meth c A cells slots Q X o g g' P hpc hf hP9 hG h1 h2 H locs ls hP hD hS hL
  obtain ⟨M, pc', gl, st⟩ := g
  simp only at hpc
  subst hpc
  obtain ⟨⟨hx, hb, hml, hown⟩, hts, hnw, hK, hlay, hA, hlk, hcl, hsl⟩ := X
  simp only at h1 h2 hP hD hL
  rcases st with _ | ⟨y | y, _ | ⟨x | x, t⟩⟩
  · simp [mi_bin] at hf
  · simp [mi_bin] at hf
  · obtain ⟨rfl, rfl⟩ := Prod.mk.inj (Option.some.inj (show some (((M, pc' + 1, gl, .inl (x * y) :: t) : mm_C), True) = some (g', P) from hf))
    exact lv_imul hx hb d (hG (sk_i (sk_t (sk_t h1))) h2 H locs ls hP hD hS hL)
  · simp [mi_bin] at hf
  · simp [mi_bin] at hf
  · simp [mi_bin] at hf
  · simp [mi_bin] at hf
set_option maxHeartbeats 1000000 in
theorem ok_iand (d : decode cc pc = .ok (.iand, 1)) : mm_Ok GW NW D cl tys ad cA K kd N l R own cc nL S pc (mi_bin (fun x y => x &&& y) 1) := by
  intro p e s m args below meth c A cells slots Q X o g g' P hpc hf hP9 hG h1 h2 H locs ls hP hD hS hL
  obtain ⟨M, pc', gl, st⟩ := g
  simp only at hpc
  subst hpc
  obtain ⟨⟨hx, hb, hml, hown⟩, hts, hnw, hK, hlay, hA, hlk, hcl, hsl⟩ := X
  simp only at h1 h2 hP hD hL
  rcases st with _ | ⟨y | y, _ | ⟨x | x, t⟩⟩
  · simp [mi_bin] at hf
  · simp [mi_bin] at hf
  · obtain ⟨rfl, rfl⟩ := Prod.mk.inj (Option.some.inj (show some (((M, pc' + 1, gl, .inl (x &&& y) :: t) : mm_C), True) = some (g', P) from hf))
    exact lv_iand hx hb d (hG (sk_i (sk_t (sk_t h1))) h2 H locs ls hP hD hS hL)
  · simp [mi_bin] at hf
  · simp [mi_bin] at hf
  · simp [mi_bin] at hf
  · simp [mi_bin] at hf
set_option maxHeartbeats 1000000 in
theorem ok_ior (d : decode cc pc = .ok (.ior, 1)) : mm_Ok GW NW D cl tys ad cA K kd N l R own cc nL S pc (mi_bin (fun x y => x ||| y) 1) := by
  intro p e s m args below meth c A cells slots Q X o g g' P hpc hf hP9 hG h1 h2 H locs ls hP hD hS hL
  obtain ⟨M, pc', gl, st⟩ := g
  simp only at hpc
  subst hpc
  obtain ⟨⟨hx, hb, hml, hown⟩, hts, hnw, hK, hlay, hA, hlk, hcl, hsl⟩ := X
  simp only at h1 h2 hP hD hL
  rcases st with _ | ⟨y | y, _ | ⟨x | x, t⟩⟩
  · simp [mi_bin] at hf
  · simp [mi_bin] at hf
  · obtain ⟨rfl, rfl⟩ := Prod.mk.inj (Option.some.inj (show some (((M, pc' + 1, gl, .inl (x ||| y) :: t) : mm_C), True) = some (g', P) from hf))
    exact lv_ior hx hb d (hG (sk_i (sk_t (sk_t h1))) h2 H locs ls hP hD hS hL)
  · simp [mi_bin] at hf
  · simp [mi_bin] at hf
  · simp [mi_bin] at hf
  · simp [mi_bin] at hf
set_option maxHeartbeats 1000000 in
theorem ok_ixor (d : decode cc pc = .ok (.ixor, 1)) : mm_Ok GW NW D cl tys ad cA K kd N l R own cc nL S pc (mi_bin (fun x y => x ^^^ y) 1) := by
  intro p e s m args below meth c A cells slots Q X o g g' P hpc hf hP9 hG h1 h2 H locs ls hP hD hS hL
  obtain ⟨M, pc', gl, st⟩ := g
  simp only at hpc
  subst hpc
  obtain ⟨⟨hx, hb, hml, hown⟩, hts, hnw, hK, hlay, hA, hlk, hcl, hsl⟩ := X
  simp only at h1 h2 hP hD hL
  rcases st with _ | ⟨y | y, _ | ⟨x | x, t⟩⟩
  · simp [mi_bin] at hf
  · simp [mi_bin] at hf
  · obtain ⟨rfl, rfl⟩ := Prod.mk.inj (Option.some.inj (show some (((M, pc' + 1, gl, .inl (x ^^^ y) :: t) : mm_C), True) = some (g', P) from hf))
    exact lv_ixor hx hb d (hG (sk_i (sk_t (sk_t h1))) h2 H locs ls hP hD hS hL)
  · simp [mi_bin] at hf
  · simp [mi_bin] at hf
  · simp [mi_bin] at hf
  · simp [mi_bin] at hf
set_option maxHeartbeats 1000000 in
theorem ok_idiv (d : decode cc pc = .ok (.idiv, 1)) : mm_Ok GW NW D cl tys ad cA K kd N l R own cc nL S pc (mi_div) := by
  intro p e s m args below meth c A cells slots Q X o g g' P hpc hf hP9 hG h1 h2 H locs ls hP hD hS hL
  obtain ⟨M, pc', gl, st⟩ := g
  simp only at hpc
  subst hpc
  obtain ⟨⟨hx, hb, hml, hown⟩, hts, hnw, hK, hlay, hA, hlk, hcl, hsl⟩ := X
  simp only at h1 h2 hP hD hL
  rcases st with _ | ⟨y | y, _ | ⟨x | x, t⟩⟩
  · simp [mi_div] at hf
  · simp [mi_div] at hf
  · obtain ⟨rfl, rfl⟩ := Prod.mk.inj (Option.some.inj (show some (((M, pc' + 1, gl, .inl (x / y) :: t) : mm_C), ¬ y = 0) = some (g', P) from hf))
    exact lv_idiv hx hb d hP9 (hG (sk_i (sk_t (sk_t h1))) h2 H locs ls hP hD hS hL)
  · simp [mi_div] at hf
  · simp [mi_div] at hf
  · simp [mi_div] at hf
  · simp [mi_div] at hf
set_option maxHeartbeats 1000000 in
theorem ok_irem (d : decode cc pc = .ok (.irem, 1)) : mm_Ok GW NW D cl tys ad cA K kd N l R own cc nL S pc (mi_rem) := by
  intro p e s m args below meth c A cells slots Q X o g g' P hpc hf hP9 hG h1 h2 H locs ls hP hD hS hL
  obtain ⟨M, pc', gl, st⟩ := g
  simp only at hpc
  subst hpc
  obtain ⟨⟨hx, hb, hml, hown⟩, hts, hnw, hK, hlay, hA, hlk, hcl, hsl⟩ := X
  simp only at h1 h2 hP hD hL
  rcases st with _ | ⟨y | y, _ | ⟨x | x, t⟩⟩
  · simp [mi_rem] at hf
  · simp [mi_rem] at hf
  · obtain ⟨rfl, rfl⟩ := Prod.mk.inj (Option.some.inj (show some (((M, pc' + 1, gl, .inl (x - x / y * y) :: t) : mm_C), ¬ y = 0) = some (g', P) from hf))
    exact lv_irem hx hb d hP9 (hG (sk_i (sk_t (sk_t h1))) h2 H locs ls hP hD hS hL)
  · simp [mi_rem] at hf
  · simp [mi_rem] at hf
  · simp [mi_rem] at hf
  · simp [mi_rem] at hf
set_option maxHeartbeats 1000000 in
theorem ok_min {idx : Nat} (w1 : Cond.methodLink own idx Lib.Math.min.name ∈ GW) (w2 : Cond.static Lib.Math.min.name ∈ GW) (w3 : Cond.initialized "java/lang/Math" ∈ GW) (w4 : Cond.code Lib.Math.min.name Lib.Math.min.code 2 (some .int) ∈ GW) (hR : 1 ≤ R.frames ∧ 30 ≤ R.locals) (d : decode cc pc = .ok (.invokestatic idx, 3)) : mm_Ok GW NW D cl tys ad cA K kd N l R own cc nL S pc (mi_mm (fun x y => if y < x then y else x)) := by
  intro p e s m args below meth c A cells slots Q X o g g' P hpc hf hP9 hG h1 h2 H locs ls hP hD hS hL
  obtain ⟨M, pc', gl, st⟩ := g
  simp only at hpc
  subst hpc
  obtain ⟨⟨hx, hb, hml, hown⟩, hts, hnw, hK, hlay, hA, hlk, hcl, hsl⟩ := X
  simp only at h1 h2 hP hD hL
  rcases st with _ | ⟨y | y, _ | ⟨x | x, t⟩⟩
  · simp [mi_mm] at hf
  · simp [mi_mm] at hf
  · obtain ⟨rfl, rfl⟩ := Prod.mk.inj (Option.some.inj (show some (((M, pc' + 3, gl, .inl (if y < x then y else x) :: t) : mm_C), t.length ≤ 8) = some (g', P) from hf))
    have hsum : ((t.map (mm_v ad)).map fun v => v.category).sum = t.length := mm_sum t
    have hl9 : t.length ≤ 8 := hP9
    exact va_mmin hx hb (by rw [hml]; exact hL.1.symm) hown (hts _ w1) (hts _ w2) (hts _ w3) (hts _ w4) hR.1 (by rw [hsum]; omega) hcl hsl d (hG (sk_i (sk_t (sk_t h1))) h2 H locs ls hP hD hS hL)
  · simp [mi_mm] at hf
  · simp [mi_mm] at hf
  · simp [mi_mm] at hf
  · simp [mi_mm] at hf
set_option maxHeartbeats 1000000 in
theorem ok_max {idx : Nat} (w1 : Cond.methodLink own idx Lib.Math.max.name ∈ GW) (w2 : Cond.static Lib.Math.max.name ∈ GW) (w3 : Cond.initialized "java/lang/Math" ∈ GW) (w4 : Cond.code Lib.Math.max.name Lib.Math.max.code 2 (some .int) ∈ GW) (hR : 1 ≤ R.frames ∧ 30 ≤ R.locals) (d : decode cc pc = .ok (.invokestatic idx, 3)) : mm_Ok GW NW D cl tys ad cA K kd N l R own cc nL S pc (mi_mm (fun x y => if x < y then y else x)) := by
  intro p e s m args below meth c A cells slots Q X o g g' P hpc hf hP9 hG h1 h2 H locs ls hP hD hS hL
  obtain ⟨M, pc', gl, st⟩ := g
  simp only at hpc
  subst hpc
  obtain ⟨⟨hx, hb, hml, hown⟩, hts, hnw, hK, hlay, hA, hlk, hcl, hsl⟩ := X
  simp only at h1 h2 hP hD hL
  rcases st with _ | ⟨y | y, _ | ⟨x | x, t⟩⟩
  · simp [mi_mm] at hf
  · simp [mi_mm] at hf
  · obtain ⟨rfl, rfl⟩ := Prod.mk.inj (Option.some.inj (show some (((M, pc' + 3, gl, .inl (if x < y then y else x) :: t) : mm_C), t.length ≤ 8) = some (g', P) from hf))
    have hsum : ((t.map (mm_v ad)).map fun v => v.category).sum = t.length := mm_sum t
    have hl9 : t.length ≤ 8 := hP9
    exact va_mmax hx hb (by rw [hml]; exact hL.1.symm) hown (hts _ w1) (hts _ w2) (hts _ w3) (hts _ w4) hR.1 (by rw [hsum]; omega) hcl hsl d (hG (sk_i (sk_t (sk_t h1))) h2 H locs ls hP hD hS hL)
  · simp [mi_mm] at hf
  · simp [mi_mm] at hf
  · simp [mi_mm] at hf
  · simp [mi_mm] at hf
set_option maxHeartbeats 1000000 in
theorem ok_dup (d : decode cc pc = .ok (.dup, 1)) : mm_Ok GW NW D cl tys ad cA K kd N l R own cc nL S pc (mi_dup) := by
  intro p e s m args below meth c A cells slots Q X o g g' P hpc hf hP9 hG h1 h2 H locs ls hP hD hS hL
  obtain ⟨M, pc', gl, st⟩ := g
  simp only at hpc
  subst hpc
  obtain ⟨⟨hx, hb, hml, hown⟩, hts, hnw, hK, hlay, hA, hlk, hcl, hsl⟩ := X
  simp only at h1 h2 hP hD hL
  rcases st with _ | ⟨a, t⟩
  · simp [mi_dup] at hf
  · obtain ⟨rfl, rfl⟩ := Prod.mk.inj (Option.some.inj (show some (((M, pc' + 1, gl, a :: a :: t) : mm_C), True) = some (g', P) from hf))
    exact lv_dup hx hb d (mm_v_cat ad a) (hG (sk_r (sk_h h1) h1) h2 H locs ls hP hD hS hL)
set_option maxHeartbeats 1000000 in
theorem ok_pop (d : decode cc pc = .ok (.pop, 1)) : mm_Ok GW NW D cl tys ad cA K kd N l R own cc nL S pc (mi_pop) := by
  intro p e s m args below meth c A cells slots Q X o g g' P hpc hf hP9 hG h1 h2 H locs ls hP hD hS hL
  obtain ⟨M, pc', gl, st⟩ := g
  simp only at hpc
  subst hpc
  obtain ⟨⟨hx, hb, hml, hown⟩, hts, hnw, hK, hlay, hA, hlk, hcl, hsl⟩ := X
  simp only at h1 h2 hP hD hL
  rcases st with _ | ⟨a, t⟩
  · simp [mi_pop] at hf
  · obtain ⟨rfl, rfl⟩ := Prod.mk.inj (Option.some.inj (show some (((M, pc' + 1, gl, t) : mm_C), True) = some (g', P) from hf))
    exact lv_pop hx hb d (mm_v_cat ad a) (hG (sk_t h1) h2 H locs ls hP hD hS hL)
set_option maxHeartbeats 1000000 in
theorem ok_dup2 (d : decode cc pc = .ok (.dup2, 1)) : mm_Ok GW NW D cl tys ad cA K kd N l R own cc nL S pc (mi_dup2) := by
  intro p e s m args below meth c A cells slots Q X o g g' P hpc hf hP9 hG h1 h2 H locs ls hP hD hS hL
  obtain ⟨M, pc', gl, st⟩ := g
  simp only at hpc
  subst hpc
  obtain ⟨⟨hx, hb, hml, hown⟩, hts, hnw, hK, hlay, hA, hlk, hcl, hsl⟩ := X
  simp only at h1 h2 hP hD hL
  rcases st with _ | ⟨a, _ | ⟨b, t⟩⟩
  · simp [mi_dup2] at hf
  · simp [mi_dup2] at hf
  · obtain ⟨rfl, rfl⟩ := Prod.mk.inj (Option.some.inj (show some (((M, pc' + 1, gl, a :: b :: a :: b :: t) : mm_C), True) = some (g', P) from hf))
    exact lv_dup2_11 hx hb d (mm_v_cat ad a) (mm_v_cat ad b) (hG (sk_r (sk_h h1) (sk_r (sk_h (sk_t h1)) h1)) h2 H locs ls hP hD hS hL)
set_option maxHeartbeats 1000000 in
theorem ok_dupx1 (d : decode cc pc = .ok (.dup_x1, 1)) : mm_Ok GW NW D cl tys ad cA K kd N l R own cc nL S pc (mi_dupx1) := by
  intro p e s m args below meth c A cells slots Q X o g g' P hpc hf hP9 hG h1 h2 H locs ls hP hD hS hL
  obtain ⟨M, pc', gl, st⟩ := g
  simp only at hpc
  subst hpc
  obtain ⟨⟨hx, hb, hml, hown⟩, hts, hnw, hK, hlay, hA, hlk, hcl, hsl⟩ := X
  simp only at h1 h2 hP hD hL
  rcases st with _ | ⟨a, _ | ⟨b, t⟩⟩
  · simp [mi_dupx1] at hf
  · simp [mi_dupx1] at hf
  · obtain ⟨rfl, rfl⟩ := Prod.mk.inj (Option.some.inj (show some (((M, pc' + 1, gl, a :: b :: a :: t) : mm_C), True) = some (g', P) from hf))
    exact lv_dup_x1 hx hb d (mm_v_cat ad a) (mm_v_cat ad b) (hG (sk_r (sk_h h1) (sk_r (sk_h (sk_t h1)) (sk_r (sk_h h1) (sk_t (sk_t h1))))) h2 H locs ls hP hD hS hL)
set_option maxHeartbeats 1000000 in
theorem ok_goto {off : Int} {tgt : Nat} (d : decode cc pc = .ok (.goto off, 3)) (ht : (pc : Int) + off = (tgt : Int)) : mm_Ok GW NW D cl tys ad cA K kd N l R own cc nL S pc (mi_goto tgt) := by
  intro p e s m args below meth c A cells slots Q X o g g' P hpc hf hP9 hG h1 h2 H locs ls hP hD hS hL
  obtain ⟨M, pc', gl, st⟩ := g
  simp only at hpc
  subst hpc
  obtain ⟨⟨hx, hb, hml, hown⟩, hts, hnw, hK, hlay, hA, hlk, hcl, hsl⟩ := X
  simp only at h1 h2 hP hD hL
  obtain ⟨rfl, rfl⟩ := Prod.mk.inj (Option.some.inj (show some (((M, tgt, gl, st) : mm_C), True) = some (g', P) from hf))
  exact lv_goto hx hb d ht (hG h1 h2 H locs ls hP hD hS hL)
set_option maxHeartbeats 1000000 in
theorem ok_if_eq {off : Int} {tgt : Nat} (d : decode cc pc = .ok (.ifCond .eq off, 3)) (ht : (pc : Int) + off = (tgt : Int)) : mm_Ok GW NW D cl tys ad cA K kd N l R own cc nL S pc (mi_if (fun x => x = 0) tgt) := by
  intro p e s m args below meth c A cells slots Q X o g g' P hpc hf hP9 hG h1 h2 H locs ls hP hD hS hL
  obtain ⟨M, pc', gl, st⟩ := g
  simp only at hpc
  subst hpc
  obtain ⟨⟨hx, hb, hml, hown⟩, hts, hnw, hK, hlay, hA, hlk, hcl, hsl⟩ := X
  simp only at h1 h2 hP hD hL
  obtain ⟨w, o2⟩ := o
  rcases w with _ | w <;> rcases st with _ | ⟨x | x, t⟩
  · simp [mi_if] at hf
  · obtain ⟨rfl, rfl⟩ := Prod.mk.inj (Option.some.inj (show some (((M, pc' + 3, gl, t) : mm_C), ¬ (x = 0)) = some (g', P) from hf))
    exact lv_if_eq hx hb d ht (fun z => absurd z hP9) (fun _ => hG (sk_t h1) h2 H locs ls hP hD hS hL)
  · simp [mi_if] at hf
  · simp [mi_if] at hf
  · obtain ⟨rfl, rfl⟩ := Prod.mk.inj (Option.some.inj (show some (((M, tgt, gl, t) : mm_C), (x = 0)) = some (g', P) from hf))
    exact lv_if_eq hx hb d ht (fun _ => hG (sk_t h1) h2 H locs ls hP hD hS hL) (fun z => absurd hP9 z)
  · simp [mi_if] at hf
set_option maxHeartbeats 1000000 in
theorem ok_icmp_eq {off : Int} {tgt : Nat} (d : decode cc pc = .ok (.if_icmp .eq off, 3)) (ht : (pc : Int) + off = (tgt : Int)) : mm_Ok GW NW D cl tys ad cA K kd N l R own cc nL S pc (mi_cmp (fun x y => x = y) tgt) := by
  intro p e s m args below meth c A cells slots Q X o g g' P hpc hf hP9 hG h1 h2 H locs ls hP hD hS hL
  obtain ⟨M, pc', gl, st⟩ := g
  simp only at hpc
  subst hpc
  obtain ⟨⟨hx, hb, hml, hown⟩, hts, hnw, hK, hlay, hA, hlk, hcl, hsl⟩ := X
  simp only at h1 h2 hP hD hL
  obtain ⟨w, o2⟩ := o
  rcases w with _ | w <;> rcases st with _ | ⟨y | y, _ | ⟨x | x, t⟩⟩
  · simp [mi_cmp] at hf
  · simp [mi_cmp] at hf
  · obtain ⟨rfl, rfl⟩ := Prod.mk.inj (Option.some.inj (show some (((M, pc' + 3, gl, t) : mm_C), ¬ (x = y)) = some (g', P) from hf))
    exact lv_icmp_eq hx hb d ht (fun z => absurd z hP9) (fun _ => hG (sk_t (sk_t h1)) h2 H locs ls hP hD hS hL)
  · simp [mi_cmp] at hf
  · simp [mi_cmp] at hf
  · simp [mi_cmp] at hf
  · simp [mi_cmp] at hf
  · simp [mi_cmp] at hf
  · simp [mi_cmp] at hf
  · obtain ⟨rfl, rfl⟩ := Prod.mk.inj (Option.some.inj (show some (((M, tgt, gl, t) : mm_C), (x = y)) = some (g', P) from hf))
    exact lv_icmp_eq hx hb d ht (fun _ => hG (sk_t (sk_t h1)) h2 H locs ls hP hD hS hL) (fun z => absurd hP9 z)
  · simp [mi_cmp] at hf
  · simp [mi_cmp] at hf
  · simp [mi_cmp] at hf
  · simp [mi_cmp] at hf
set_option maxHeartbeats 1000000 in
theorem ok_if_ne {off : Int} {tgt : Nat} (d : decode cc pc = .ok (.ifCond .ne off, 3)) (ht : (pc : Int) + off = (tgt : Int)) : mm_Ok GW NW D cl tys ad cA K kd N l R own cc nL S pc (mi_if (fun x => ¬ x = 0) tgt) := by
  intro p e s m args below meth c A cells slots Q X o g g' P hpc hf hP9 hG h1 h2 H locs ls hP hD hS hL
  obtain ⟨M, pc', gl, st⟩ := g
  simp only at hpc
  subst hpc
  obtain ⟨⟨hx, hb, hml, hown⟩, hts, hnw, hK, hlay, hA, hlk, hcl, hsl⟩ := X
  simp only at h1 h2 hP hD hL
  obtain ⟨w, o2⟩ := o
  rcases w with _ | w <;> rcases st with _ | ⟨x | x, t⟩
  · simp [mi_if] at hf
  · obtain ⟨rfl, rfl⟩ := Prod.mk.inj (Option.some.inj (show some (((M, pc' + 3, gl, t) : mm_C), ¬ (¬ x = 0)) = some (g', P) from hf))
    exact lv_if_ne hx hb d ht (fun z => absurd z hP9) (fun _ => hG (sk_t h1) h2 H locs ls hP hD hS hL)
  · simp [mi_if] at hf
  · simp [mi_if] at hf
  · obtain ⟨rfl, rfl⟩ := Prod.mk.inj (Option.some.inj (show some (((M, tgt, gl, t) : mm_C), (¬ x = 0)) = some (g', P) from hf))
    exact lv_if_ne hx hb d ht (fun _ => hG (sk_t h1) h2 H locs ls hP hD hS hL) (fun z => absurd z hP9)
  · simp [mi_if] at hf
set_option maxHeartbeats 1000000 in
theorem ok_icmp_ne {off : Int} {tgt : Nat} (d : decode cc pc = .ok (.if_icmp .ne off, 3)) (ht : (pc : Int) + off = (tgt : Int)) : mm_Ok GW NW D cl tys ad cA K kd N l R own cc nL S pc (mi_cmp (fun x y => ¬ x = y) tgt) := by
  intro p e s m args below meth c A cells slots Q X o g g' P hpc hf hP9 hG h1 h2 H locs ls hP hD hS hL
  obtain ⟨M, pc', gl, st⟩ := g
  simp only at hpc
  subst hpc
  obtain ⟨⟨hx, hb, hml, hown⟩, hts, hnw, hK, hlay, hA, hlk, hcl, hsl⟩ := X
  simp only at h1 h2 hP hD hL
  obtain ⟨w, o2⟩ := o
  rcases w with _ | w <;> rcases st with _ | ⟨y | y, _ | ⟨x | x, t⟩⟩
  · simp [mi_cmp] at hf
  · simp [mi_cmp] at hf
  · obtain ⟨rfl, rfl⟩ := Prod.mk.inj (Option.some.inj (show some (((M, pc' + 3, gl, t) : mm_C), ¬ (¬ x = y)) = some (g', P) from hf))
    exact lv_icmp_ne hx hb d ht (fun z => absurd z hP9) (fun _ => hG (sk_t (sk_t h1)) h2 H locs ls hP hD hS hL)
  · simp [mi_cmp] at hf
  · simp [mi_cmp] at hf
  · simp [mi_cmp] at hf
  · simp [mi_cmp] at hf
  · simp [mi_cmp] at hf
  · simp [mi_cmp] at hf
  · obtain ⟨rfl, rfl⟩ := Prod.mk.inj (Option.some.inj (show some (((M, tgt, gl, t) : mm_C), (¬ x = y)) = some (g', P) from hf))
    exact lv_icmp_ne hx hb d ht (fun _ => hG (sk_t (sk_t h1)) h2 H locs ls hP hD hS hL) (fun z => absurd z hP9)
  · simp [mi_cmp] at hf
  · simp [mi_cmp] at hf
  · simp [mi_cmp] at hf
  · simp [mi_cmp] at hf
set_option maxHeartbeats 1000000 in
theorem ok_if_lt {off : Int} {tgt : Nat} (d : decode cc pc = .ok (.ifCond .lt off, 3)) (ht : (pc : Int) + off = (tgt : Int)) : mm_Ok GW NW D cl tys ad cA K kd N l R own cc nL S pc (mi_if (fun x => x < 0) tgt) := by
  intro p e s m args below meth c A cells slots Q X o g g' P hpc hf hP9 hG h1 h2 H locs ls hP hD hS hL
  obtain ⟨M, pc', gl, st⟩ := g
  simp only at hpc
  subst hpc
  obtain ⟨⟨hx, hb, hml, hown⟩, hts, hnw, hK, hlay, hA, hlk, hcl, hsl⟩ := X
  simp only at h1 h2 hP hD hL
  obtain ⟨w, o2⟩ := o
  rcases w with _ | w <;> rcases st with _ | ⟨x | x, t⟩
  · simp [mi_if] at hf
  · obtain ⟨rfl, rfl⟩ := Prod.mk.inj (Option.some.inj (show some (((M, pc' + 3, gl, t) : mm_C), ¬ (x < 0)) = some (g', P) from hf))
    exact lv_if_lt hx hb d ht (fun z => absurd z hP9) (fun _ => hG (sk_t h1) h2 H locs ls hP hD hS hL)
  · simp [mi_if] at hf
  · simp [mi_if] at hf
  · obtain ⟨rfl, rfl⟩ := Prod.mk.inj (Option.some.inj (show some (((M, tgt, gl, t) : mm_C), (x < 0)) = some (g', P) from hf))
    exact lv_if_lt hx hb d ht (fun _ => hG (sk_t h1) h2 H locs ls hP hD hS hL) (fun z => absurd hP9 z)
  · simp [mi_if] at hf
set_option maxHeartbeats 1000000 in
theorem ok_icmp_lt {off : Int} {tgt : Nat} (d : decode cc pc = .ok (.if_icmp .lt off, 3)) (ht : (pc : Int) + off = (tgt : Int)) : mm_Ok GW NW D cl tys ad cA K kd N l R own cc nL S pc (mi_cmp (fun x y => x < y) tgt) := by
  intro p e s m args below meth c A cells slots Q X o g g' P hpc hf hP9 hG h1 h2 H locs ls hP hD hS hL
  obtain ⟨M, pc', gl, st⟩ := g
  simp only at hpc
  subst hpc
  obtain ⟨⟨hx, hb, hml, hown⟩, hts, hnw, hK, hlay, hA, hlk, hcl, hsl⟩ := X
  simp only at h1 h2 hP hD hL
  obtain ⟨w, o2⟩ := o
  rcases w with _ | w <;> rcases st with _ | ⟨y | y, _ | ⟨x | x, t⟩⟩
  · simp [mi_cmp] at hf
  · simp [mi_cmp] at hf
  · obtain ⟨rfl, rfl⟩ := Prod.mk.inj (Option.some.inj (show some (((M, pc' + 3, gl, t) : mm_C), ¬ (x < y)) = some (g', P) from hf))
    exact lv_icmp_lt hx hb d ht (fun z => absurd z hP9) (fun _ => hG (sk_t (sk_t h1)) h2 H locs ls hP hD hS hL)
  · simp [mi_cmp] at hf
  · simp [mi_cmp] at hf
  · simp [mi_cmp] at hf
  · simp [mi_cmp] at hf
  · simp [mi_cmp] at hf
  · simp [mi_cmp] at hf
  · obtain ⟨rfl, rfl⟩ := Prod.mk.inj (Option.some.inj (show some (((M, tgt, gl, t) : mm_C), (x < y)) = some (g', P) from hf))
    exact lv_icmp_lt hx hb d ht (fun _ => hG (sk_t (sk_t h1)) h2 H locs ls hP hD hS hL) (fun z => absurd hP9 z)
  · simp [mi_cmp] at hf
  · simp [mi_cmp] at hf
  · simp [mi_cmp] at hf
  · simp [mi_cmp] at hf
set_option maxHeartbeats 1000000 in
theorem ok_if_ge {off : Int} {tgt : Nat} (d : decode cc pc = .ok (.ifCond .ge off, 3)) (ht : (pc : Int) + off = (tgt : Int)) : mm_Ok GW NW D cl tys ad cA K kd N l R own cc nL S pc (mi_if (fun x => 0 ≤ x) tgt) := by
  intro p e s m args below meth c A cells slots Q X o g g' P hpc hf hP9 hG h1 h2 H locs ls hP hD hS hL
  obtain ⟨M, pc', gl, st⟩ := g
  simp only at hpc
  subst hpc
  obtain ⟨⟨hx, hb, hml, hown⟩, hts, hnw, hK, hlay, hA, hlk, hcl, hsl⟩ := X
  simp only at h1 h2 hP hD hL
  obtain ⟨w, o2⟩ := o
  rcases w with _ | w <;> rcases st with _ | ⟨x | x, t⟩
  · simp [mi_if] at hf
  · obtain ⟨rfl, rfl⟩ := Prod.mk.inj (Option.some.inj (show some (((M, pc' + 3, gl, t) : mm_C), ¬ (0 ≤ x)) = some (g', P) from hf))
    exact lv_if_ge hx hb d ht (fun z => absurd z hP9) (fun _ => hG (sk_t h1) h2 H locs ls hP hD hS hL)
  · simp [mi_if] at hf
  · simp [mi_if] at hf
  · obtain ⟨rfl, rfl⟩ := Prod.mk.inj (Option.some.inj (show some (((M, tgt, gl, t) : mm_C), (0 ≤ x)) = some (g', P) from hf))
    exact lv_if_ge hx hb d ht (fun _ => hG (sk_t h1) h2 H locs ls hP hD hS hL) (fun z => absurd hP9 z)
  · simp [mi_if] at hf
set_option maxHeartbeats 1000000 in
theorem ok_icmp_ge {off : Int} {tgt : Nat} (d : decode cc pc = .ok (.if_icmp .ge off, 3)) (ht : (pc : Int) + off = (tgt : Int)) : mm_Ok GW NW D cl tys ad cA K kd N l R own cc nL S pc (mi_cmp (fun x y => y ≤ x) tgt) := by
  intro p e s m args below meth c A cells slots Q X o g g' P hpc hf hP9 hG h1 h2 H locs ls hP hD hS hL
  obtain ⟨M, pc', gl, st⟩ := g
  simp only at hpc
  subst hpc
  obtain ⟨⟨hx, hb, hml, hown⟩, hts, hnw, hK, hlay, hA, hlk, hcl, hsl⟩ := X
  simp only at h1 h2 hP hD hL
  obtain ⟨w, o2⟩ := o
  rcases w with _ | w <;> rcases st with _ | ⟨y | y, _ | ⟨x | x, t⟩⟩
  · simp [mi_cmp] at hf
  · simp [mi_cmp] at hf
  · obtain ⟨rfl, rfl⟩ := Prod.mk.inj (Option.some.inj (show some (((M, pc' + 3, gl, t) : mm_C), ¬ (y ≤ x)) = some (g', P) from hf))
    exact lv_icmp_ge hx hb d ht (fun z => absurd z hP9) (fun _ => hG (sk_t (sk_t h1)) h2 H locs ls hP hD hS hL)
  · simp [mi_cmp] at hf
  · simp [mi_cmp] at hf
  · simp [mi_cmp] at hf
  · simp [mi_cmp] at hf
  · simp [mi_cmp] at hf
  · simp [mi_cmp] at hf
  · obtain ⟨rfl, rfl⟩ := Prod.mk.inj (Option.some.inj (show some (((M, tgt, gl, t) : mm_C), (y ≤ x)) = some (g', P) from hf))
    exact lv_icmp_ge hx hb d ht (fun _ => hG (sk_t (sk_t h1)) h2 H locs ls hP hD hS hL) (fun z => absurd hP9 z)
  · simp [mi_cmp] at hf
  · simp [mi_cmp] at hf
  · simp [mi_cmp] at hf
  · simp [mi_cmp] at hf
set_option maxHeartbeats 1000000 in
theorem ok_if_gt {off : Int} {tgt : Nat} (d : decode cc pc = .ok (.ifCond .gt off, 3)) (ht : (pc : Int) + off = (tgt : Int)) : mm_Ok GW NW D cl tys ad cA K kd N l R own cc nL S pc (mi_if (fun x => 0 < x) tgt) := by
  intro p e s m args below meth c A cells slots Q X o g g' P hpc hf hP9 hG h1 h2 H locs ls hP hD hS hL
  obtain ⟨M, pc', gl, st⟩ := g
  simp only at hpc
  subst hpc
  obtain ⟨⟨hx, hb, hml, hown⟩, hts, hnw, hK, hlay, hA, hlk, hcl, hsl⟩ := X
  simp only at h1 h2 hP hD hL
  obtain ⟨w, o2⟩ := o
  rcases w with _ | w <;> rcases st with _ | ⟨x | x, t⟩
  · simp [mi_if] at hf
  · obtain ⟨rfl, rfl⟩ := Prod.mk.inj (Option.some.inj (show some (((M, pc' + 3, gl, t) : mm_C), ¬ (0 < x)) = some (g', P) from hf))
    exact lv_if_gt hx hb d ht (fun z => absurd z hP9) (fun _ => hG (sk_t h1) h2 H locs ls hP hD hS hL)
  · simp [mi_if] at hf
  · simp [mi_if] at hf
  · obtain ⟨rfl, rfl⟩ := Prod.mk.inj (Option.some.inj (show some (((M, tgt, gl, t) : mm_C), (0 < x)) = some (g', P) from hf))
    exact lv_if_gt hx hb d ht (fun _ => hG (sk_t h1) h2 H locs ls hP hD hS hL) (fun z => absurd hP9 z)
  · simp [mi_if] at hf
set_option maxHeartbeats 1000000 in
theorem ok_icmp_gt {off : Int} {tgt : Nat} (d : decode cc pc = .ok (.if_icmp .gt off, 3)) (ht : (pc : Int) + off = (tgt : Int)) : mm_Ok GW NW D cl tys ad cA K kd N l R own cc nL S pc (mi_cmp (fun x y => y < x) tgt) := by
  intro p e s m args below meth c A cells slots Q X o g g' P hpc hf hP9 hG h1 h2 H locs ls hP hD hS hL
  obtain ⟨M, pc', gl, st⟩ := g
  simp only at hpc
  subst hpc
  obtain ⟨⟨hx, hb, hml, hown⟩, hts, hnw, hK, hlay, hA, hlk, hcl, hsl⟩ := X
  simp only at h1 h2 hP hD hL
  obtain ⟨w, o2⟩ := o
  rcases w with _ | w <;> rcases st with _ | ⟨y | y, _ | ⟨x | x, t⟩⟩
  · simp [mi_cmp] at hf
  · simp [mi_cmp] at hf
  · obtain ⟨rfl, rfl⟩ := Prod.mk.inj (Option.some.inj (show some (((M, pc' + 3, gl, t) : mm_C), ¬ (y < x)) = some (g', P) from hf))
    exact lv_icmp_gt hx hb d ht (fun z => absurd z hP9) (fun _ => hG (sk_t (sk_t h1)) h2 H locs ls hP hD hS hL)
  · simp [mi_cmp] at hf
  · simp [mi_cmp] at hf
  · simp [mi_cmp] at hf
  · simp [mi_cmp] at hf
  · simp [mi_cmp] at hf
  · simp [mi_cmp] at hf
  · obtain ⟨rfl, rfl⟩ := Prod.mk.inj (Option.some.inj (show some (((M, tgt, gl, t) : mm_C), (y < x)) = some (g', P) from hf))
    exact lv_icmp_gt hx hb d ht (fun _ => hG (sk_t (sk_t h1)) h2 H locs ls hP hD hS hL) (fun z => absurd hP9 z)
  · simp [mi_cmp] at hf
  · simp [mi_cmp] at hf
  · simp [mi_cmp] at hf
  · simp [mi_cmp] at hf
set_option maxHeartbeats 1000000 in
theorem ok_if_le {off : Int} {tgt : Nat} (d : decode cc pc = .ok (.ifCond .le off, 3)) (ht : (pc : Int) + off = (tgt : Int)) : mm_Ok GW NW D cl tys ad cA K kd N l R own cc nL S pc (mi_if (fun x => x ≤ 0) tgt) := by
  intro p e s m args below meth c A cells slots Q X o g g' P hpc hf hP9 hG h1 h2 H locs ls hP hD hS hL
  obtain ⟨M, pc', gl, st⟩ := g
  simp only at hpc
  subst hpc
  obtain ⟨⟨hx, hb, hml, hown⟩, hts, hnw, hK, hlay, hA, hlk, hcl, hsl⟩ := X
  simp only at h1 h2 hP hD hL
  obtain ⟨w, o2⟩ := o
  rcases w with _ | w <;> rcases st with _ | ⟨x | x, t⟩
  · simp [mi_if] at hf
  · obtain ⟨rfl, rfl⟩ := Prod.mk.inj (Option.some.inj (show some (((M, pc' + 3, gl, t) : mm_C), ¬ (x ≤ 0)) = some (g', P) from hf))
    exact lv_if_le hx hb d ht (fun z => absurd z hP9) (fun _ => hG (sk_t h1) h2 H locs ls hP hD hS hL)
  · simp [mi_if] at hf
  · simp [mi_if] at hf
  · obtain ⟨rfl, rfl⟩ := Prod.mk.inj (Option.some.inj (show some (((M, tgt, gl, t) : mm_C), (x ≤ 0)) = some (g', P) from hf))
    exact lv_if_le hx hb d ht (fun _ => hG (sk_t h1) h2 H locs ls hP hD hS hL) (fun z => absurd hP9 z)
  · simp [mi_if] at hf
set_option maxHeartbeats 1000000 in
theorem ok_icmp_le {off : Int} {tgt : Nat} (d : decode cc pc = .ok (.if_icmp .le off, 3)) (ht : (pc : Int) + off = (tgt : Int)) : mm_Ok GW NW D cl tys ad cA K kd N l R own cc nL S pc (mi_cmp (fun x y => x ≤ y) tgt) := by
  intro p e s m args below meth c A cells slots Q X o g g' P hpc hf hP9 hG h1 h2 H locs ls hP hD hS hL
  obtain ⟨M, pc', gl, st⟩ := g
  simp only at hpc
  subst hpc
  obtain ⟨⟨hx, hb, hml, hown⟩, hts, hnw, hK, hlay, hA, hlk, hcl, hsl⟩ := X
  simp only at h1 h2 hP hD hL
  obtain ⟨w, o2⟩ := o
  rcases w with _ | w <;> rcases st with _ | ⟨y | y, _ | ⟨x | x, t⟩⟩
  · simp [mi_cmp] at hf
  · simp [mi_cmp] at hf
  · obtain ⟨rfl, rfl⟩ := Prod.mk.inj (Option.some.inj (show some (((M, pc' + 3, gl, t) : mm_C), ¬ (x ≤ y)) = some (g', P) from hf))
    exact lv_icmp_le hx hb d ht (fun z => absurd z hP9) (fun _ => hG (sk_t (sk_t h1)) h2 H locs ls hP hD hS hL)
  · simp [mi_cmp] at hf
  · simp [mi_cmp] at hf
  · simp [mi_cmp] at hf
  · simp [mi_cmp] at hf
  · simp [mi_cmp] at hf
  · simp [mi_cmp] at hf
  · obtain ⟨rfl, rfl⟩ := Prod.mk.inj (Option.some.inj (show some (((M, tgt, gl, t) : mm_C), (x ≤ y)) = some (g', P) from hf))
    exact lv_icmp_le hx hb d ht (fun _ => hG (sk_t (sk_t h1)) h2 H locs ls hP hD hS hL) (fun z => absurd hP9 z)
  · simp [mi_cmp] at hf
  · simp [mi_cmp] at hf
  · simp [mi_cmp] at hf
  · simp [mi_cmp] at hf
set_option maxHeartbeats 1000000 in
theorem ok_tsw {dflt lo hi : Int} {offs : Array Int} {len dt : Nat} {tgts : List Nat} (d : decode cc pc = .ok (.tableswitch dflt lo hi offs, len)) (hd : (pc : Int) + dflt = (dt : Int)) (hn : hi = lo + (tgts.length : Int) - 1) (ho : offs.toList.map (fun q => (pc : Int) + q) = tgts.map (fun q : Nat => (q : Int))) : mm_Ok GW NW D cl tys ad cA K kd N l R own cc nL S pc (mi_tsw lo hi tgts dt) := by
  intro p e s m args below meth c A cells slots Q X o g g' P hpc hf hP9 hG h1 h2 H locs ls hP hD hS hL
  obtain ⟨M, pc', gl, st⟩ := g
  simp only at hpc
  subst hpc
  obtain ⟨⟨hx, hb, hml, hown⟩, hts, hnw, hK, hlay, hA, hlk, hcl, hsl⟩ := X
  simp only at h1 h2 hP hD hL
  obtain ⟨w, o2⟩ := o
  rcases w with _ | w <;> rcases st with _ | ⟨x | x, t⟩
  · simp [mi_tsw] at hf
  · obtain ⟨rfl, rfl⟩ := Prod.mk.inj (Option.some.inj (show some (((M, dt, gl, t) : mm_C), (x.toInt < lo ∨ hi < x.toInt)) = some (g', P) from hf))
    exact lv_tableOut hx hb d hP9 hd (hG (sk_t h1) h2 H locs ls hP hD hS hL)
  · simp [mi_tsw] at hf
  · simp [mi_tsw] at hf
  · cases hg : tgts[w]? with
    | none => simp [mi_tsw, hg] at hf
    | some tg =>
      obtain ⟨rfl, rfl⟩ := Prod.mk.inj (Option.some.inj (show some (((M, tg, gl, t) : mm_C), (x.toInt = lo + w)) = some (g', P) from by rw [← hf]; simp [mi_tsw, hg]))
      have hlt := (List.getElem?_eq_some_iff.mp hg).1
      have h3 : (offs.toList.map (fun q => (pc' : Int) + q))[w]? = some (tg : Int) := by rw [ho, List.getElem?_map, hg]; rfl
      rw [List.getElem?_map] at h3
      cases h4 : offs.toList[w]? with
      | none => rw [h4] at h3; simp at h3
      | some off =>
        rw [h4] at h3
        have h5 : (pc' : Int) + off = (tg : Int) := by simpa using h3
        have h6 : x.toInt = lo + w := hP9
        exact lv_tableIn (tgt := tg) hx hb d (by omega) (by omega) (off := off) (by rw [show (x.toInt - lo).toNat = w by omega, ← Array.getElem?_toList]; exact h4) h5 (hG (sk_t h1) h2 H locs ls hP hD hS hL)
  · simp [mi_tsw] at hf
set_option maxHeartbeats 1000000 in
theorem ok_getf {ci k idx Nf : Nat} {C : String} {T : u_T} {F : List (Option (Nat × Nat))} (hc : cl[ci]? = some (C, T, Nf)) (hin : ∀ w ∈ u_ws C T Nf, w ∈ GW) (hk : k < Nf) (hl : Cond.fieldLink own idx (T k).1 (T k).2.1 (T k).2.2.1 ∈ GW) (hF : K ci = .inl F) (hFk : F[k]? = some none) (d : decode cc pc = .ok (.getfield idx, 3)) : mm_Ok GW NW D cl tys ad cA K kd N l R own cc nL S pc (mi_getf ci k) := by
  intro p e s m args below meth c A cells slots Q X o g g' P hpc hf hP9 hG h1 h2 H locs ls hP hD hS hL
  obtain ⟨M, pc', gl, st⟩ := g
  simp only at hpc
  subst hpc
  obtain ⟨⟨hx, hb, hml, hown⟩, hts, hnw, hK, hlay, hA, hlk, hcl, hsl⟩ := X
  simp only at h1 h2 hP hD hL
  rcases st with _ | ⟨y | ⟨c0, i⟩, t⟩
  · simp [mi_getf] at hf
  · simp [mi_getf] at hf
  · by_cases hci : c0 = ci
    · subst hci
      obtain ⟨rfl, rfl⟩ := Prod.mk.inj (Option.some.inj (show some (((M, pc' + 3, gl, .inl (M i k) :: t) : mm_C), True) = some (g', P) from by rw [← hf]; simp [mi_getf]))
      obtain ⟨hi, hkd⟩ := sk_h h1
      obtain ⟨q0, hq0, he⟩ := mm_W_get (ad := ad) (cA := cA) (K := K) (kd := kd) (M := M) hi
      rw [hkd, mm_E_obj hF] at he
      have hv := mm_fs_int (ad := ad) (i := i) (r := M i) F 0 k hFk
      rw [Nat.zero_add] at hv
      exact va_get (own := own) (ref := (T k).1) (C := C) (T := T) (N := Nf) (ci := c0) hx hb hts hin hown hK hP q0 he hc k hk (hts _ hl) (fun _ h => h) hv d (hG (sk_i (sk_t h1)) h2 H locs ls hP hD hS hL)
    · simp [mi_getf, hci] at hf
set_option maxHeartbeats 1000000 in
theorem ok_getr {ck off : Nat} {ci k idx Nf : Nat} {C : String} {T : u_T} {F : List (Option (Nat × Nat))} (hc : cl[ci]? = some (C, T, Nf)) (hin : ∀ w ∈ u_ws C T Nf, w ∈ GW) (hk : k < Nf) (hl : Cond.fieldLink own idx (T k).1 (T k).2.1 (T k).2.2.1 ∈ GW) (hF : K ci = .inl F) (hFk : F[k]? = some (some (ck, off))) (d : decode cc pc = .ok (.getfield idx, 3)) : mm_Ok GW NW D cl tys ad cA K kd N l R own cc nL S pc (mi_getr ci ck off) := by
  intro p e s m args below meth c A cells slots Q X o g g' P hpc hf hP9 hG h1 h2 H locs ls hP hD hS hL
  obtain ⟨M, pc', gl, st⟩ := g
  simp only at hpc
  subst hpc
  obtain ⟨⟨hx, hb, hml, hown⟩, hts, hnw, hK, hlay, hA, hlk, hcl, hsl⟩ := X
  simp only at h1 h2 hP hD hL
  rcases st with _ | ⟨y | ⟨c0, i⟩, t⟩
  · simp [mi_getr] at hf
  · simp [mi_getr] at hf
  · by_cases hci : c0 = ci
    · subst hci
      obtain ⟨rfl, rfl⟩ := Prod.mk.inj (Option.some.inj (show some (((M, pc' + 3, gl, .inr (ck, i + off) :: t) : mm_C), True) = some (g', P) from by rw [← hf]; simp [mi_getr]))
      obtain ⟨hi, hkd⟩ := sk_h h1
      obtain ⟨q0, hq0, he⟩ := mm_W_get (ad := ad) (cA := cA) (K := K) (kd := kd) (M := M) hi
      rw [hkd, mm_E_obj hF] at he
      have hv := mm_fs_ref (ad := ad) (i := i) (r := M i) F 0 k hFk
      have hl9 := hlay.2 i hi
      rw [hkd, hF] at hl9
      exact va_get (own := own) (ref := (T k).1) (C := C) (T := T) (N := Nf) (ci := c0) hx hb hts hin hown hK hP q0 he hc k hk (hts _ hl) (fun _ h => h) hv d (hG (sk_r (hl9 k ck off hFk) (sk_t h1)) h2 H locs ls hP hD hS hL)
    · simp [mi_getr, hci] at hf
set_option maxHeartbeats 1000000 in
theorem ok_putf {ci k idx Nf : Nat} {C : String} {T : u_T} {F : List (Option (Nat × Nat))} (hc : cl[ci]? = some (C, T, Nf)) (hin : ∀ w ∈ u_ws C T Nf, w ∈ GW) (hk : k < Nf) (hl : Cond.fieldLink own idx (T k).1 (T k).2.1 (T k).2.2.1 ∈ GW) (hF : K ci = .inl F) (ty0 : Nat → FieldType) (hty : ∀ k, k < Nf → parseFieldDescriptor (T k).2.2.1 = some (ty0 k)) (hnm : ∀ a, a < Nf → ∀ b, b < Nf → a ≠ b → (T a).2.1 ≠ (T b).2.1) (hfin : (T k).2.2.2 = false) (hd : parseFieldDescriptor (T k).2.2.1 = some .int) (hFk : F[k]? = some none) (d : decode cc pc = .ok (.putfield idx, 3)) : mm_Ok GW NW D cl tys ad cA K kd N l R own cc nL S pc (mi_putf ci k) := by
  intro p e s m args below meth c A cells slots Q X o g g' P hpc hf hP9 hG h1 h2 H locs ls hP hD hS hL
  obtain ⟨M, pc', gl, st⟩ := g
  simp only at hpc
  subst hpc
  obtain ⟨⟨hx, hb, hml, hown⟩, hts, hnw, hK, hlay, hA, hlk, hcl, hsl⟩ := X
  simp only at h1 h2 hP hD hL
  rcases st with _ | ⟨x | x, _ | ⟨y | ⟨c0, i⟩, t⟩⟩
  · simp [mi_putf] at hf
  · simp [mi_putf] at hf
  · simp [mi_putf] at hf
  · by_cases hci : c0 = ci
    · subst hci
      obtain ⟨rfl, rfl⟩ := Prod.mk.inj (Option.some.inj (show some (((mm_up M i k x, pc' + 3, gl, t) : mm_C), True) = some (g', P) from by rw [← hf]; simp [mi_putf]))
      obtain ⟨hi, hkd⟩ := sk_h (sk_t h1)
      obtain ⟨q0, hq0, he⟩ := mm_W_get (ad := ad) (cA := cA) (K := K) (kd := kd) (M := M) hi
      rw [hkd, mm_E_obj hF] at he
      have hset : (mm_W ad cA K kd N M).set q0 (ad i, .inr (c0, (mm_fs ad i (M i) 0 F).set k (.int x))) = mm_W ad cA K kd N (mm_up M i k x) := by
        refine mm_W_set hlay.1 hq0 ?_ (fun j hj => mm_up_i M k x hj)
        rw [hkd, mm_up_row, mm_E_obj hF, mm_fs_set F 0 k hFk, Nat.zero_add]
      refine va_put (own := own) (ref := (T k).1) (C := C) (T := T) (N := Nf) (ci := c0) (v := .int x) (ty := .int) hx hb hts hin ty0 hty hnm hown hK hP hD hS q0 he hc k hk (hts _ hl) (fun _ h => h) hfin hd rfl rfl (by rw [mm_fs_len]; exact (List.getElem?_eq_some_iff.mp hFk).1) d (fun H1 locs1 hP1 hD1 hS1 => ?_)
      rw [hset] at hP1 hD1
      exact hG (sk_t (sk_t h1)) h2 H1 locs1 ls hP1 hD1 hS1 hL
    · simp [mi_putf, hci] at hf
  · simp [mi_putf] at hf
  · simp [mi_putf] at hf
  · simp [mi_putf] at hf
set_option maxHeartbeats 1000000 in
theorem ok_putz {ci k idx Nf : Nat} {C : String} {T : u_T} {F : List (Option (Nat × Nat))} (hc : cl[ci]? = some (C, T, Nf)) (hin : ∀ w ∈ u_ws C T Nf, w ∈ GW) (hk : k < Nf) (hl : Cond.fieldLink own idx (T k).1 (T k).2.1 (T k).2.2.1 ∈ GW) (hF : K ci = .inl F) (ty0 : Nat → FieldType) (hty : ∀ k, k < Nf → parseFieldDescriptor (T k).2.2.1 = some (ty0 k)) (hnm : ∀ a, a < Nf → ∀ b, b < Nf → a ≠ b → (T a).2.1 ≠ (T b).2.1) (hfin : (T k).2.2.2 = false) (hd : parseFieldDescriptor (T k).2.2.1 = some .boolean) (hFk : F[k]? = some none) (d : decode cc pc = .ok (.putfield idx, 3)) : mm_Ok GW NW D cl tys ad cA K kd N l R own cc nL S pc (mi_putz ci k) := by
  intro p e s m args below meth c A cells slots Q X o g g' P hpc hf hP9 hG h1 h2 H locs ls hP hD hS hL
  obtain ⟨M, pc', gl, st⟩ := g
  simp only at hpc
  subst hpc
  obtain ⟨⟨hx, hb, hml, hown⟩, hts, hnw, hK, hlay, hA, hlk, hcl, hsl⟩ := X
  simp only at h1 h2 hP hD hL
  rcases st with _ | ⟨x | x, _ | ⟨y | ⟨c0, i⟩, t⟩⟩
  · simp [mi_putz] at hf
  · simp [mi_putz] at hf
  · simp [mi_putz] at hf
  · by_cases hci : c0 = ci
    · subst hci
      obtain ⟨rfl, rfl⟩ := Prod.mk.inj (Option.some.inj (show some (((mm_up M i k x, pc' + 3, gl, t) : mm_C), x = 0 ∨ x = 1) = some (g', P) from by rw [← hf]; simp [mi_putz]))
      obtain ⟨hi, hkd⟩ := sk_h (sk_t h1)
      obtain ⟨q0, hq0, he⟩ := mm_W_get (ad := ad) (cA := cA) (K := K) (kd := kd) (M := M) hi
      rw [hkd, mm_E_obj hF] at he
      have hset : (mm_W ad cA K kd N M).set q0 (ad i, .inr (c0, (mm_fs ad i (M i) 0 F).set k (.int x))) = mm_W ad cA K kd N (mm_up M i k x) := by
        refine mm_W_set hlay.1 hq0 ?_ (fun j hj => mm_up_i M k x hj)
        rw [hkd, mm_up_row, mm_E_obj hF, mm_fs_set F 0 k hFk, Nat.zero_add]
      refine va_put (own := own) (ref := (T k).1) (C := C) (T := T) (N := Nf) (ci := c0) (v := .int x) (ty := .boolean) hx hb hts hin ty0 hty hnm hown hK hP hD hS q0 he hc k hk (hts _ hl) (fun _ h => h) hfin hd (by rcases hP9 with rfl | rfl <;> rfl) (by rcases hP9 with rfl | rfl <;> rfl) (by rw [mm_fs_len]; exact (List.getElem?_eq_some_iff.mp hFk).1) d (fun H1 locs1 hP1 hD1 hS1 => ?_)
      rw [hset] at hP1 hD1
      exact hG (sk_t (sk_t h1)) h2 H1 locs1 ls hP1 hD1 hS1 hL
    · simp [mi_putz, hci] at hf
  · simp [mi_putz] at hf
  · simp [mi_putz] at hf
  · simp [mi_putz] at hf
set_option maxHeartbeats 1000000 in
theorem ok_iald {ck t9 n : Nat} (hn : n < 2 ^ 31) (hF : K ck = .inr (.inl (t9, n))) (ht : tys[t9]? = some (cA t9, .int)) (d : decode cc pc = .ok (.iaload, 1)) : mm_Ok GW NW D cl tys ad cA K kd N l R own cc nL S pc (mi_ald ck n) := by
  intro p e s m args below meth c A cells slots Q X o g g' P hpc hf hP9 hG h1 h2 H locs ls hP hD hS hL
  obtain ⟨M, pc', gl, st⟩ := g
  simp only at hpc
  subst hpc
  obtain ⟨⟨hx, hb, hml, hown⟩, hts, hnw, hK, hlay, hA, hlk, hcl, hsl⟩ := X
  simp only at h1 h2 hP hD hL
  rcases st with _ | ⟨x | x, _ | ⟨y | ⟨c0, i⟩, t⟩⟩
  · simp [mi_ald] at hf
  · simp [mi_ald] at hf
  · simp [mi_ald] at hf
  · by_cases hci : c0 = ck
    · subst hci
      obtain ⟨rfl, rfl⟩ := Prod.mk.inj (Option.some.inj (show some (((M, pc' + 1, gl, .inl (M i o.1) :: t) : mm_C), x = nI o.1 ∧ o.1 < n) = some (g', P) from by rw [← hf]; simp [mi_ald]))
      obtain ⟨rfl, hj⟩ := hP9
      have hcl9 := nI_clamp (n := o.1) (by omega)
      obtain ⟨hi, hkd⟩ := sk_h (sk_t h1)
      obtain ⟨q0, hq0, he⟩ := mm_W_get (ad := ad) (cA := cA) (K := K) (kd := kd) (M := M) hi
      rw [hkd, mm_E_prim hF] at he
      refine va_iald hx hb hK hP q0 t9 he ht (vp_in_nI hj hn) d ?_
      rw [hcl9]
      exact hG (sk_i (sk_t (sk_t h1))) h2 H locs ls hP hD hS hL
    · simp [mi_ald, hci] at hf
  · simp [mi_ald] at hf
  · simp [mi_ald] at hf
  · simp [mi_ald] at hf
set_option maxHeartbeats 1000000 in
theorem ok_zald {ck t9 n : Nat} (hn : n < 2 ^ 31) (hF : K ck = .inr (.inl (t9, n))) (ht : tys[t9]? = some (cA t9, .boolean)) (d : decode cc pc = .ok (.baload, 1)) : mm_Ok GW NW D cl tys ad cA K kd N l R own cc nL S pc (mi_ald ck n) := by
  intro p e s m args below meth c A cells slots Q X o g g' P hpc hf hP9 hG h1 h2 H locs ls hP hD hS hL
  obtain ⟨M, pc', gl, st⟩ := g
  simp only at hpc
  subst hpc
  obtain ⟨⟨hx, hb, hml, hown⟩, hts, hnw, hK, hlay, hA, hlk, hcl, hsl⟩ := X
  simp only at h1 h2 hP hD hL
  rcases st with _ | ⟨x | x, _ | ⟨y | ⟨c0, i⟩, t⟩⟩
  · simp [mi_ald] at hf
  · simp [mi_ald] at hf
  · simp [mi_ald] at hf
  · by_cases hci : c0 = ck
    · subst hci
      obtain ⟨rfl, rfl⟩ := Prod.mk.inj (Option.some.inj (show some (((M, pc' + 1, gl, .inl (M i o.1) :: t) : mm_C), x = nI o.1 ∧ o.1 < n) = some (g', P) from by rw [← hf]; simp [mi_ald]))
      obtain ⟨rfl, hj⟩ := hP9
      have hcl9 := nI_clamp (n := o.1) (by omega)
      obtain ⟨hi, hkd⟩ := sk_h (sk_t h1)
      obtain ⟨q0, hq0, he⟩ := mm_W_get (ad := ad) (cA := cA) (K := K) (kd := kd) (M := M) hi
      rw [hkd, mm_E_prim hF] at he
      refine va_zald hx hb hK hP q0 t9 he ht (vp_in_nI hj hn) d ?_
      rw [hcl9]
      exact hG (sk_i (sk_t (sk_t h1))) h2 H locs ls hP hD hS hL
    · simp [mi_ald, hci] at hf
  · simp [mi_ald] at hf
  · simp [mi_ald] at hf
  · simp [mi_ald] at hf
set_option maxHeartbeats 1000000 in
theorem ok_iast {ck t9 n : Nat} (hn : n < 2 ^ 31) (hF : K ck = .inr (.inl (t9, n))) (ht : tys[t9]? = some (cA t9, .int)) (d : decode cc pc = .ok (.iastore, 1)) : mm_Ok GW NW D cl tys ad cA K kd N l R own cc nL S pc (mi_ast ck n) := by
  intro p e s m args below meth c A cells slots Q X o g g' P hpc hf hP9 hG h1 h2 H locs ls hP hD hS hL
  obtain ⟨M, pc', gl, st⟩ := g
  simp only at hpc
  subst hpc
  obtain ⟨⟨hx, hb, hml, hown⟩, hts, hnw, hK, hlay, hA, hlk, hcl, hsl⟩ := X
  simp only at h1 h2 hP hD hL
  rcases st with _ | ⟨v | v, _ | ⟨x | x, _ | ⟨y | ⟨c0, i⟩, t⟩⟩⟩
  · simp [mi_ast] at hf
  · simp [mi_ast] at hf
  · simp [mi_ast] at hf
  · simp [mi_ast] at hf
  · by_cases hci : c0 = ck
    · subst hci
      obtain ⟨rfl, rfl⟩ := Prod.mk.inj (Option.some.inj (show some (((mm_up M i o.1 v, pc' + 1, gl, t) : mm_C), x = nI o.1 ∧ o.1 < n) = some (g', P) from by rw [← hf]; simp [mi_ast]))
      have hj := hP9
      obtain ⟨rfl, hj⟩ := hj
      have hcl9 := nI_clamp (n := o.1) (by omega)
      obtain ⟨hi, hkd⟩ := sk_h (sk_t (sk_t h1))
      obtain ⟨q0, hq0, he⟩ := mm_W_get (ad := ad) (cA := cA) (K := K) (kd := kd) (M := M) hi
      rw [hkd, mm_E_prim hF] at he
      have hset : (mm_W ad cA K kd N M).set q0 (ad i, .inl (cA t9, n, .inl (upd (M i) (nI o.1).toNatClampNeg v))) = mm_W ad cA K kd N (mm_up M i o.1 v) := by
        refine mm_W_set hlay.1 hq0 ?_ (fun j hj => mm_up_i M _ v hj)
        rw [hkd, mm_up_row, mm_E_prim hF, hcl9]
      refine va_iast hx hb hK hP hD hS q0 t9 he ht (vp_in_nI hj hn) d (fun H1 locs1 hP1 hD1 hS1 => ?_)
      rw [hset] at hP1 hD1
      exact hG (sk_t (sk_t (sk_t h1))) h2 H1 locs1 ls hP1 hD1 hS1 hL
    · simp [mi_ast, hci] at hf
  · simp [mi_ast] at hf
  · simp [mi_ast] at hf
  · simp [mi_ast] at hf
  · simp [mi_ast] at hf
  · simp [mi_ast] at hf
  · simp [mi_ast] at hf
  · simp [mi_ast] at hf
  · simp [mi_ast] at hf
  · simp [mi_ast] at hf
  · simp [mi_ast] at hf
set_option maxHeartbeats 1000000 in
theorem ok_zast {ck t9 n : Nat} (hn : n < 2 ^ 31) (hF : K ck = .inr (.inl (t9, n))) (ht : tys[t9]? = some (cA t9, .boolean)) (d : decode cc pc = .ok (.bastore, 1)) : mm_Ok GW NW D cl tys ad cA K kd N l R own cc nL S pc (mi_zst ck n) := by
  intro p e s m args below meth c A cells slots Q X o g g' P hpc hf hP9 hG h1 h2 H locs ls hP hD hS hL
  obtain ⟨M, pc', gl, st⟩ := g
  simp only at hpc
  subst hpc
  obtain ⟨⟨hx, hb, hml, hown⟩, hts, hnw, hK, hlay, hA, hlk, hcl, hsl⟩ := X
  simp only at h1 h2 hP hD hL
  rcases st with _ | ⟨v | v, _ | ⟨x | x, _ | ⟨y | ⟨c0, i⟩, t⟩⟩⟩
  · simp [mi_zst] at hf
  · simp [mi_zst] at hf
  · simp [mi_zst] at hf
  · simp [mi_zst] at hf
  · by_cases hci : c0 = ck
    · subst hci
      obtain ⟨rfl, rfl⟩ := Prod.mk.inj (Option.some.inj (show some (((mm_up M i o.1 v, pc' + 1, gl, t) : mm_C), (x = nI o.1 ∧ o.1 < n) ∧ (v = 0 ∨ v = 1)) = some (g', P) from by rw [← hf]; simp [mi_zst]))
      have hj := hP9.1
      obtain ⟨rfl, hj⟩ := hj
      have hcl9 := nI_clamp (n := o.1) (by omega)
      obtain ⟨hi, hkd⟩ := sk_h (sk_t (sk_t h1))
      obtain ⟨q0, hq0, he⟩ := mm_W_get (ad := ad) (cA := cA) (K := K) (kd := kd) (M := M) hi
      rw [hkd, mm_E_prim hF] at he
      have hset : (mm_W ad cA K kd N M).set q0 (ad i, .inl (cA t9, n, .inl (upd (M i) (nI o.1).toNatClampNeg (vp_nar .boolean v)))) = mm_W ad cA K kd N (mm_up M i o.1 v) := by
        refine mm_W_set hlay.1 hq0 ?_ (fun j hj => mm_up_i M _ v hj)
        rw [hkd, mm_up_row, mm_E_prim hF, hcl9]
        rcases hP9.2 with rfl | rfl <;> rfl
      refine va_zast hx hb hK hP hD hS q0 t9 he ht (vp_in_nI hj hn) d (fun H1 locs1 hP1 hD1 hS1 => ?_)
      rw [hset] at hP1 hD1
      exact hG (sk_t (sk_t (sk_t h1))) h2 H1 locs1 ls hP1 hD1 hS1 hL
    · simp [mi_zst, hci] at hf
  · simp [mi_zst] at hf
  · simp [mi_zst] at hf
  · simp [mi_zst] at hf
  · simp [mi_zst] at hf
  · simp [mi_zst] at hf
  · simp [mi_zst] at hf
  · simp [mi_zst] at hf
  · simp [mi_zst] at hf
  · simp [mi_zst] at hf
  · simp [mi_zst] at hf
set_option maxHeartbeats 1000000 in
theorem ok_aald {ck t9 n ek off : Nat} {C : String} (hn : n < 2 ^ 31) (hF : K ck = .inr (.inr (t9, n, ek, off))) (ht : tys[t9]? = some (cA t9, .object C)) (d : decode cc pc = .ok (.aaload, 1)) : mm_Ok GW NW D cl tys ad cA K kd N l R own cc nL S pc (mi_aald ck n ek off) := by
  intro p e s m args below meth c A cells slots Q X o g g' P hpc hf hP9 hG h1 h2 H locs ls hP hD hS hL
  obtain ⟨M, pc', gl, st⟩ := g
  simp only at hpc
  subst hpc
  obtain ⟨⟨hx, hb, hml, hown⟩, hts, hnw, hK, hlay, hA, hlk, hcl, hsl⟩ := X
  simp only at h1 h2 hP hD hL
  rcases st with _ | ⟨x | x, _ | ⟨y | ⟨c0, i⟩, t⟩⟩
  · simp [mi_aald] at hf
  · simp [mi_aald] at hf
  · simp [mi_aald] at hf
  · by_cases hci : c0 = ck
    · subst hci
      obtain ⟨rfl, rfl⟩ := Prod.mk.inj (Option.some.inj (show some (((M, pc' + 1, gl, .inr (ek, i + off + 32 * o.1) :: t) : mm_C), x = nI o.1 ∧ o.1 < n) = some (g', P) from by rw [← hf]; simp [mi_aald]))
      obtain ⟨rfl, hj⟩ := hP9
      have hcl9 := nI_clamp (n := o.1) (by omega)
      obtain ⟨hi, hkd⟩ := sk_h (sk_t h1)
      obtain ⟨q0, hq0, he⟩ := mm_W_get (ad := ad) (cA := cA) (K := K) (kd := kd) (M := M) hi
      rw [hkd, mm_E_refs hF] at he
      have hl9 := hlay.2 i hi
      rw [hkd, hF] at hl9
      refine va_aldq hx hb hK hP q0 t9 he ht (vp_in_nI hj hn) d ?_
      rw [hcl9]
      exact hG (sk_r (hl9 _ hj) (sk_t (sk_t h1))) h2 H locs ls hP hD hS hL
    · simp [mi_aald, hci] at hf
  · simp [mi_aald] at hf
  · simp [mi_aald] at hf
  · simp [mi_aald] at hf
set_option maxHeartbeats 1000000 in
theorem ok_alen {ck t9 n : Nat} {ty : FieldType} (hF : K ck = .inr (.inl (t9, n))) (ht : tys[t9]? = some (cA t9, ty)) (d : decode cc pc = .ok (.arraylength, 1)) : mm_Ok GW NW D cl tys ad cA K kd N l R own cc nL S pc (mi_alen ck n) := by
  intro p e s m args below meth c A cells slots Q X o g g' P hpc hf hP9 hG h1 h2 H locs ls hP hD hS hL
  obtain ⟨M, pc', gl, st⟩ := g
  simp only at hpc
  subst hpc
  obtain ⟨⟨hx, hb, hml, hown⟩, hts, hnw, hK, hlay, hA, hlk, hcl, hsl⟩ := X
  simp only at h1 h2 hP hD hL
  rcases st with _ | ⟨y | ⟨c0, i⟩, t⟩
  · simp [mi_alen] at hf
  · simp [mi_alen] at hf
  · by_cases hci : c0 = ck
    · subst hci
      obtain ⟨rfl, rfl⟩ := Prod.mk.inj (Option.some.inj (show some (((M, pc' + 1, gl, .inl (nI n) :: t) : mm_C), True) = some (g', P) from by rw [← hf]; simp [mi_alen]))
      obtain ⟨hi, hkd⟩ := sk_h h1
      obtain ⟨q0, hq0, he⟩ := mm_W_get (ad := ad) (cA := cA) (K := K) (kd := kd) (M := M) hi
      rw [hkd, mm_E_prim hF] at he
      exact va_alen hx hb hK hP q0 t9 he ht rfl d (hG (sk_i (sk_t h1)) h2 H locs ls hP hD hS hL)
    · simp [mi_alen, hci] at hf
set_option maxHeartbeats 1000000 in
theorem ok_copy {idx ck t9 n9 : Nat} (hn : n9 < 2 ^ 31) (hF : K ck = .inr (.inl (t9, n9))) (ht : tys[t9]? = some (cA t9, .int)) (w1 : Cond.methodLink own idx arraycopyName ∈ GW) (w2 : Cond.native arraycopyName ∈ GW) (w3 : Cond.static arraycopyName ∈ GW) (w4 : Cond.initialized "java/lang/System" ∈ GW) (hR : 1 ≤ R.frames ∧ 30 ≤ R.locals) (d : decode cc pc = .ok (.invokestatic idx, 3)) : mm_Ok GW NW D cl tys ad cA K kd N l R own cc nL S pc (mi_copy ck n9) := by
  intro p e s m args below meth c A cells slots Q X o g g' P hpc hf hP9 hG h1 h2 H locs ls hP hD hS hL
  obtain ⟨M, pc', gl, st⟩ := g
  simp only at hpc
  subst hpc
  obtain ⟨⟨hx, hb, hml, hown⟩, hts, hnw, hK, hlay, hA, hlk, hcl, hsl⟩ := X
  simp only at h1 h2 hP hD hL
  match st, hf, h1 with
  | .inl n :: .inl dp :: .inr (c1, i1) :: .inl sp :: .inr (c0, i0) :: t, hf, h1 =>
    by_cases hci : c0 = ck ∧ c1 = ck
    · obtain ⟨rfl, rfl⟩ := hci
      obtain ⟨rfl, rfl⟩ := Prod.mk.inj (Option.some.inj (show some (((mm_cp M i0 i1 o.1, pc' + 3, gl, t) : mm_C), (sp = 0 ∧ dp = 0 ∧ n = nI o.1 ∧ o.1 ≤ n9 ∧ t.length ≤ 8)) = some (g', P) from by rw [← hf]; simp [mi_copy]))
      obtain ⟨rfl, rfl, rfl, hj, hl9⟩ := hP9
      have hcl9 := nI_clamp (n := o.1) (by omega)
      have h0 : (0 : Int32).toNatClampNeg = 0 := by decide
      obtain ⟨hi0, hkd0⟩ := sk_h (sk_t (sk_t (sk_t (sk_t h1))))
      obtain ⟨hi1, hkd1⟩ := sk_h (sk_t (sk_t h1))
      obtain ⟨q0, hq0, he0⟩ := mm_W_get (ad := ad) (cA := cA) (K := K) (kd := kd) (M := M) hi0
      rw [hkd0, mm_E_prim hF] at he0
      obtain ⟨q1, hq1, he1⟩ := mm_W_get (ad := ad) (cA := cA) (K := K) (kd := kd) (M := M) hi1
      rw [hkd1, mm_E_prim hF] at he1
      have hsum : ((t.map (mm_v ad)).map fun v => v.category).sum = t.length := mm_sum t
      have hset : (mm_W ad cA K kd N M).set q1 (ad i1, .inl (cA t9, n9, .inl (va_cpy (M i0) (M i1) (0 : Int32).toNatClampNeg (0 : Int32).toNatClampNeg (nI o.1).toNatClampNeg))) = mm_W ad cA K kd N (mm_cp M i0 i1 o.1) := by
        refine mm_W_set hlay.1 hq1 ?_ (fun j hj => mm_cp_i M i0 o.1 hj)
        rw [hkd1, mm_E_prim hF, hcl9, h0, mm_cp_row]
      refine va_copyi hx hb (by rw [hml]; exact hL.1.symm) hown (hts _ w1) (hts _ w2) (hts _ w3) (hts _ w4) hK hP hD hS q0 q1 t9 t9 he0 he1 ht ht rfl (by decide) (by decide) (nI_pos (by omega)) (by rw [hcl9, h0]; omega) (by rw [hcl9, h0]; omega) (fun _ _ => rfl) hR.1 (by rw [hsum, show nativeFrameWords "java/lang/System" "arraycopy" 5 = 7 by decide]; omega) d (fun H1 locs1 hP1 hD1 hS1 => ?_)
      rw [hset] at hP1 hD1
      exact hG (sk_t (sk_t (sk_t (sk_t (sk_t h1))))) h2 H1 locs1 ls hP1 hD1 hS1 hL
    · simp [mi_copy, hci] at hf
end MM2
