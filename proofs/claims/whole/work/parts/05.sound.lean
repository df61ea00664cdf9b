section MM5
variable {GW : List Cond} {NW : List mm_N} {D : va_G} {cl : List vw_C} {tys : List (ClassId × FieldType)} {ad : Nat → Nat} {cA : Nat → ClassId} {K : Nat → mm_K} {kd : Nat → Nat} {N : List Nat}
variable {l : Launch} {R : Room} {own : String} {cc : ByteArray} {nL : Nat} {S : mm_S}
/-- a return of the table is the machine's -/
def mm_RtOk (cc : ByteArray) (ret : Option FieldType) (rt : List (Nat × Nat)) : Prop := ∀ pc k, mm_at rt pc = some k → (k = 0 ∧ ret = none ∧ decode cc pc = .ok (.return_, 1)) ∨ (k = 1 ∧ ret = some .int ∧ decode cc pc = .ok (.ireturn, 1)) ∨ (k = 2 ∧ ret = some .boolean ∧ decode cc pc = .ok (.ireturn, 1))
theorem mm_rt_nil {cc : ByteArray} {ret : Option FieldType} : mm_RtOk cc ret [] := fun pc k h => by simp [mm_at] at h
theorem mm_rt_cons {cc : ByteArray} {ret : Option FieldType} {k n : Nat} {t : List (Nat × Nat)} (h : (n = 0 ∧ ret = none ∧ decode cc k = .ok (.return_, 1)) ∨ (n = 1 ∧ ret = some .int ∧ decode cc k = .ok (.ireturn, 1)) ∨ (n = 2 ∧ ret = some .boolean ∧ decode cc k = .ok (.ireturn, 1))) (ht : mm_RtOk cc ret t) : mm_RtOk cc ret ((k, n) :: t) := fun pc q hq => by
  simp only [mm_at] at hq
  cases hb : Nat.beq k pc with
  | true =>
    rw [hb] at hq
    have e1 : k = pc := Nat.eq_of_beq_eq_true hb
    have e2 : n = q := Option.some.inj hq
    rw [← e1, ← e2]; exact h
  | false => rw [hb] at hq; exact ht pc q hq
theorem mm_rmok {d mx : Nat} (h : mx ≤ 30) : (mm_rm d).frames + 1 ≤ (mm_rm (d + 1)).frames ∧ 8 + (mx + 11) + (mm_rm d).locals ≤ (mm_rm (d + 1)).locals := ⟨Nat.le_refl _, by show 8 + (mx + 11) + 60 * d ≤ 60 * (d + 1); omega⟩
theorem mm_rmR {d : Nat} : 1 ≤ (mm_rm (d + 1)).frames ∧ 30 ≤ (mm_rm (d + 1)).locals := ⟨Nat.le_add_left 1 d, by show 30 ≤ 60 * (d + 1); omega⟩
set_option maxHeartbeats 1000000 in
theorem mm_body {pg : List (Nat × mm_F)} {rt : List (Nat × Nat)} {ret : Option FieldType} (hpg : ∀ pc f, mm_at pg pc = some f → mm_Ok GW NW D cl tys ad cA K kd N l R own cc nL S pc f) (hrt : mm_RtOk cc ret rt)
    {p : Program} {e : Env} {s : State} {m : MethodId} {args : Array Value} {below : List Frame} {meth : Method} {c : Code} {A : Nat → Prop} (X : mm_Cx GW NW D cl tys K kd N R own cc nL p s m args meth c A 0 0) (hr : meth.sig.returnType = ret) :
    ∀ (os : List mm_O) (g g' : mm_C) (P : Prop) (r : Option Int32) (M' : mm_M), mm_path pg S os g = some (g', P) → P → mm_Rt rt g' (r, M') → mm_G D cl ad cA K kd N p l e R s m args below meth c A nL 0 0 (MQ below (mm_Post D cl ad cA K kd N r M' A) args s 0 0 A) g
  | [], g, g', P, r, M', h, hP, hret => by
    obtain ⟨rfl, rfl⟩ := Prod.mk.inj (Option.some.inj h)
    intro h1 h2 H locs ls hP1 hD hS hL
    obtain ⟨M, pc, gl, st⟩ := g
    obtain ⟨⟨hx, hb, hml, hown⟩, hts, hnw, hK, hlay, hA, hlk, hcl, hsl⟩ := X
    simp only at h1 h2 hP1 hD hL
    simp only [mm_Rt] at hret
    cases hk : mm_at rt pc with
    | none => rw [hk] at hret; exact hret.elim
    | some k =>
      rcases hrt pc k hk with ⟨rfl, hr1, d⟩ | ⟨rfl, hr1, d⟩ | ⟨rfl, hr1, d⟩
      · rw [hk] at hret
        obtain ⟨rfl, he⟩ := hret
        obtain ⟨rfl, rfl⟩ := Prod.mk.inj he
        exact W.vret hx hb (hr.trans hr1) (fun t ht hW => ⟨⟨rfl, by rw [ht]; exact hP1, hD⟩, hS.F ht⟩) hS.2.2 d hlk
      · rw [hk] at hret
        obtain ⟨r1, rfl, he⟩ := hret
        obtain ⟨rfl, rfl⟩ := Prod.mk.inj he
        exact W.iret (v := r1) hx hb (hr.trans hr1) (fun t ht hW => ⟨⟨rfl, by rw [ht]; exact hP1, hD⟩, hS.F ht⟩) hS.2.2 d hlk
      · rw [hk] at hret
        obtain ⟨r1, rfl, he, hz⟩ := hret
        obtain ⟨rfl, rfl⟩ := Prod.mk.inj he
        exact W.zret (v := r1) hx hb (hr.trans hr1) (by rcases hz with rfl | rfl <;> rfl) (fun t ht hW => ⟨⟨rfl, by rw [ht]; exact hP1, hD⟩, hS.F ht⟩) hS.2.2 d hlk
  | o :: os, g, g', P, r, M', h, hP, hret => by
    simp only [mm_path] at h
    cases h1 : mm_at pg g.2.1 with
    | none => simp [h1] at h
    | some f =>
      simp only [h1] at h
      cases h2 : f S o g with
      | none => simp [h2] at h
      | some q =>
        obtain ⟨g1, P1⟩ := q
        simp only [h2] at h
        cases h3 : mm_path pg S os g1 with
        | none => simp [h3] at h
        | some q2 =>
          obtain ⟨g2, P2⟩ := q2
          simp only [h3] at h
          obtain ⟨e1, e2⟩ := Prod.mk.inj (Option.some.inj h)
          subst e1
          rw [← e2] at hP
          exact hpg _ _ h1 p e s m args below meth c A 0 0 _ X o g g1 P1 rfl h2 hP.1 (mm_body hpg hrt X hr os g1 g2 P2 r M' h3 hP.2 hret)
set_option maxHeartbeats 1000000 in
theorem mm_met {T : mm_T} {z : Nat} {pg : List (Nat × mm_F)} {rt : List (Nat × Nat)} (hpl : plainName (T.1 z).cls = true) (hlay : mm_lay K kd N)
    (hpg : ∀ pc f, mm_at pg pc = some f → mm_Ok GW NW D cl tys ad cA K kd N l R (T.1 z).cls (T.2.1 z) (T.2.2.1 z) S pc f) (hrt : mm_RtOk (T.2.1 z) (T.2.2.2 z) rt)
    {M : mm_M} {as : List mm_V} {r : Option Int32} {M' : mm_M} {sz : Nat} (hn : as.length ≤ T.2.2.1 z) (hE : mm_Ends pg rt S (M, 0, as.map some ++ List.replicate (T.2.2.1 z - as.length) none, []) (r, M')) (hok : ∀ v ∈ as, mm_ok kd N v) :
    Met l (T.1 z) (mm_ws GW T z) R (mm_Pre NW D cl tys ad cA K kd N M as sz) (mm_Post D cl ad cA K kd N r M' (va_A (mm_W ad cA K kd N M) sz)) 0 0 (va_A (mm_W ad cA K kd N M) sz) := by
  refine Met.ofW (cc := T.2.1 z) (maxL := T.2.2.1 z) (ret := T.2.2.2 z) hpl rfl ?_
  intro p e s m args below meth c s₁ B hml hv
  obtain ⟨rfl, hsz, hP, hK, hD0, hnw⟩ := hv
  have hts := atoms_spec (ws := mm_ws GW T z) B.pre
  have hown : s.vm.findClass (T.1 z).cls = some m.cls := findClass_of_methodNamed B.named
  have hlocks := B.notSynchronized
  subst hsz
  have hD := hD0.self (sz := s.heap.size)
  obtain ⟨ls, hfr, hL⟩ := mm_entry (ad := ad) m as hn
  rw [hfr]
  obtain ⟨os, g', P, h1, h2, h3⟩ := hE
  refine mm_body hpg hrt ⟨⟨B.exec, B.bytes, hml, hown⟩, fun w hw => hts w (List.mem_cons_of_mem _ hw), hnw, hK, hlay, fun q h => Or.inr h, hlocks, Nat.zero_le _, Nat.zero_le _⟩ B.returns os _ g' P r M' h1 h2 h3 (fun v hv => by simp at hv) (fun v hv => ?_) s.heap [] ls hP hD va_S.rf hL
  rcases List.mem_append.mp hv with h | h
  · obtain ⟨w, hw, e⟩ := List.mem_map.mp h
    have : w = v := by simpa using e
    rw [← this]
    exact hok w hw
  · have := List.eq_of_mem_replicate h
    simp at this
/-- what the methods do, calls up to depth d -/
def mm_Sem (mx : Nat → Nat) (pg : Nat → List (Nat × mm_F)) (rt : Nat → List (Nat × Nat)) : Nat → mm_S
  | 0 => fun _ _ _ _ => False
  | d + 1 => fun z M as res => as.length ≤ mx z ∧ mm_Ends (pg z) (rt z) (mm_Sem mx pg rt d) (M, 0, as.map some ++ List.replicate (mx z - as.length) none, []) res
theorem mm_sound {T : mm_T} {pg : Nat → List (Nat × mm_F)} {rt : Nat → List (Nat × Nat)} (hlay : mm_lay K kd N) (hpl : ∀ z, rt z ≠ [] → plainName (T.1 z).cls = true) (hrt : ∀ z, rt z ≠ [] → mm_RtOk (T.2.1 z) (T.2.2.2 z) (rt z))
    (hpg : ∀ (d : Nat) (S : mm_S), mm_Sound GW NW D cl tys ad cA K kd N l T (mm_rm d) S → ∀ z, rt z ≠ [] → ∀ pc f, mm_at (pg z) pc = some f → mm_Ok GW NW D cl tys ad cA K kd N l (mm_rm (d + 1)) (T.1 z).cls (T.2.1 z) (T.2.2.1 z) S pc f) :
    ∀ d, mm_Sound GW NW D cl tys ad cA K kd N l T (mm_rm d) (mm_Sem T.2.2.1 pg rt d)
  | 0 => fun z M as r M' sz h _ => h.elim
  | d + 1 => fun z M as r M' sz h hok => by
    have hz : rt z ≠ [] := by
      intro h0
      obtain ⟨-, os, g', P, -, -, h3⟩ := h
      rw [h0] at h3
      exact h3
    exact mm_met (hpl z hz) hlay (hpg d _ (mm_sound hlay hpl hrt hpg d) z hz) (hrt z hz) h.1 h.2 hok
/-- more depth does no harm -/
theorem mm_Ends_mono {pg : List (Nat × mm_F)} {rt : List (Nat × Nat)} {S S' : mm_S} (hf : ∀ pc f, mm_at pg pc = some f → ∀ o g g' P, f S o g = some (g', P) → P → ∃ P', f S' o g = some (g', P') ∧ P') : ∀ {g : mm_C} {res : mm_R}, mm_Ends pg rt S g res → mm_Ends pg rt S' g res := by
  intro g res h
  obtain ⟨os, g', P, h1, h2, h3⟩ := h
  have key : ∀ (os : List mm_O) (g g' : mm_C) (P : Prop), mm_path pg S os g = some (g', P) → P → ∃ P', mm_path pg S' os g = some (g', P') ∧ P' := by
    intro os
    induction os with
    | nil => exact fun g g' P h hP => ⟨P, h, hP⟩
    | cons o os ih =>
      intro g g' P h hP
      simp only [mm_path] at h
      cases h1 : mm_at pg g.2.1 with
      | none => simp [h1] at h
      | some f =>
        simp only [h1] at h
        cases h2 : f S o g with
        | none => simp [h2] at h
        | some q =>
          obtain ⟨g1, P1⟩ := q
          simp only [h2] at h
          cases h3 : mm_path pg S os g1 with
          | none => simp [h3] at h
          | some q2 =>
            obtain ⟨g2, P2⟩ := q2
            simp only [h3] at h
            obtain ⟨e1, e2⟩ := Prod.mk.inj (Option.some.inj h)
            subst e1
            rw [← e2] at hP
            obtain ⟨P3, h4, h5⟩ := hf _ _ h1 o g g1 P1 h2 hP.1
            obtain ⟨P4, h6, h7⟩ := ih g1 g2 P2 h3 hP.2
            exact ⟨P3 ∧ P4, by simp only [mm_path, h1, h4, h6], h5, h7⟩
  obtain ⟨P', h4, h5⟩ := key os g g' P h1 h2
  exact ⟨os, g', P', h4, h5, h3⟩
end MM5
