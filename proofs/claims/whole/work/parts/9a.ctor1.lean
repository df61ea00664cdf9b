/-! CONSTRUCTORS: rows -/
theorem va_RA_one {U : State} {c1 c2 : ClassId} {ty : FieldType} (h1 : va_RA U c1 ty) (h2 : va_RA U c2 ty) : c1 = c2 := by
  cases ty with
  | object C =>
    obtain ⟨-, -, -, -, -, a⟩ := h1
    obtain ⟨-, -, -, -, -, b⟩ := h2
    exact Option.some.inj (a.symm.trans b)
  | _ => exact Option.some.inj (Eq.trans (Eq.symm h1) h2)
def ct_NI : List mm_N := [("CraneTurns$Yard", 27, ⟨"CraneTurns$Crane", "<init>", "()V"⟩, "CraneTurns"), ("CraneTurns$Yard", 28, ⟨"CraneTurns$Job", "<init>", "()V"⟩, "CraneTurns"), ("CraneTurns", 18, ⟨"CraneTurns$Planner", "<init>", "()V"⟩, "CraneTurns")]
def cn_x (U : State) : Prop := mm_nw ct_NI U ∧ va_AO "CraneTurns$Crane" U ∧ va_AO "CraneTurns$Job" U
theorem cn_x.warm {s U : State} (hW : s.WarmedH U.vm) (h : cn_x s) : cn_x U := ⟨mm_nw_warm hW h.1, va_AO.moved hW.alike h.2.1, va_AO.moved hW.alike h.2.2⟩
def cn_Pre (D : va_G) (cA : Nat → ClassId) (h0 : Nat) (e0 : va_E) (sz : Nat) : Array Value → State → Prop := va_Pc [.ref h0] (fun U => U.heap.size = sz ∧ va_P D ct_cl [(h0, e0)] U.heap ∧ va_K D ct_cl (ct_tys cA) U ∧ va_D (fun _ => True) [(h0, e0)] ∧ cn_x U)
theorem cn_blind {D : va_G} {cA : Nat → ClassId} {h0 : Nat} {e0 : va_E} {sz : Nat} : FrameBlind (cn_Pre D cA h0 e0 sz) := fun a U g mk q => by
  obtain ⟨q0, q1, q2, q3, q4, q5, q6, q7⟩ := q
  exact ⟨q0, q1, q2, va_K.moved (u := U) (U := U.calling g mk a) (Vm.Alike.refl U.vm) q3, q4, fun w hw => va_Nw.same rfl rfl (q5 w hw), va_AO.moved (u := U) (U := U.calling g mk a) (Vm.Alike.refl U.vm) q6, va_AO.moved (u := U) (U := U.calling g mk a) (Vm.Alike.refl U.vm) q7⟩
/-- what a constructor leaves: the world w u -/
def cn_Post {S : Type} (D : va_G) (post : S → Prop) (w : S → va_W) (A : Nat → Prop) : Array Value → State → Outcome → State → Prop := va_Qv post (fun u t => va_P D ct_cl (w u) t.heap ∧ va_D A (w u)) A
section CN
variable {D : va_G} {cl : List vw_C} {tys : List (ClassId × FieldType)} {l : Launch} {p : Program} {e : Env} {R : Room} {s : State} {m : MethodId} {args : Array Value} {below : List Frame} {meth : Method} {c : Code} {H H0 H1 : Heap} {locs : List Loc} {Q : State → Prop} {A : Nat → Prop} {cc : ByteArray} {pc cells slots : Nat} {ls : Array Slot} {rest : List Value} {ws : va_W}
theorem cn_newa (hexec : p.tables.exec = Jvm.exec) (hb : c.code = cc) {atype : ArrayType} (harr : (Cond.arrayClass (newarray.typeOf atype)).before args s = true) {ty : FieldType} (hty : newarray.typeOf atype = ty) (t0 : Nat) {c0 : ClassId} (ht : tys[t0]? = some (c0, ty)) (hK : va_K D cl tys s) (hP : va_P D cl ws H) (hD : va_D A ws) (hS : va_S A H0 H locs) (hA : ∀ q, H0.size ≤ q → A q)
    {n : Int32} {N' : Nat} {a0 : vp_A} (ha : ∀ cA : ClassId, vp_cell cA a0 = arrV cA N' (fun _ => defaultValue ty)) (hn : ¬ n < 0) (hN : n.toNatClampNeg = N') (hbytes : N' * componentBytes ty ≤ 536870912) (hcells : cells + 1 ≤ R.cells) (hslots : slots + N' ≤ R.slots) (hdg : decode cc pc = .ok (.newarray atype, 2))
    (kk : ∀ (q : Nat) (H1 : Heap), va_P D cl (ws ++ [(q, .inl (c0, a0))]) H1 → va_D A (ws ++ [(q, .inl (c0, a0))]) → va_S A H0 H1 locs →
      W p l e R s m args below meth c H1 locs (cells + 1) (slots + N') Q (F0 m (pc + 2) ls (.ref q :: rest))) : W p l e R s m args below meth c H locs cells slots Q (F0 m pc ls (.int n :: rest)) := by
  refine va_newa hexec hb harr hty hK hP hD hS hA ha hn hN hbytes hcells hslots hdg (fun q cA H1 hK1 hP1 hD1 hS1 => ?_)
  have e1 : cA = c0 := va_RA_one (hK1.2 tys.length (cA, ty) (by rw [List.getElem?_append_right (Nat.le_refl _), Nat.sub_self]; rfl)).2 (hK.2 t0 _ ht).2
  subst e1
  exact kk q H1 hP1 hD1 hS1
theorem cn_newq (hexec : p.tables.exec = Jvm.exec) (hb : c.code = cc) {own C : String} {index : Nat} (hown : s.vm.findClass own = some m.cls) (hclink : (Cond.classLink own index C).before args s = true) (hover : va_AO C s) (t0 : Nat) {c0 : ClassId} (ht : tys[t0]? = some (c0, .object C)) (hK : va_K D cl tys s) (hP : va_P D cl ws H) (hD : va_D A ws) (hS : va_S A H0 H locs) (hA : ∀ q, H0.size ≤ q → A q)
    {n : Int32} {N' : Nat} (hn : ¬ n < 0) (hN : n.toNatClampNeg = N') (hbytes : N' * 4 ≤ 536870912) (hcells : cells + 1 ≤ R.cells) (hslots : slots + N' ≤ R.slots) (hdg : decode cc pc = .ok (.anewarray index, 3))
    (kk : ∀ (q : Nat) (H1 : Heap), va_P D cl (ws ++ [(q, .inl (c0, N', .inr (.inr (.inr (.inr (fun _ => none))))))]) H1 → va_D A (ws ++ [(q, .inl (c0, N', .inr (.inr (.inr (.inr (fun _ => none))))))]) → va_S A H0 H1 locs →
      W p l e R s m args below meth c H1 locs (cells + 1) (slots + N') Q (F0 m (pc + 3) ls (.ref q :: rest))) : W p l e R s m args below meth c H locs cells slots Q (F0 m pc ls (.int n :: rest)) := by
  refine va_newq hexec hb hown hclink hover hK hP hD hS hA hn hN hbytes hcells hslots hdg (fun q cA H1 hK1 hP1 hD1 hS1 => ?_)
  have e1 : cA = c0 := va_RA_one (hK1.2 tys.length (cA, .object C) (by rw [List.getElem?_append_right (Nat.le_refl _), Nat.sub_self]; rfl)).2 (hK.2 t0 _ ht).2
  subst e1
  exact kk q H1 hP1 hD1 hS1
theorem cn_get {w : va_W} {x : Nat × va_E} {k : Nat} {q : Nat × va_E} (h : (w ++ [x])[k]? = some q) : (k < w.length ∧ w[k]? = some q) ∨ (k = w.length ∧ q = x) := by
  rcases Nat.lt_or_ge k w.length with z | z
  · rw [List.getElem?_append_left z] at h
    exact Or.inl ⟨z, h⟩
  · rw [List.getElem?_append_right z] at h
    cases hk : k - w.length with
    | zero => rw [hk] at h; exact Or.inr ⟨by omega, (Option.some.inj h).symm⟩
    | succ n => rw [hk] at h; cases h
/-- behind a constructor's call: what was there, and what it made -/
theorem cn_join {q0 : Nat} {e0 : va_E} {w1 : va_W} (hP : va_P D cl (ws ++ [(q0, e0)]) H) (hD : va_D A (ws ++ [(q0, e0)])) (hk : ∀ q : Nat, q < H.size → ¬ va_A [(q0, e0)] H.size q → H1[q]? = H[q]?) (hF : ∀ q, va_A [(q0, e0)] H.size q → A q) (hP1 : va_P D cl w1 H1) (hD1 : va_D (va_A [(q0, e0)] H.size) w1) : va_P D cl (ws ++ w1) H1 ∧ va_D A (ws ++ w1) := by
  have hin : ∀ (k : Nat) (q : Nat × va_E), ws[k]? = some q → (ws ++ [(q0, e0)])[k]? = some q := fun k q h => by
    rw [List.getElem?_append_left (List.getElem?_eq_some_iff.mp h).1]
    exact h
  have hlast : (ws ++ [(q0, e0)])[ws.length]? = some (q0, e0) := by
    rw [List.getElem?_append_right (Nat.le_refl _), Nat.sub_self]
    rfl
  have hout : ∀ (k : Nat) (q : Nat × va_E), ws[k]? = some q → q.1 < H.size ∧ ¬ va_A [(q0, e0)] H.size q.1 := fun k q h => by
    have lt := vx_lt hP (hin k q h)
    refine ⟨lt, fun z => ?_⟩
    rcases z with ⟨i, e, z⟩ | z
    · cases i with
      | zero =>
        have e1 : (q0, e0) = (q.1, e) := Option.some.inj z
        have e2 : q0 = q.1 := congrArg Prod.fst e1
        have := hD.1 k ws.length q (q0, e0) (hin k q h) hlast e2.symm
        have := (List.getElem?_eq_some_iff.mp h).1
        omega
      | succ i => cases z
    · omega
  refine ⟨(va_P.kept (fun k q h => hP k q (hin k q h)) (fun k q h => hk q.1 (hout k q h).1 (hout k q h).2)).app hP1, va_D.app ⟨fun i j p q hi hj e => hD.1 i j p q (hin i p hi) (hin j q hj) e, fun k q h => hD.2 k q (hin k q h)⟩ ⟨hD1.1, fun k q h => hF _ (hD1.2 k q h)⟩ (fun i j p q hi hj e => ?_)⟩
  exact (hout i p hi).2 (by rw [e]; exact hD1.2 j q hj)
theorem cn_free {q0 : Nat} {e0 : va_E} (hD : va_D A (ws ++ [(q0, e0)])) (hS : va_S A H0 H locs) (hA : ∀ q, H0.size ≤ q → A q) : ∀ q, va_A [(q0, e0)] H.size q → A q := fun q z => by
  rcases z with ⟨i, e, z⟩ | z
  · cases i with
    | zero =>
      have e1 : (q0, e0) = (q, e) := Option.some.inj z
      have := hD.2 ws.length (q0, e0) (by rw [List.getElem?_append_right (Nat.le_refl _), Nat.sub_self]; rfl)
      have e2 : q0 = q := congrArg Prod.fst e1
      rw [← e2]
      exact this
    | succ i => cases z
  · exact hA q (Nat.le_trans hS.1 z)
theorem cn_one {q0 : Nat} {e0 : va_E} (hP : va_P D cl (ws ++ [(q0, e0)]) H) : va_P D cl [(q0, e0)] H := fun k q h => by
  cases k with
  | zero =>
    have e1 : (q0, e0) = q := Option.some.inj h
    subst e1
    exact hP ws.length _ (by rw [List.getElem?_append_right (Nat.le_refl _), Nat.sub_self]; rfl)
  | succ k => cases h
theorem cn_oneD {q0 : Nat} {e0 : va_E} : va_D (fun _ => True) [(q0, e0)] := by
  refine ⟨fun i j p q hi hj _ => ?_, fun _ _ _ => trivial⟩
  cases i with
  | zero => cases j with
    | zero => rfl
    | succ j => cases hj
  | succ i => cases hi
end CN
def e_cr0 : va_E := .inr (0, [.int 0, .int 0, .int 0, .int 0, .int 0, .int 0, .int 0, .int 0, .null, .null, .int 0])
def w_cr (cA : Nat → ClassId) (h0 a1 a2 : Nat) : va_W := [(h0, .inr (0, [.int 0, .int 0, .int 0, .int 0, .int (-1), .int 0, .int 0, .int 0, .ref a1, .ref a2, .int 0])), (a1, .inl (cA 0, 4, .inl (fun _ => 0))), (a2, .inl (cA 0, 8, .inl (fun _ => 0)))]
def rm_cr : Room := { frames := 1, cells := 2, slots := 12, locals := 14 }
set_option maxHeartbeats 4000000 in
set_option maxRecDepth 100000 in
theorem c_crane0 {D : va_G} {cA : Nat → ClassId} (l : Launch) (h0 sz : Nat) : Met l (⟨"CraneTurns$Crane", "<init>", "()V"⟩ : MethodName) (Cond.code (⟨"CraneTurns$Crane", "<init>", "()V"⟩ : MethodName) prog_2_method_1_code 1 none :: ct_GW) rm_cr (cn_Pre D cA h0 e_cr0 sz) (cn_Post (S := Nat × Nat) D (fun _ => True) (fun u => w_cr cA h0 u.1 u.2) (va_A [(h0, e_cr0)] sz)) 2 12 (va_A [(h0, e_cr0)] sz) := by
  refine Met.ofW (cc := prog_2_method_1_code) (maxL := 1) (ret := none) (by decide +kernel) rfl ?_
  intro p e s m args below meth c s₁ B hml hv
  obtain ⟨rfl, hsz, hP, hK, hD0, hcx⟩ := hv
  have hx := B.exec
  have hb := B.bytes
  have hr := B.returns
  have hts := atoms_spec (ws := Cond.code (⟨"CraneTurns$Crane", "<init>", "()V"⟩ : MethodName) prog_2_method_1_code 1 none :: ct_GW) B.pre
  have hg := fun w hw => hts w (List.mem_cons_of_mem _ hw)
  have hown : s.vm.findClass "CraneTurns$Crane" = some m.cls := findClass_of_methodNamed B.named
  have hlocks := B.notSynchronized
  have hin : meth.name = "<init>" := (name_of_methodNamed B.named B.method).1
  subst hsz
  have hD := hD0.self (sz := s.heap.size)
  generalize hAe : va_A [(h0, e_cr0)] s.heap.size = A at hD ⊢
  have hA : ∀ q : Nat, s.heap.size ≤ q → A q := fun q h => by rw [← hAe]; exact Or.inr h
  have hS : va_S A s.heap s.heap [] := va_S.rf
  have hl9 := lv_entry ([.ref h0] : List Value) (n := 1) (Nat.le_of_ble_eq_true rfl)
  rw [lg_entry_eq]
  generalize (lg_sl ([.ref h0] : List Value) ++ List.replicate (1 - (lg_sl ([.ref h0] : List Value)).length) Slot.unset).toArray = ls at hl9 ⊢
  have hl9 : lv_has ls 1 [(0, .ref h0)] := hl9
  have hP : va_P D ct_cl [(h0, .inr (0, [.int 0, .int 0, .int 0, .int 0, .int 0, .int 0, .int 0, .int 0, .null, .null, .int 0]))] s.heap := hP
  have hD : va_D A [(h0, .inr (0, [.int 0, .int 0, .int 0, .int 0, .int 0, .int 0, .int 0, .int 0, .null, .null, .int 0]))] := hD
  refine lv_aload_n (k := 0) hx hb (by decide +kernel) rfl (lv_at hl9 0 rfl) ?_
  refine W.objInit hx hb hown (hg _ (ct_t1 (List.mem_of_getElem? (i := 38) rfl) rfl)) (hg _ (ct_t1 (List.mem_of_getElem? (i := 22) rfl) rfl)) (hg _ (ct_t1 (List.mem_of_getElem? (i := 23) rfl) rfl)) rfl (by rw [hml]; exact hl9.1) rfl (show decode prog_2_method_1_code 1 = .ok (.invokespecial 3, 3) from by decide +kernel) (Nat.le_of_ble_eq_true rfl) (Nat.le_of_ble_eq_true rfl) ?_
  refine W.eq (g2 := F0 m 4 ls []) rfl ?_
  refine lv_aload_n (k := 0) hx hb (by decide +kernel) rfl (lv_at hl9 0 rfl) ?_
  refine lv_iconst (n := (-1)) (v := (-1)) hx hb (by decide +kernel) (by decide) ?_
  refine va_put (D := D) (ci := 0) (v := .int (-1)) (ty := .int) (C := "CraneTurns$Crane") (T := ct_T0) (N := 11) hx hb hg ct_in0 ct_ty0 ct_tyok0 ct_nm0 hown hK hP hD hS 0 rfl rfl 4 (by decide) (hg _ (ct_t1 (List.mem_of_getElem? (i := 49) rfl) rfl)) (fun _ h9 => h9) rfl (by decide +kernel) rfl rfl (Nat.le_of_ble_eq_true rfl) (by decide +kernel) (fun H locs hP hD hS => ?_)
  have hP : va_P D ct_cl [(h0, .inr (0, [.int 0, .int 0, .int 0, .int 0, .int (-1), .int 0, .int 0, .int 0, .null, .null, .int 0]))] H := hP
  have hD : va_D A [(h0, .inr (0, [.int 0, .int 0, .int 0, .int 0, .int (-1), .int 0, .int 0, .int 0, .null, .null, .int 0]))] := hD
  refine lv_aload_n (k := 0) hx hb (by decide +kernel) rfl (lv_at hl9 0 rfl) ?_
  refine lv_iconst (n := 0) (v := 0) hx hb (by decide +kernel) (by decide) ?_
  refine va_put (D := D) (ci := 0) (v := .int 0) (ty := .int) (C := "CraneTurns$Crane") (T := ct_T0) (N := 11) hx hb hg ct_in0 ct_ty0 ct_tyok0 ct_nm0 hown hK hP hD hS 0 rfl rfl 5 (by decide) (hg _ (ct_t1 (List.mem_of_getElem? (i := 52) rfl) rfl)) (fun _ h9 => h9) rfl (by decide +kernel) rfl rfl (Nat.le_of_ble_eq_true rfl) (by decide +kernel) (fun H locs hP hD hS => ?_)
  have hP : va_P D ct_cl [(h0, .inr (0, [.int 0, .int 0, .int 0, .int 0, .int (-1), .int 0, .int 0, .int 0, .null, .null, .int 0]))] H := hP
  have hD : va_D A [(h0, .inr (0, [.int 0, .int 0, .int 0, .int 0, .int (-1), .int 0, .int 0, .int 0, .null, .null, .int 0]))] := hD
  refine lv_aload_n (k := 0) hx hb (by decide +kernel) rfl (lv_at hl9 0 rfl) ?_
  refine lv_iconst (n := 4) (v := 4) hx hb (by decide +kernel) (by decide) ?_
  refine cn_newa (atype := .int) (ty := .int) (N' := 4) (a0 := (4, .inl (fun _ => 0))) hx hb (hg _ (ct_t1 (List.mem_of_getElem? (i := 90) rfl) rfl)) rfl 0 rfl hK hP hD hS hA (fun _ => rfl) (by decide) (by decide) (by decide) (Nat.le_of_ble_eq_true rfl) (Nat.le_of_ble_eq_true rfl) (by decide +kernel) (fun a1 H hP hD hS => ?_)
  have hP : va_P D ct_cl [(h0, .inr (0, [.int 0, .int 0, .int 0, .int 0, .int (-1), .int 0, .int 0, .int 0, .null, .null, .int 0])), (a1, .inl (cA 0, 4, .inl (fun _ => 0)))] H := hP
  have hD : va_D A [(h0, .inr (0, [.int 0, .int 0, .int 0, .int 0, .int (-1), .int 0, .int 0, .int 0, .null, .null, .int 0])), (a1, .inl (cA 0, 4, .inl (fun _ => 0)))] := hD
  refine va_putF (D := D) (ci := 0) (v := .ref a1) (ty := .array .int) (C := "CraneTurns$Crane") (T := ct_T0) (N := 11) hx hb hg ct_in0 ct_ty0 ct_tyok0 ct_nm0 hown hK hP hD hS 0 rfl rfl 8 (by decide) (hg _ (ct_t1 (List.mem_of_getElem? (i := 59) rfl) rfl)) (fun _ h9 => h9) rfl hin rfl (by decide +kernel) rfl rfl (Nat.le_of_ble_eq_true rfl) (by decide +kernel) (fun H locs hP hD hS => ?_)
  have hP : va_P D ct_cl [(h0, .inr (0, [.int 0, .int 0, .int 0, .int 0, .int (-1), .int 0, .int 0, .int 0, .ref a1, .null, .int 0])), (a1, .inl (cA 0, 4, .inl (fun _ => 0)))] H := hP
  have hD : va_D A [(h0, .inr (0, [.int 0, .int 0, .int 0, .int 0, .int (-1), .int 0, .int 0, .int 0, .ref a1, .null, .int 0])), (a1, .inl (cA 0, 4, .inl (fun _ => 0)))] := hD
  refine lv_aload_n (k := 0) hx hb (by decide +kernel) rfl (lv_at hl9 0 rfl) ?_
  refine lv_bipush (n := 8) (v := 8) hx hb (by decide +kernel) (by decide) ?_
  refine cn_newa (atype := .int) (ty := .int) (N' := 8) (a0 := (8, .inl (fun _ => 0))) hx hb (hg _ (ct_t1 (List.mem_of_getElem? (i := 90) rfl) rfl)) rfl 0 rfl hK hP hD hS hA (fun _ => rfl) (by decide) (by decide) (by decide) (Nat.le_of_ble_eq_true rfl) (Nat.le_of_ble_eq_true rfl) (by decide +kernel) (fun a2 H hP hD hS => ?_)
  have hP : va_P D ct_cl [(h0, .inr (0, [.int 0, .int 0, .int 0, .int 0, .int (-1), .int 0, .int 0, .int 0, .ref a1, .null, .int 0])), (a1, .inl (cA 0, 4, .inl (fun _ => 0))), (a2, .inl (cA 0, 8, .inl (fun _ => 0)))] H := hP
  have hD : va_D A [(h0, .inr (0, [.int 0, .int 0, .int 0, .int 0, .int (-1), .int 0, .int 0, .int 0, .ref a1, .null, .int 0])), (a1, .inl (cA 0, 4, .inl (fun _ => 0))), (a2, .inl (cA 0, 8, .inl (fun _ => 0)))] := hD
  refine va_putF (D := D) (ci := 0) (v := .ref a2) (ty := .array .int) (C := "CraneTurns$Crane") (T := ct_T0) (N := 11) hx hb hg ct_in0 ct_ty0 ct_tyok0 ct_nm0 hown hK hP hD hS 0 rfl rfl 9 (by decide) (hg _ (ct_t1 (List.mem_of_getElem? (i := 62) rfl) rfl)) (fun _ h9 => h9) rfl hin rfl (by decide +kernel) rfl rfl (Nat.le_of_ble_eq_true rfl) (by decide +kernel) (fun H locs hP hD hS => ?_)
  have hP : va_P D ct_cl [(h0, .inr (0, [.int 0, .int 0, .int 0, .int 0, .int (-1), .int 0, .int 0, .int 0, .ref a1, .ref a2, .int 0])), (a1, .inl (cA 0, 4, .inl (fun _ => 0))), (a2, .inl (cA 0, 8, .inl (fun _ => 0)))] H := hP
  have hD : va_D A [(h0, .inr (0, [.int 0, .int 0, .int 0, .int 0, .int (-1), .int 0, .int 0, .int 0, .ref a1, .ref a2, .int 0])), (a1, .inl (cA 0, 4, .inl (fun _ => 0))), (a2, .inl (cA 0, 8, .inl (fun _ => 0)))] := hD
  exact W.vret hx hb hr (fun t ht hW => ⟨⟨(a1, a2), rfl, trivial, by rw [ht]; exact hP, hD⟩, hS.F ht⟩) hS.2.2 (by decide +kernel)
def e_jb0 : va_E := .inr (1, [.int 0, .int 0, .int 0, .int 0, .int 0, .int 0])
def e_jb : va_E := .inr (1, [.int 0, .int 0, .int 0, .int 0, .int (-1), .int (-1)])
def rm_jb : Room := { frames := 1, cells := 0, slots := 0, locals := 14 }
set_option maxHeartbeats 4000000 in
set_option maxRecDepth 100000 in
theorem c_job0 {D : va_G} {cA : Nat → ClassId} (l : Launch) (h0 sz : Nat) : Met l (⟨"CraneTurns$Job", "<init>", "()V"⟩ : MethodName) (Cond.code (⟨"CraneTurns$Job", "<init>", "()V"⟩ : MethodName) prog_3_method_1_code 1 none :: ct_GW) rm_jb (cn_Pre D cA h0 e_jb0 sz) (cn_Post (S := Unit) D (fun _ => True) (fun _ => [(h0, e_jb)]) (va_A [(h0, e_jb0)] sz)) 0 0 (va_A [(h0, e_jb0)] sz) := by
  refine Met.ofW (cc := prog_3_method_1_code) (maxL := 1) (ret := none) (by decide +kernel) rfl ?_
  intro p e s m args below meth c s₁ B hml hv
  obtain ⟨rfl, hsz, hP, hK, hD0, hcx⟩ := hv
  have hx := B.exec
  have hb := B.bytes
  have hr := B.returns
  have hts := atoms_spec (ws := Cond.code (⟨"CraneTurns$Job", "<init>", "()V"⟩ : MethodName) prog_3_method_1_code 1 none :: ct_GW) B.pre
  have hg := fun w hw => hts w (List.mem_cons_of_mem _ hw)
  have hown : s.vm.findClass "CraneTurns$Job" = some m.cls := findClass_of_methodNamed B.named
  have hlocks := B.notSynchronized
  have hin : meth.name = "<init>" := (name_of_methodNamed B.named B.method).1
  subst hsz
  have hD := hD0.self (sz := s.heap.size)
  generalize hAe : va_A [(h0, e_jb0)] s.heap.size = A at hD ⊢
  have hA : ∀ q : Nat, s.heap.size ≤ q → A q := fun q h => by rw [← hAe]; exact Or.inr h
  have hS : va_S A s.heap s.heap [] := va_S.rf
  have hl9 := lv_entry ([.ref h0] : List Value) (n := 1) (Nat.le_of_ble_eq_true rfl)
  rw [lg_entry_eq]
  generalize (lg_sl ([.ref h0] : List Value) ++ List.replicate (1 - (lg_sl ([.ref h0] : List Value)).length) Slot.unset).toArray = ls at hl9 ⊢
  have hl9 : lv_has ls 1 [(0, .ref h0)] := hl9
  have hP : va_P D ct_cl [(h0, .inr (1, [.int 0, .int 0, .int 0, .int 0, .int 0, .int 0]))] s.heap := hP
  have hD : va_D A [(h0, .inr (1, [.int 0, .int 0, .int 0, .int 0, .int 0, .int 0]))] := hD
  refine lv_aload_n (k := 0) hx hb (by decide +kernel) rfl (lv_at hl9 0 rfl) ?_
  refine W.objInit hx hb hown (hg _ (ct_t1 (List.mem_of_getElem? (i := 95) rfl) rfl)) (hg _ (ct_t1 (List.mem_of_getElem? (i := 22) rfl) rfl)) (hg _ (ct_t1 (List.mem_of_getElem? (i := 23) rfl) rfl)) rfl (by rw [hml]; exact hl9.1) rfl (show decode prog_3_method_1_code 1 = .ok (.invokespecial 3, 3) from by decide +kernel) (Nat.le_of_ble_eq_true rfl) (Nat.le_of_ble_eq_true rfl) ?_
  refine W.eq (g2 := F0 m 4 ls []) rfl ?_
  refine lv_aload_n (k := 0) hx hb (by decide +kernel) rfl (lv_at hl9 0 rfl) ?_
  refine lv_iconst (n := 0) (v := 0) hx hb (by decide +kernel) (by decide) ?_
  refine va_put (D := D) (ci := 1) (v := .int 0) (ty := .int) (C := "CraneTurns$Job") (T := ct_T1) (N := 6) hx hb hg ct_in1 ct_ty1 ct_tyok1 ct_nm1 hown hK hP hD hS 0 rfl rfl 3 (by decide) (hg _ (ct_t1 (List.mem_of_getElem? (i := 104) rfl) rfl)) (fun _ h9 => h9) rfl (by decide +kernel) rfl rfl (Nat.le_of_ble_eq_true rfl) (by decide +kernel) (fun H locs hP hD hS => ?_)
  have hP : va_P D ct_cl [(h0, .inr (1, [.int 0, .int 0, .int 0, .int 0, .int 0, .int 0]))] H := hP
  have hD : va_D A [(h0, .inr (1, [.int 0, .int 0, .int 0, .int 0, .int 0, .int 0]))] := hD
  refine lv_aload_n (k := 0) hx hb (by decide +kernel) rfl (lv_at hl9 0 rfl) ?_
  refine lv_iconst (n := (-1)) (v := (-1)) hx hb (by decide +kernel) (by decide) ?_
  refine va_put (D := D) (ci := 1) (v := .int (-1)) (ty := .int) (C := "CraneTurns$Job") (T := ct_T1) (N := 6) hx hb hg ct_in1 ct_ty1 ct_tyok1 ct_nm1 hown hK hP hD hS 0 rfl rfl 4 (by decide) (hg _ (ct_t1 (List.mem_of_getElem? (i := 108) rfl) rfl)) (fun _ h9 => h9) rfl (by decide +kernel) rfl rfl (Nat.le_of_ble_eq_true rfl) (by decide +kernel) (fun H locs hP hD hS => ?_)
  have hP : va_P D ct_cl [(h0, .inr (1, [.int 0, .int 0, .int 0, .int 0, .int (-1), .int 0]))] H := hP
  have hD : va_D A [(h0, .inr (1, [.int 0, .int 0, .int 0, .int 0, .int (-1), .int 0]))] := hD
  refine lv_aload_n (k := 0) hx hb (by decide +kernel) rfl (lv_at hl9 0 rfl) ?_
  refine lv_iconst (n := (-1)) (v := (-1)) hx hb (by decide +kernel) (by decide) ?_
  refine va_put (D := D) (ci := 1) (v := .int (-1)) (ty := .int) (C := "CraneTurns$Job") (T := ct_T1) (N := 6) hx hb hg ct_in1 ct_ty1 ct_tyok1 ct_nm1 hown hK hP hD hS 0 rfl rfl 5 (by decide) (hg _ (ct_t1 (List.mem_of_getElem? (i := 111) rfl) rfl)) (fun _ h9 => h9) rfl (by decide +kernel) rfl rfl (Nat.le_of_ble_eq_true rfl) (by decide +kernel) (fun H locs hP hD hS => ?_)
  have hP : va_P D ct_cl [(h0, .inr (1, [.int 0, .int 0, .int 0, .int 0, .int (-1), .int (-1)]))] H := hP
  have hD : va_D A [(h0, .inr (1, [.int 0, .int 0, .int 0, .int 0, .int (-1), .int (-1)]))] := hD
  exact W.vret hx hb hr (fun t ht hW => ⟨⟨(), rfl, trivial, by rw [ht]; exact hP, hD⟩, hS.F ht⟩) hS.2.2 (by decide +kernel)
