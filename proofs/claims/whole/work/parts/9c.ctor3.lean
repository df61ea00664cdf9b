/-! CONSTRUCTORS: planner, CraneTurns, model -/
def e_pl0 : va_E := .inr (2, [.null, .null, .null, .null, .null, .int 0, .int 0, .int 0, .int 0])
def w_pl (cA : Nat → ClassId) (h0 : Nat) (u : Nat → Nat) (a1 a2 a3 a4 : Nat) : va_W := (h0, .inr (2, [.ref (u 0), .ref a1, .ref a2, .ref a3, .ref a4, .int 0, .int 0, .int 0, .int 0])) :: (w_yd cA u ++ [(a1, .inl (cA 1, 8, .inl (fun _ => 0))), (a2, .inl (cA 0, 4, .inl (fun _ => 0))), (a3, .inl (cA 0, 4, .inl (fun _ => 0))), (a4, .inl (cA 0, 4, .inl (fun _ => 0)))])
def rm_pl : Room := { frames := 3, cells := 24, slots := 159, locals := 55 }
set_option maxHeartbeats 4000000 in
set_option maxRecDepth 100000 in
theorem c_planner0 {D : va_G} {cA : Nat → ClassId} (l : Launch) (h0 sz : Nat) : Met l (⟨"CraneTurns$Planner", "<init>", "()V"⟩ : MethodName) (Cond.code (⟨"CraneTurns$Planner", "<init>", "()V"⟩ : MethodName) prog_4_method_1_code 1 none :: ct_GW) rm_pl (cn_Pre D cA h0 e_pl0 sz) (cn_Post (S := (Nat → Nat) × Nat × Nat × Nat × Nat) D (fun _ => True) (fun u => w_pl cA h0 u.1 u.2.1 u.2.2.1 u.2.2.2.1 u.2.2.2.2) (va_A [(h0, e_pl0)] sz)) 24 159 (va_A [(h0, e_pl0)] sz) := by
  refine Met.ofW (cc := prog_4_method_1_code) (maxL := 1) (ret := none) (by decide +kernel) rfl ?_
  intro p e s m args below meth c s₁ B hml hv
  obtain ⟨rfl, hsz, hP, hK, hD0, hcx⟩ := hv
  have hx := B.exec
  have hb := B.bytes
  have hr := B.returns
  have hts := atoms_spec (ws := Cond.code (⟨"CraneTurns$Planner", "<init>", "()V"⟩ : MethodName) prog_4_method_1_code 1 none :: ct_GW) B.pre
  have hg := fun w hw => hts w (List.mem_cons_of_mem _ hw)
  have hown : s.vm.findClass "CraneTurns$Planner" = some m.cls := findClass_of_methodNamed B.named
  have hlocks := B.notSynchronized
  have hin : meth.name = "<init>" := (name_of_methodNamed B.named B.method).1
  subst hsz
  have hD := hD0.self (sz := s.heap.size)
  generalize hAe : va_A [(h0, e_pl0)] s.heap.size = A at hD ⊢
  have hA : ∀ q : Nat, s.heap.size ≤ q → A q := fun q h => by rw [← hAe]; exact Or.inr h
  have hS : va_S A s.heap s.heap [] := va_S.rf
  have hl9 := lv_entry ([.ref h0] : List Value) (n := 1) (Nat.le_of_ble_eq_true rfl)
  rw [lg_entry_eq]
  generalize (lg_sl ([.ref h0] : List Value) ++ List.replicate (1 - (lg_sl ([.ref h0] : List Value)).length) Slot.unset).toArray = ls at hl9 ⊢
  have hl9 : lv_has ls 1 [(0, .ref h0)] := hl9
  have hP : va_P D ct_cl [(h0, .inr (2, [.null, .null, .null, .null, .null, .int 0, .int 0, .int 0, .int 0]))] s.heap := hP
  have hD : va_D A [(h0, .inr (2, [.null, .null, .null, .null, .null, .int 0, .int 0, .int 0, .int 0]))] := hD
  refine lv_aload_n (k := 0) hx hb (by decide +kernel) rfl (lv_at hl9 0 rfl) ?_
  refine W.objInit hx hb hown (hg _ (ct_t1 (List.mem_of_getElem? (i := 178) rfl) rfl)) (hg _ (ct_t1 (List.mem_of_getElem? (i := 22) rfl) rfl)) (hg _ (ct_t1 (List.mem_of_getElem? (i := 23) rfl) rfl)) rfl (by rw [hml]; exact hl9.1) rfl (show decode prog_4_method_1_code 1 = .ok (.invokespecial 3, 3) from by decide +kernel) (Nat.le_of_ble_eq_true rfl) (Nat.le_of_ble_eq_true rfl) ?_
  refine W.eq (g2 := F0 m 4 ls []) rfl ?_
  refine lv_aload_n (k := 0) hx hb (by decide +kernel) rfl (lv_at hl9 0 rfl) ?_
  refine va_new (D := D) (cl := ct_cl) (tys := ct_tys cA) (ci := 3) (fs := [.int 0, .int 0, .int 0, .int 0, .int 0, .int 0, .int 0, .int 0, .int 0, .null, .null]) (C := "CraneTurns$Yard") (T := ct_T3) (N := 11) hx hb hg ct_in3 ct_ty3 ct_tyok3 hown (hg _ (ct_t1 (List.mem_of_getElem? (i := 179) rfl) rfl)) (hg _ (ct_t1 (List.mem_of_getElem? (i := 25) rfl) rfl)) (hg _ (ct_t1 (List.mem_of_getElem? (i := 2) rfl) rfl)) hK hP hD hS hA rfl (fun j hj => by rcases (show j = 0 ∨ j = 1 ∨ j = 2 ∨ j = 3 ∨ j = 4 ∨ j = 5 ∨ j = 6 ∨ j = 7 ∨ j = 8 ∨ j = 9 ∨ j = 10 by omega) with rfl | rfl | rfl | rfl | rfl | rfl | rfl | rfl | rfl | rfl | rfl <;> rfl) (Nat.le_of_ble_eq_true rfl) (Nat.le_of_ble_eq_true rfl) (show decode _ _ = .ok (.new 9, 3) from by decide +kernel) (fun y1 H hP hD hS => ?_)
  refine lv_dup hx hb (by decide +kernel) rfl ?_
  have hF := cn_free (ws := [(h0, .inr (2, [.null, .null, .null, .null, .null, .int 0, .int 0, .int 0, .int 0]))]) (q0 := y1) (e0 := e_yd0) hD hS hA
  refine va_callv (va_runI (b := y1) (As := []) (rest := [.ref y1, .ref h0]) ⟨hx, hb, hml, hown, hg⟩ (c_yard0 (D := D) (cA := cA) l y1 H.size) (cwI 0 hg (cn_good (ct_t1 (List.mem_of_getElem? (i := 28) rfl) rfl)) rfl rfl rfl (hg _ (ct_t1 (List.mem_of_getElem? (i := 2) rfl) rfl)) (hg _ (ct_t1 (List.mem_of_getElem? (i := 180) rfl) rfl)) (hg _ (ct_t1 (List.mem_of_getElem? (i := 27) rfl) rfl)) rfl (by decide +kernel) ⟨Nat.le_of_ble_eq_true rfl, Nat.le_of_ble_eq_true rfl⟩) ⟨cn_blind, fun U hU hW => ⟨rfl, by rw [hU], by rw [hU]; exact cn_one (ws := [(h0, .inr (2, [.null, .null, .null, .null, .null, .int 0, .int 0, .int 0, .int 0]))]) hP, va_K.moved hW.alike hK, cn_oneD, hcx.warm hW⟩⟩ rfl rfl hl9.1 rfl (lv_room (Nat.le_of_ble_eq_true rfl)) (show decode prog_4_method_1_code 9 = .ok (.invokespecial 11, 3) from by decide +kernel) ⟨Nat.le_of_ble_eq_true rfl, Nat.le_of_ble_eq_true rfl⟩) hS (fun q _ h => hF q h) hF (fun u t H1 locs ht hvm hu hB hz1 hk1 hS => ?_)
  obtain ⟨hP1, hD1⟩ := hB
  rw [ht] at hP1
  obtain ⟨hP, hD⟩ := cn_join (ws := [(h0, .inr (2, [.null, .null, .null, .null, .null, .int 0, .int 0, .int 0, .int 0]))]) (q0 := y1) (e0 := e_yd0) hP hD hk1 hF hP1 hD1
  clear hP1 hD1 hk1 hF
  have hu : u 0 = y1 := hu
  have hP9 : va_P D ct_cl ((h0, .inr (2, [.null, .null, .null, .null, .null, .int 0, .int 0, .int 0, .int 0])) :: (w_yd cA u ++ [])) H1 := hP
  have hD9 : va_D A ((h0, .inr (2, [.null, .null, .null, .null, .null, .int 0, .int 0, .int 0, .int 0])) :: (w_yd cA u ++ [])) := hD
  clear hP hD
  subst hu
  refine W.eq (g2 := F0 m 12 ls [.ref (u 0), .ref h0]) rfl ?_
  have hP := hP9
  have hD := hD9
  refine va_putF (D := D) (ci := 2) (v := .ref (u 0)) (ty := .object "CraneTurns$Yard") (C := "CraneTurns$Planner") (T := ct_T2) (N := 9) hx hb hg ct_in2 ct_ty2 ct_tyok2 ct_nm2 hown hK hP hD hS 0 rfl rfl 0 (by decide) (hg _ (ct_t1 (List.mem_of_getElem? (i := 181) rfl) rfl)) (fun _ h9 => h9) rfl hin rfl (by decide +kernel) rfl rfl (Nat.le_of_ble_eq_true rfl) (by decide +kernel) (fun H locs hP hD hS => ?_)
  have hP : va_P D ct_cl ((h0, .inr (2, [.ref (u 0), .null, .null, .null, .null, .int 0, .int 0, .int 0, .int 0])) :: (w_yd cA u ++ [])) H := hP
  have hD : va_D A ((h0, .inr (2, [.ref (u 0), .null, .null, .null, .null, .int 0, .int 0, .int 0, .int 0])) :: (w_yd cA u ++ [])) := hD
  refine lv_aload_n (k := 0) hx hb (by decide +kernel) rfl (lv_at hl9 0 rfl) ?_
  refine lv_bipush (n := 8) (v := 8) hx hb (by decide +kernel) (by decide) ?_
  refine cn_newa (atype := .boolean) (ty := .boolean) (N' := 8) (a0 := (8, .inl (fun _ => 0))) hx hb (hg _ (ct_t1 (List.mem_of_getElem? (i := 209) rfl) rfl)) rfl 1 rfl hK hP hD hS hA (fun _ => rfl) (by decide) (by decide) (by decide) (Nat.le_of_ble_eq_true rfl) (Nat.le_of_ble_eq_true rfl) (by decide +kernel) (fun a1 H hP hD hS => ?_)
  have hP : va_P D ct_cl ((h0, .inr (2, [.ref (u 0), .null, .null, .null, .null, .int 0, .int 0, .int 0, .int 0])) :: (w_yd cA u ++ [(a1, .inl (cA 1, 8, .inl (fun _ => 0)))])) H := hP
  have hD : va_D A ((h0, .inr (2, [.ref (u 0), .null, .null, .null, .null, .int 0, .int 0, .int 0, .int 0])) :: (w_yd cA u ++ [(a1, .inl (cA 1, 8, .inl (fun _ => 0)))])) := hD
  refine va_putF (D := D) (ci := 2) (v := .ref a1) (ty := .array .boolean) (C := "CraneTurns$Planner") (T := ct_T2) (N := 9) hx hb hg ct_in2 ct_ty2 ct_tyok2 ct_nm2 hown hK hP hD hS 0 rfl rfl 1 (by decide) (hg _ (ct_t1 (List.mem_of_getElem? (i := 182) rfl) rfl)) (fun _ h9 => h9) rfl hin rfl (by decide +kernel) rfl rfl (Nat.le_of_ble_eq_true rfl) (by decide +kernel) (fun H locs hP hD hS => ?_)
  have hP : va_P D ct_cl ((h0, .inr (2, [.ref (u 0), .ref a1, .null, .null, .null, .int 0, .int 0, .int 0, .int 0])) :: (w_yd cA u ++ [(a1, .inl (cA 1, 8, .inl (fun _ => 0)))])) H := hP
  have hD : va_D A ((h0, .inr (2, [.ref (u 0), .ref a1, .null, .null, .null, .int 0, .int 0, .int 0, .int 0])) :: (w_yd cA u ++ [(a1, .inl (cA 1, 8, .inl (fun _ => 0)))])) := hD
  refine lv_aload_n (k := 0) hx hb (by decide +kernel) rfl (lv_at hl9 0 rfl) ?_
  refine lv_iconst (n := 4) (v := 4) hx hb (by decide +kernel) (by decide) ?_
  refine cn_newa (atype := .int) (ty := .int) (N' := 4) (a0 := (4, .inl (fun _ => 0))) hx hb (hg _ (ct_t1 (List.mem_of_getElem? (i := 90) rfl) rfl)) rfl 0 rfl hK hP hD hS hA (fun _ => rfl) (by decide) (by decide) (by decide) (Nat.le_of_ble_eq_true rfl) (Nat.le_of_ble_eq_true rfl) (by decide +kernel) (fun a2 H hP hD hS => ?_)
  have hP : va_P D ct_cl ((h0, .inr (2, [.ref (u 0), .ref a1, .null, .null, .null, .int 0, .int 0, .int 0, .int 0])) :: (w_yd cA u ++ [(a1, .inl (cA 1, 8, .inl (fun _ => 0))), (a2, .inl (cA 0, 4, .inl (fun _ => 0)))])) H := hP
  have hD : va_D A ((h0, .inr (2, [.ref (u 0), .ref a1, .null, .null, .null, .int 0, .int 0, .int 0, .int 0])) :: (w_yd cA u ++ [(a1, .inl (cA 1, 8, .inl (fun _ => 0))), (a2, .inl (cA 0, 4, .inl (fun _ => 0)))])) := hD
  refine va_putF (D := D) (ci := 2) (v := .ref a2) (ty := .array .int) (C := "CraneTurns$Planner") (T := ct_T2) (N := 9) hx hb hg ct_in2 ct_ty2 ct_tyok2 ct_nm2 hown hK hP hD hS 0 rfl rfl 2 (by decide) (hg _ (ct_t1 (List.mem_of_getElem? (i := 183) rfl) rfl)) (fun _ h9 => h9) rfl hin rfl (by decide +kernel) rfl rfl (Nat.le_of_ble_eq_true rfl) (by decide +kernel) (fun H locs hP hD hS => ?_)
  have hP : va_P D ct_cl ((h0, .inr (2, [.ref (u 0), .ref a1, .ref a2, .null, .null, .int 0, .int 0, .int 0, .int 0])) :: (w_yd cA u ++ [(a1, .inl (cA 1, 8, .inl (fun _ => 0))), (a2, .inl (cA 0, 4, .inl (fun _ => 0)))])) H := hP
  have hD : va_D A ((h0, .inr (2, [.ref (u 0), .ref a1, .ref a2, .null, .null, .int 0, .int 0, .int 0, .int 0])) :: (w_yd cA u ++ [(a1, .inl (cA 1, 8, .inl (fun _ => 0))), (a2, .inl (cA 0, 4, .inl (fun _ => 0)))])) := hD
  refine lv_aload_n (k := 0) hx hb (by decide +kernel) rfl (lv_at hl9 0 rfl) ?_
  refine lv_iconst (n := 4) (v := 4) hx hb (by decide +kernel) (by decide) ?_
  refine cn_newa (atype := .int) (ty := .int) (N' := 4) (a0 := (4, .inl (fun _ => 0))) hx hb (hg _ (ct_t1 (List.mem_of_getElem? (i := 90) rfl) rfl)) rfl 0 rfl hK hP hD hS hA (fun _ => rfl) (by decide) (by decide) (by decide) (Nat.le_of_ble_eq_true rfl) (Nat.le_of_ble_eq_true rfl) (by decide +kernel) (fun a3 H hP hD hS => ?_)
  have hP : va_P D ct_cl ((h0, .inr (2, [.ref (u 0), .ref a1, .ref a2, .null, .null, .int 0, .int 0, .int 0, .int 0])) :: (w_yd cA u ++ [(a1, .inl (cA 1, 8, .inl (fun _ => 0))), (a2, .inl (cA 0, 4, .inl (fun _ => 0))), (a3, .inl (cA 0, 4, .inl (fun _ => 0)))])) H := hP
  have hD : va_D A ((h0, .inr (2, [.ref (u 0), .ref a1, .ref a2, .null, .null, .int 0, .int 0, .int 0, .int 0])) :: (w_yd cA u ++ [(a1, .inl (cA 1, 8, .inl (fun _ => 0))), (a2, .inl (cA 0, 4, .inl (fun _ => 0))), (a3, .inl (cA 0, 4, .inl (fun _ => 0)))])) := hD
  refine va_putF (D := D) (ci := 2) (v := .ref a3) (ty := .array .int) (C := "CraneTurns$Planner") (T := ct_T2) (N := 9) hx hb hg ct_in2 ct_ty2 ct_tyok2 ct_nm2 hown hK hP hD hS 0 rfl rfl 3 (by decide) (hg _ (ct_t1 (List.mem_of_getElem? (i := 184) rfl) rfl)) (fun _ h9 => h9) rfl hin rfl (by decide +kernel) rfl rfl (Nat.le_of_ble_eq_true rfl) (by decide +kernel) (fun H locs hP hD hS => ?_)
  have hP : va_P D ct_cl ((h0, .inr (2, [.ref (u 0), .ref a1, .ref a2, .ref a3, .null, .int 0, .int 0, .int 0, .int 0])) :: (w_yd cA u ++ [(a1, .inl (cA 1, 8, .inl (fun _ => 0))), (a2, .inl (cA 0, 4, .inl (fun _ => 0))), (a3, .inl (cA 0, 4, .inl (fun _ => 0)))])) H := hP
  have hD : va_D A ((h0, .inr (2, [.ref (u 0), .ref a1, .ref a2, .ref a3, .null, .int 0, .int 0, .int 0, .int 0])) :: (w_yd cA u ++ [(a1, .inl (cA 1, 8, .inl (fun _ => 0))), (a2, .inl (cA 0, 4, .inl (fun _ => 0))), (a3, .inl (cA 0, 4, .inl (fun _ => 0)))])) := hD
  refine lv_aload_n (k := 0) hx hb (by decide +kernel) rfl (lv_at hl9 0 rfl) ?_
  refine lv_iconst (n := 4) (v := 4) hx hb (by decide +kernel) (by decide) ?_
  refine cn_newa (atype := .int) (ty := .int) (N' := 4) (a0 := (4, .inl (fun _ => 0))) hx hb (hg _ (ct_t1 (List.mem_of_getElem? (i := 90) rfl) rfl)) rfl 0 rfl hK hP hD hS hA (fun _ => rfl) (by decide) (by decide) (by decide) (Nat.le_of_ble_eq_true rfl) (Nat.le_of_ble_eq_true rfl) (by decide +kernel) (fun a4 H hP hD hS => ?_)
  have hP : va_P D ct_cl ((h0, .inr (2, [.ref (u 0), .ref a1, .ref a2, .ref a3, .null, .int 0, .int 0, .int 0, .int 0])) :: (w_yd cA u ++ [(a1, .inl (cA 1, 8, .inl (fun _ => 0))), (a2, .inl (cA 0, 4, .inl (fun _ => 0))), (a3, .inl (cA 0, 4, .inl (fun _ => 0))), (a4, .inl (cA 0, 4, .inl (fun _ => 0)))])) H := hP
  have hD : va_D A ((h0, .inr (2, [.ref (u 0), .ref a1, .ref a2, .ref a3, .null, .int 0, .int 0, .int 0, .int 0])) :: (w_yd cA u ++ [(a1, .inl (cA 1, 8, .inl (fun _ => 0))), (a2, .inl (cA 0, 4, .inl (fun _ => 0))), (a3, .inl (cA 0, 4, .inl (fun _ => 0))), (a4, .inl (cA 0, 4, .inl (fun _ => 0)))])) := hD
  refine va_putF (D := D) (ci := 2) (v := .ref a4) (ty := .array .int) (C := "CraneTurns$Planner") (T := ct_T2) (N := 9) hx hb hg ct_in2 ct_ty2 ct_tyok2 ct_nm2 hown hK hP hD hS 0 rfl rfl 4 (by decide) (hg _ (ct_t1 (List.mem_of_getElem? (i := 185) rfl) rfl)) (fun _ h9 => h9) rfl hin rfl (by decide +kernel) rfl rfl (Nat.le_of_ble_eq_true rfl) (by decide +kernel) (fun H locs hP hD hS => ?_)
  have hP : va_P D ct_cl ((h0, .inr (2, [.ref (u 0), .ref a1, .ref a2, .ref a3, .ref a4, .int 0, .int 0, .int 0, .int 0])) :: (w_yd cA u ++ [(a1, .inl (cA 1, 8, .inl (fun _ => 0))), (a2, .inl (cA 0, 4, .inl (fun _ => 0))), (a3, .inl (cA 0, 4, .inl (fun _ => 0))), (a4, .inl (cA 0, 4, .inl (fun _ => 0)))])) H := hP
  have hD : va_D A ((h0, .inr (2, [.ref (u 0), .ref a1, .ref a2, .ref a3, .ref a4, .int 0, .int 0, .int 0, .int 0])) :: (w_yd cA u ++ [(a1, .inl (cA 1, 8, .inl (fun _ => 0))), (a2, .inl (cA 0, 4, .inl (fun _ => 0))), (a3, .inl (cA 0, 4, .inl (fun _ => 0))), (a4, .inl (cA 0, 4, .inl (fun _ => 0)))])) := hD
  exact W.vret hx hb hr (fun t ht hW => ⟨⟨(u, a1, a2, a3, a4), rfl, trivial, by rw [ht]; exact hP, hD⟩, hS.F ht⟩) hS.2.2 (by decide +kernel)
def e_ct0 : va_E := .inr (4, [.null, .null])
def w_ct (cA : Nat → ClassId) (h0 : Nat) (u : Nat → Nat) (g : Nat) (v : Nat → Nat) (a1 a2 a3 a4 : Nat) : va_W := (h0, .inr (4, [.ref (u 0), .ref g])) :: (w_yd cA u ++ w_pl cA g v a1 a2 a3 a4)
def rm_ct : Room := { frames := 4, cells := 45, slots := 307, locals := 75 }
set_option maxHeartbeats 4000000 in
set_option maxRecDepth 100000 in
theorem c_crane_turns0 {D : va_G} {cA : Nat → ClassId} (l : Launch) (h0 sz : Nat) : Met l (⟨"CraneTurns", "<init>", "()V"⟩ : MethodName) (Cond.code (⟨"CraneTurns", "<init>", "()V"⟩ : MethodName) prog_1_method_1_code 1 none :: ct_GW) rm_ct (cn_Pre D cA h0 e_ct0 sz) (cn_Post (S := (Nat → Nat) × Nat × (Nat → Nat) × Nat × Nat × Nat × Nat) D (fun _ => True) (fun u => w_ct cA h0 u.1 u.2.1 u.2.2.1 u.2.2.2.1 u.2.2.2.2.1 u.2.2.2.2.2.1 u.2.2.2.2.2.2) (va_A [(h0, e_ct0)] sz)) 45 307 (va_A [(h0, e_ct0)] sz) := by
  refine Met.ofW (cc := prog_1_method_1_code) (maxL := 1) (ret := none) (by decide +kernel) rfl ?_
  intro p e s m args below meth c s₁ B hml hv
  obtain ⟨rfl, hsz, hP, hK, hD0, hcx⟩ := hv
  have hx := B.exec
  have hb := B.bytes
  have hr := B.returns
  have hts := atoms_spec (ws := Cond.code (⟨"CraneTurns", "<init>", "()V"⟩ : MethodName) prog_1_method_1_code 1 none :: ct_GW) B.pre
  have hg := fun w hw => hts w (List.mem_cons_of_mem _ hw)
  have hown : s.vm.findClass "CraneTurns" = some m.cls := findClass_of_methodNamed B.named
  have hlocks := B.notSynchronized
  have hin : meth.name = "<init>" := (name_of_methodNamed B.named B.method).1
  subst hsz
  have hD := hD0.self (sz := s.heap.size)
  generalize hAe : va_A [(h0, e_ct0)] s.heap.size = A at hD ⊢
  have hA : ∀ q : Nat, s.heap.size ≤ q → A q := fun q h => by rw [← hAe]; exact Or.inr h
  have hS : va_S A s.heap s.heap [] := va_S.rf
  have hl9 := lv_entry ([.ref h0] : List Value) (n := 1) (Nat.le_of_ble_eq_true rfl)
  rw [lg_entry_eq]
  generalize (lg_sl ([.ref h0] : List Value) ++ List.replicate (1 - (lg_sl ([.ref h0] : List Value)).length) Slot.unset).toArray = ls at hl9 ⊢
  have hl9 : lv_has ls 1 [(0, .ref h0)] := hl9
  have hP : va_P D ct_cl [(h0, .inr (4, [.null, .null]))] s.heap := hP
  have hD : va_D A [(h0, .inr (4, [.null, .null]))] := hD
  refine lv_aload_n (k := 0) hx hb (by decide +kernel) rfl (lv_at hl9 0 rfl) ?_
  refine W.objInit hx hb hown (hg _ (ct_t1 (List.mem_of_getElem? (i := 21) rfl) rfl)) (hg _ (ct_t1 (List.mem_of_getElem? (i := 22) rfl) rfl)) (hg _ (ct_t1 (List.mem_of_getElem? (i := 23) rfl) rfl)) rfl (by rw [hml]; exact hl9.1) rfl (show decode prog_1_method_1_code 1 = .ok (.invokespecial 1, 3) from by decide +kernel) (Nat.le_of_ble_eq_true rfl) (Nat.le_of_ble_eq_true rfl) ?_
  refine W.eq (g2 := F0 m 4 ls []) rfl ?_
  refine lv_aload_n (k := 0) hx hb (by decide +kernel) rfl (lv_at hl9 0 rfl) ?_
  refine va_new (D := D) (cl := ct_cl) (tys := ct_tys cA) (ci := 3) (fs := [.int 0, .int 0, .int 0, .int 0, .int 0, .int 0, .int 0, .int 0, .int 0, .null, .null]) (C := "CraneTurns$Yard") (T := ct_T3) (N := 11) hx hb hg ct_in3 ct_ty3 ct_tyok3 hown (hg _ (ct_t1 (List.mem_of_getElem? (i := 24) rfl) rfl)) (hg _ (ct_t1 (List.mem_of_getElem? (i := 25) rfl) rfl)) (hg _ (ct_t1 (List.mem_of_getElem? (i := 2) rfl) rfl)) hK hP hD hS hA rfl (fun j hj => by rcases (show j = 0 ∨ j = 1 ∨ j = 2 ∨ j = 3 ∨ j = 4 ∨ j = 5 ∨ j = 6 ∨ j = 7 ∨ j = 8 ∨ j = 9 ∨ j = 10 by omega) with rfl | rfl | rfl | rfl | rfl | rfl | rfl | rfl | rfl | rfl | rfl <;> rfl) (Nat.le_of_ble_eq_true rfl) (Nat.le_of_ble_eq_true rfl) (show decode _ _ = .ok (.new 7, 3) from by decide +kernel) (fun y1 H hP hD hS => ?_)
  refine lv_dup hx hb (by decide +kernel) rfl ?_
  have hF := cn_free (ws := [(h0, .inr (4, [.null, .null]))]) (q0 := y1) (e0 := e_yd0) hD hS hA
  refine va_callv (va_runI (b := y1) (As := []) (rest := [.ref y1, .ref h0]) ⟨hx, hb, hml, hown, hg⟩ (c_yard0 (D := D) (cA := cA) l y1 H.size) (cwI 0 hg (cn_good (ct_t1 (List.mem_of_getElem? (i := 28) rfl) rfl)) rfl rfl rfl (hg _ (ct_t1 (List.mem_of_getElem? (i := 2) rfl) rfl)) (hg _ (ct_t1 (List.mem_of_getElem? (i := 26) rfl) rfl)) (hg _ (ct_t1 (List.mem_of_getElem? (i := 27) rfl) rfl)) rfl (by decide +kernel) ⟨Nat.le_of_ble_eq_true rfl, Nat.le_of_ble_eq_true rfl⟩) ⟨cn_blind, fun U hU hW => ⟨rfl, by rw [hU], by rw [hU]; exact cn_one (ws := [(h0, .inr (4, [.null, .null]))]) hP, va_K.moved hW.alike hK, cn_oneD, hcx.warm hW⟩⟩ rfl rfl hl9.1 rfl (lv_room (Nat.le_of_ble_eq_true rfl)) (show decode prog_1_method_1_code 9 = .ok (.invokespecial 9, 3) from by decide +kernel) ⟨Nat.le_of_ble_eq_true rfl, Nat.le_of_ble_eq_true rfl⟩) hS (fun q _ h => hF q h) hF (fun u t H1 locs ht hvm hu hB hz1 hk1 hS => ?_)
  obtain ⟨hP1, hD1⟩ := hB
  rw [ht] at hP1
  obtain ⟨hP, hD⟩ := cn_join (ws := [(h0, .inr (4, [.null, .null]))]) (q0 := y1) (e0 := e_yd0) hP hD hk1 hF hP1 hD1
  clear hP1 hD1 hk1 hF
  have hu : u 0 = y1 := hu
  have hP9 : va_P D ct_cl ((h0, .inr (4, [.null, .null])) :: w_yd cA u) H1 := hP
  have hD9 : va_D A ((h0, .inr (4, [.null, .null])) :: w_yd cA u) := hD
  clear hP hD
  subst hu
  refine W.eq (g2 := F0 m 12 ls [.ref (u 0), .ref h0]) rfl ?_
  have hP := hP9
  have hD := hD9
  refine va_putF (D := D) (ci := 4) (v := .ref (u 0)) (ty := .object "CraneTurns$Yard") (C := "CraneTurns") (T := ct_T4) (N := 2) hx hb hg ct_in4 ct_ty4 ct_tyok4 ct_nm4 hown hK hP hD hS 0 rfl rfl 0 (by decide) (hg _ (ct_t1 (List.mem_of_getElem? (i := 210) rfl) rfl)) (fun _ h9 => h9) rfl hin rfl (by decide +kernel) rfl rfl (Nat.le_of_ble_eq_true rfl) (by decide +kernel) (fun H locs hP hD hS => ?_)
  have hP : va_P D ct_cl ((h0, .inr (4, [.ref (u 0), .null])) :: w_yd cA u) H := hP
  have hD : va_D A ((h0, .inr (4, [.ref (u 0), .null])) :: w_yd cA u) := hD
  refine lv_aload_n (k := 0) hx hb (by decide +kernel) rfl (lv_at hl9 0 rfl) ?_
  refine va_new (D := D) (cl := ct_cl) (tys := ct_tys cA) (ci := 2) (fs := [.null, .null, .null, .null, .null, .int 0, .int 0, .int 0, .int 0]) (C := "CraneTurns$Planner") (T := ct_T2) (N := 9) hx hb hg ct_in2 ct_ty2 ct_tyok2 hown (hg _ (ct_t1 (List.mem_of_getElem? (i := 173) rfl) rfl)) (hg _ (ct_t1 (List.mem_of_getElem? (i := 174) rfl) rfl)) (hg _ (ct_t1 (List.mem_of_getElem? (i := 5) rfl) rfl)) hK hP hD hS hA rfl (fun j hj => by rcases (show j = 0 ∨ j = 1 ∨ j = 2 ∨ j = 3 ∨ j = 4 ∨ j = 5 ∨ j = 6 ∨ j = 7 ∨ j = 8 by omega) with rfl | rfl | rfl | rfl | rfl | rfl | rfl | rfl | rfl <;> rfl) (Nat.le_of_ble_eq_true rfl) (Nat.le_of_ble_eq_true rfl) (show decode _ _ = .ok (.new 16, 3) from by decide +kernel) (fun g H hP hD hS => ?_)
  refine lv_dup hx hb (by decide +kernel) rfl ?_
  have hF := cn_free (ws := ((h0, .inr (4, [.ref (u 0), .null])) :: w_yd cA u)) (q0 := g) (e0 := e_pl0) hD hS hA
  refine va_callv (va_runIN (b := g) (As := []) (rest := [.ref g, .ref h0]) ⟨hx, hb, hml, hown, hg⟩ (c_planner0 (D := D) (cA := cA) l g H.size) ⟨va_cnB 0 hg (cn_good (ct_t1 (List.mem_of_getElem? (i := 177) rfl) rfl)) rfl rfl rfl (hcx.1 _ (List.mem_of_getElem? (i := 2) rfl)) (hg _ (ct_t1 (List.mem_of_getElem? (i := 5) rfl) rfl)) (by decide +kernel) ⟨Nat.le_of_ble_eq_true rfl, Nat.le_of_ble_eq_true rfl⟩, rfl, hg _ (ct_t1 (List.mem_of_getElem? (i := 176) rfl) rfl)⟩ ⟨cn_blind, fun U hU hW => ⟨rfl, by rw [hU], by rw [hU]; exact cn_one (ws := ((h0, .inr (4, [.ref (u 0), .null])) :: w_yd cA u)) hP, va_K.moved hW.alike hK, cn_oneD, hcx.warm hW⟩⟩ rfl rfl hl9.1 rfl (lv_room (Nat.le_of_ble_eq_true rfl)) (show decode prog_1_method_1_code 20 = .ok (.invokespecial 18, 3) from by decide +kernel) ⟨Nat.le_of_ble_eq_true rfl, Nat.le_of_ble_eq_true rfl⟩) hS (fun q _ h => hF q h) hF (fun ⟨v, a1, a2, a3, a4⟩ t H1 locs ht hvm hu hB hz1 hk1 hS => ?_)
  obtain ⟨hP1, hD1⟩ := hB
  rw [ht] at hP1
  obtain ⟨hP, hD⟩ := cn_join (ws := ((h0, .inr (4, [.ref (u 0), .null])) :: w_yd cA u)) (q0 := g) (e0 := e_pl0) hP hD hk1 hF hP1 hD1
  clear hP1 hD1 hk1 hF
  refine W.eq (g2 := F0 m 23 ls [.ref g, .ref h0]) rfl ?_
  have hP : va_P D ct_cl ((h0, .inr (4, [.ref (u 0), .null])) :: (w_yd cA u ++ w_pl cA g v a1 a2 a3 a4)) H1 := hP
  have hD : va_D A ((h0, .inr (4, [.ref (u 0), .null])) :: (w_yd cA u ++ w_pl cA g v a1 a2 a3 a4)) := hD
  refine va_putF (D := D) (ci := 4) (v := .ref g) (ty := .object "CraneTurns$Planner") (C := "CraneTurns") (T := ct_T4) (N := 2) hx hb hg ct_in4 ct_ty4 ct_tyok4 ct_nm4 hown hK hP hD hS 0 rfl rfl 1 (by decide) (hg _ (ct_t1 (List.mem_of_getElem? (i := 211) rfl) rfl)) (fun _ h9 => h9) rfl hin rfl (by decide +kernel) rfl rfl (Nat.le_of_ble_eq_true rfl) (by decide +kernel) (fun H locs hP hD hS => ?_)
  have hP : va_P D ct_cl ((h0, .inr (4, [.ref (u 0), .ref g])) :: (w_yd cA u ++ w_pl cA g v a1 a2 a3 a4)) H := hP
  have hD : va_D A ((h0, .inr (4, [.ref (u 0), .ref g])) :: (w_yd cA u ++ w_pl cA g v a1 a2 a3 a4)) := hD
  exact W.vret hx hb hr (fun t ht hW => ⟨⟨(u, g, v, a1, a2, a3, a4), rfl, trivial, by rw [ht]; exact hP, hD⟩, hS.F ht⟩) hS.2.2 (by decide +kernel)
def e_mo0 : va_E := .inr (5, [.int 0, .int 0, .int 0, .int 0, .int 0, .int 0, .null, .null, .null, .null, .null, .null, .int 0])
def w_mo (cA : Nat → ClassId) (h0 b1 b2 b3 b4 b5 b6 : Nat) : va_W := [(h0, .inr (5, [.int 0, .int 0, .int 0, .int 0, .int 0, .int 0, .ref b1, .ref b2, .ref b3, .ref b4, .ref b5, .ref b6, .int 0])), (b1, .inl (cA 0, 3, .inl (fun _ => 0))), (b2, .inl (cA 0, 3, .inl (fun _ => 0))), (b3, .inl (cA 0, 110, .inl (upd (fun _ => 0) 1 200))), (b4, .inl (cA 0, 110, .inl (fun _ => 0))), (b5, .inl (cA 0, 5, .inl (fun _ => 0))), (b6, .inl (cA 0, 4, .inl (fun _ => 0)))]
def rm_mo : Room := { frames := 1, cells := 6, slots := 235, locals := 14 }
set_option maxHeartbeats 4000000 in
set_option maxRecDepth 100000 in
theorem c_model0 {D : va_G} {cA : Nat → ClassId} (l : Launch) (h0 sz : Nat) : Met l (⟨"CraneTurnsModel", "<init>", "()V"⟩ : MethodName) (Cond.code (⟨"CraneTurnsModel", "<init>", "()V"⟩ : MethodName) prog_7_method_1_code 1 none :: ct_GW) rm_mo (cn_Pre D cA h0 e_mo0 sz) (cn_Post (S := Nat × Nat × Nat × Nat × Nat × Nat) D (fun _ => True) (fun u => w_mo cA h0 u.1 u.2.1 u.2.2.1 u.2.2.2.1 u.2.2.2.2.1 u.2.2.2.2.2) (va_A [(h0, e_mo0)] sz)) 6 235 (va_A [(h0, e_mo0)] sz) := by
  refine Met.ofW (cc := prog_7_method_1_code) (maxL := 1) (ret := none) (by decide +kernel) rfl ?_
  intro p e s m args below meth c s₁ B hml hv
  obtain ⟨rfl, hsz, hP, hK, hD0, hcx⟩ := hv
  have hx := B.exec
  have hb := B.bytes
  have hr := B.returns
  have hts := atoms_spec (ws := Cond.code (⟨"CraneTurnsModel", "<init>", "()V"⟩ : MethodName) prog_7_method_1_code 1 none :: ct_GW) B.pre
  have hg := fun w hw => hts w (List.mem_cons_of_mem _ hw)
  have hown : s.vm.findClass "CraneTurnsModel" = some m.cls := findClass_of_methodNamed B.named
  have hlocks := B.notSynchronized
  have hin : meth.name = "<init>" := (name_of_methodNamed B.named B.method).1
  subst hsz
  have hD := hD0.self (sz := s.heap.size)
  generalize hAe : va_A [(h0, e_mo0)] s.heap.size = A at hD ⊢
  have hA : ∀ q : Nat, s.heap.size ≤ q → A q := fun q h => by rw [← hAe]; exact Or.inr h
  have hS : va_S A s.heap s.heap [] := va_S.rf
  have hl9 := lv_entry ([.ref h0] : List Value) (n := 1) (Nat.le_of_ble_eq_true rfl)
  rw [lg_entry_eq]
  generalize (lg_sl ([.ref h0] : List Value) ++ List.replicate (1 - (lg_sl ([.ref h0] : List Value)).length) Slot.unset).toArray = ls at hl9 ⊢
  have hl9 : lv_has ls 1 [(0, .ref h0)] := hl9
  have hP : va_P D ct_cl [(h0, .inr (5, [.int 0, .int 0, .int 0, .int 0, .int 0, .int 0, .null, .null, .null, .null, .null, .null, .int 0]))] s.heap := hP
  have hD : va_D A [(h0, .inr (5, [.int 0, .int 0, .int 0, .int 0, .int 0, .int 0, .null, .null, .null, .null, .null, .null, .int 0]))] := hD
  refine lv_aload_n (k := 0) hx hb (by decide +kernel) rfl (lv_at hl9 0 rfl) ?_
  refine W.objInit hx hb hown (hg _ (ct_t3 (List.mem_of_getElem? (i := 118) rfl) rfl)) (hg _ (ct_t1 (List.mem_of_getElem? (i := 22) rfl) rfl)) (hg _ (ct_t1 (List.mem_of_getElem? (i := 23) rfl) rfl)) rfl (by rw [hml]; exact hl9.1) rfl (show decode prog_7_method_1_code 1 = .ok (.invokespecial 1, 3) from by decide +kernel) (Nat.le_of_ble_eq_true rfl) (Nat.le_of_ble_eq_true rfl) ?_
  refine W.eq (g2 := F0 m 4 ls []) rfl ?_
  refine lv_aload_n (k := 0) hx hb (by decide +kernel) rfl (lv_at hl9 0 rfl) ?_
  refine lv_iconst (n := 3) (v := 3) hx hb (by decide +kernel) (by decide) ?_
  refine cn_newa (atype := .int) (ty := .int) (N' := 3) (a0 := (3, .inl (fun _ => 0))) hx hb (hg _ (ct_t1 (List.mem_of_getElem? (i := 90) rfl) rfl)) rfl 0 rfl hK hP hD hS hA (fun _ => rfl) (by decide) (by decide) (by decide) (Nat.le_of_ble_eq_true rfl) (Nat.le_of_ble_eq_true rfl) (by decide +kernel) (fun b1 H hP hD hS => ?_)
  have hP : va_P D ct_cl [(h0, .inr (5, [.int 0, .int 0, .int 0, .int 0, .int 0, .int 0, .null, .null, .null, .null, .null, .null, .int 0])), (b1, .inl (cA 0, 3, .inl (fun _ => 0)))] H := hP
  have hD : va_D A [(h0, .inr (5, [.int 0, .int 0, .int 0, .int 0, .int 0, .int 0, .null, .null, .null, .null, .null, .null, .int 0])), (b1, .inl (cA 0, 3, .inl (fun _ => 0)))] := hD
  refine va_putF (D := D) (ci := 5) (v := .ref b1) (ty := .array .int) (C := "CraneTurnsModel") (T := ct_T5) (N := 13) hx hb hg ct_in5 ct_ty5 ct_tyok5 ct_nm5 hown hK hP hD hS 0 rfl rfl 6 (by decide) (hg _ (ct_t3 (List.mem_of_getElem? (i := 125) rfl) rfl)) (fun _ h9 => h9) rfl hin rfl (by decide +kernel) rfl rfl (Nat.le_of_ble_eq_true rfl) (by decide +kernel) (fun H locs hP hD hS => ?_)
  have hP : va_P D ct_cl [(h0, .inr (5, [.int 0, .int 0, .int 0, .int 0, .int 0, .int 0, .ref b1, .null, .null, .null, .null, .null, .int 0])), (b1, .inl (cA 0, 3, .inl (fun _ => 0)))] H := hP
  have hD : va_D A [(h0, .inr (5, [.int 0, .int 0, .int 0, .int 0, .int 0, .int 0, .ref b1, .null, .null, .null, .null, .null, .int 0])), (b1, .inl (cA 0, 3, .inl (fun _ => 0)))] := hD
  refine lv_aload_n (k := 0) hx hb (by decide +kernel) rfl (lv_at hl9 0 rfl) ?_
  refine lv_iconst (n := 3) (v := 3) hx hb (by decide +kernel) (by decide) ?_
  refine cn_newa (atype := .int) (ty := .int) (N' := 3) (a0 := (3, .inl (fun _ => 0))) hx hb (hg _ (ct_t1 (List.mem_of_getElem? (i := 90) rfl) rfl)) rfl 0 rfl hK hP hD hS hA (fun _ => rfl) (by decide) (by decide) (by decide) (Nat.le_of_ble_eq_true rfl) (Nat.le_of_ble_eq_true rfl) (by decide +kernel) (fun b2 H hP hD hS => ?_)
  have hP : va_P D ct_cl [(h0, .inr (5, [.int 0, .int 0, .int 0, .int 0, .int 0, .int 0, .ref b1, .null, .null, .null, .null, .null, .int 0])), (b1, .inl (cA 0, 3, .inl (fun _ => 0))), (b2, .inl (cA 0, 3, .inl (fun _ => 0)))] H := hP
  have hD : va_D A [(h0, .inr (5, [.int 0, .int 0, .int 0, .int 0, .int 0, .int 0, .ref b1, .null, .null, .null, .null, .null, .int 0])), (b1, .inl (cA 0, 3, .inl (fun _ => 0))), (b2, .inl (cA 0, 3, .inl (fun _ => 0)))] := hD
  refine va_putF (D := D) (ci := 5) (v := .ref b2) (ty := .array .int) (C := "CraneTurnsModel") (T := ct_T5) (N := 13) hx hb hg ct_in5 ct_ty5 ct_tyok5 ct_nm5 hown hK hP hD hS 0 rfl rfl 7 (by decide) (hg _ (ct_t3 (List.mem_of_getElem? (i := 126) rfl) rfl)) (fun _ h9 => h9) rfl hin rfl (by decide +kernel) rfl rfl (Nat.le_of_ble_eq_true rfl) (by decide +kernel) (fun H locs hP hD hS => ?_)
  have hP : va_P D ct_cl [(h0, .inr (5, [.int 0, .int 0, .int 0, .int 0, .int 0, .int 0, .ref b1, .ref b2, .null, .null, .null, .null, .int 0])), (b1, .inl (cA 0, 3, .inl (fun _ => 0))), (b2, .inl (cA 0, 3, .inl (fun _ => 0)))] H := hP
  have hD : va_D A [(h0, .inr (5, [.int 0, .int 0, .int 0, .int 0, .int 0, .int 0, .ref b1, .ref b2, .null, .null, .null, .null, .int 0])), (b1, .inl (cA 0, 3, .inl (fun _ => 0))), (b2, .inl (cA 0, 3, .inl (fun _ => 0)))] := hD
  refine lv_aload_n (k := 0) hx hb (by decide +kernel) rfl (lv_at hl9 0 rfl) ?_
  refine lv_bipush (n := 110) (v := 110) hx hb (by decide +kernel) (by decide) ?_
  refine cn_newa (atype := .int) (ty := .int) (N' := 110) (a0 := (110, .inl (fun _ => 0))) hx hb (hg _ (ct_t1 (List.mem_of_getElem? (i := 90) rfl) rfl)) rfl 0 rfl hK hP hD hS hA (fun _ => rfl) (by decide) (by decide) (by decide) (Nat.le_of_ble_eq_true rfl) (Nat.le_of_ble_eq_true rfl) (by decide +kernel) (fun b3 H hP hD hS => ?_)
  have hP : va_P D ct_cl [(h0, .inr (5, [.int 0, .int 0, .int 0, .int 0, .int 0, .int 0, .ref b1, .ref b2, .null, .null, .null, .null, .int 0])), (b1, .inl (cA 0, 3, .inl (fun _ => 0))), (b2, .inl (cA 0, 3, .inl (fun _ => 0))), (b3, .inl (cA 0, 110, .inl (fun _ => 0)))] H := hP
  have hD : va_D A [(h0, .inr (5, [.int 0, .int 0, .int 0, .int 0, .int 0, .int 0, .ref b1, .ref b2, .null, .null, .null, .null, .int 0])), (b1, .inl (cA 0, 3, .inl (fun _ => 0))), (b2, .inl (cA 0, 3, .inl (fun _ => 0))), (b3, .inl (cA 0, 110, .inl (fun _ => 0)))] := hD
  refine va_putF (D := D) (ci := 5) (v := .ref b3) (ty := .array .int) (C := "CraneTurnsModel") (T := ct_T5) (N := 13) hx hb hg ct_in5 ct_ty5 ct_tyok5 ct_nm5 hown hK hP hD hS 0 rfl rfl 8 (by decide) (hg _ (ct_t3 (List.mem_of_getElem? (i := 127) rfl) rfl)) (fun _ h9 => h9) rfl hin rfl (by decide +kernel) rfl rfl (Nat.le_of_ble_eq_true rfl) (by decide +kernel) (fun H locs hP hD hS => ?_)
  have hP : va_P D ct_cl [(h0, .inr (5, [.int 0, .int 0, .int 0, .int 0, .int 0, .int 0, .ref b1, .ref b2, .ref b3, .null, .null, .null, .int 0])), (b1, .inl (cA 0, 3, .inl (fun _ => 0))), (b2, .inl (cA 0, 3, .inl (fun _ => 0))), (b3, .inl (cA 0, 110, .inl (fun _ => 0)))] H := hP
  have hD : va_D A [(h0, .inr (5, [.int 0, .int 0, .int 0, .int 0, .int 0, .int 0, .ref b1, .ref b2, .ref b3, .null, .null, .null, .int 0])), (b1, .inl (cA 0, 3, .inl (fun _ => 0))), (b2, .inl (cA 0, 3, .inl (fun _ => 0))), (b3, .inl (cA 0, 110, .inl (fun _ => 0)))] := hD
  refine lv_aload_n (k := 0) hx hb (by decide +kernel) rfl (lv_at hl9 0 rfl) ?_
  refine lv_bipush (n := 110) (v := 110) hx hb (by decide +kernel) (by decide) ?_
  refine cn_newa (atype := .int) (ty := .int) (N' := 110) (a0 := (110, .inl (fun _ => 0))) hx hb (hg _ (ct_t1 (List.mem_of_getElem? (i := 90) rfl) rfl)) rfl 0 rfl hK hP hD hS hA (fun _ => rfl) (by decide) (by decide) (by decide) (Nat.le_of_ble_eq_true rfl) (Nat.le_of_ble_eq_true rfl) (by decide +kernel) (fun b4 H hP hD hS => ?_)
  have hP : va_P D ct_cl [(h0, .inr (5, [.int 0, .int 0, .int 0, .int 0, .int 0, .int 0, .ref b1, .ref b2, .ref b3, .null, .null, .null, .int 0])), (b1, .inl (cA 0, 3, .inl (fun _ => 0))), (b2, .inl (cA 0, 3, .inl (fun _ => 0))), (b3, .inl (cA 0, 110, .inl (fun _ => 0))), (b4, .inl (cA 0, 110, .inl (fun _ => 0)))] H := hP
  have hD : va_D A [(h0, .inr (5, [.int 0, .int 0, .int 0, .int 0, .int 0, .int 0, .ref b1, .ref b2, .ref b3, .null, .null, .null, .int 0])), (b1, .inl (cA 0, 3, .inl (fun _ => 0))), (b2, .inl (cA 0, 3, .inl (fun _ => 0))), (b3, .inl (cA 0, 110, .inl (fun _ => 0))), (b4, .inl (cA 0, 110, .inl (fun _ => 0)))] := hD
  refine va_putF (D := D) (ci := 5) (v := .ref b4) (ty := .array .int) (C := "CraneTurnsModel") (T := ct_T5) (N := 13) hx hb hg ct_in5 ct_ty5 ct_tyok5 ct_nm5 hown hK hP hD hS 0 rfl rfl 9 (by decide) (hg _ (ct_t3 (List.mem_of_getElem? (i := 128) rfl) rfl)) (fun _ h9 => h9) rfl hin rfl (by decide +kernel) rfl rfl (Nat.le_of_ble_eq_true rfl) (by decide +kernel) (fun H locs hP hD hS => ?_)
  have hP : va_P D ct_cl [(h0, .inr (5, [.int 0, .int 0, .int 0, .int 0, .int 0, .int 0, .ref b1, .ref b2, .ref b3, .ref b4, .null, .null, .int 0])), (b1, .inl (cA 0, 3, .inl (fun _ => 0))), (b2, .inl (cA 0, 3, .inl (fun _ => 0))), (b3, .inl (cA 0, 110, .inl (fun _ => 0))), (b4, .inl (cA 0, 110, .inl (fun _ => 0)))] H := hP
  have hD : va_D A [(h0, .inr (5, [.int 0, .int 0, .int 0, .int 0, .int 0, .int 0, .ref b1, .ref b2, .ref b3, .ref b4, .null, .null, .int 0])), (b1, .inl (cA 0, 3, .inl (fun _ => 0))), (b2, .inl (cA 0, 3, .inl (fun _ => 0))), (b3, .inl (cA 0, 110, .inl (fun _ => 0))), (b4, .inl (cA 0, 110, .inl (fun _ => 0)))] := hD
  refine lv_aload_n (k := 0) hx hb (by decide +kernel) rfl (lv_at hl9 0 rfl) ?_
  refine lv_iconst (n := 5) (v := 5) hx hb (by decide +kernel) (by decide) ?_
  refine cn_newa (atype := .int) (ty := .int) (N' := 5) (a0 := (5, .inl (fun _ => 0))) hx hb (hg _ (ct_t1 (List.mem_of_getElem? (i := 90) rfl) rfl)) rfl 0 rfl hK hP hD hS hA (fun _ => rfl) (by decide) (by decide) (by decide) (Nat.le_of_ble_eq_true rfl) (Nat.le_of_ble_eq_true rfl) (by decide +kernel) (fun b5 H hP hD hS => ?_)
  have hP : va_P D ct_cl [(h0, .inr (5, [.int 0, .int 0, .int 0, .int 0, .int 0, .int 0, .ref b1, .ref b2, .ref b3, .ref b4, .null, .null, .int 0])), (b1, .inl (cA 0, 3, .inl (fun _ => 0))), (b2, .inl (cA 0, 3, .inl (fun _ => 0))), (b3, .inl (cA 0, 110, .inl (fun _ => 0))), (b4, .inl (cA 0, 110, .inl (fun _ => 0))), (b5, .inl (cA 0, 5, .inl (fun _ => 0)))] H := hP
  have hD : va_D A [(h0, .inr (5, [.int 0, .int 0, .int 0, .int 0, .int 0, .int 0, .ref b1, .ref b2, .ref b3, .ref b4, .null, .null, .int 0])), (b1, .inl (cA 0, 3, .inl (fun _ => 0))), (b2, .inl (cA 0, 3, .inl (fun _ => 0))), (b3, .inl (cA 0, 110, .inl (fun _ => 0))), (b4, .inl (cA 0, 110, .inl (fun _ => 0))), (b5, .inl (cA 0, 5, .inl (fun _ => 0)))] := hD
  refine va_putF (D := D) (ci := 5) (v := .ref b5) (ty := .array .int) (C := "CraneTurnsModel") (T := ct_T5) (N := 13) hx hb hg ct_in5 ct_ty5 ct_tyok5 ct_nm5 hown hK hP hD hS 0 rfl rfl 10 (by decide) (hg _ (ct_t3 (List.mem_of_getElem? (i := 129) rfl) rfl)) (fun _ h9 => h9) rfl hin rfl (by decide +kernel) rfl rfl (Nat.le_of_ble_eq_true rfl) (by decide +kernel) (fun H locs hP hD hS => ?_)
  have hP : va_P D ct_cl [(h0, .inr (5, [.int 0, .int 0, .int 0, .int 0, .int 0, .int 0, .ref b1, .ref b2, .ref b3, .ref b4, .ref b5, .null, .int 0])), (b1, .inl (cA 0, 3, .inl (fun _ => 0))), (b2, .inl (cA 0, 3, .inl (fun _ => 0))), (b3, .inl (cA 0, 110, .inl (fun _ => 0))), (b4, .inl (cA 0, 110, .inl (fun _ => 0))), (b5, .inl (cA 0, 5, .inl (fun _ => 0)))] H := hP
  have hD : va_D A [(h0, .inr (5, [.int 0, .int 0, .int 0, .int 0, .int 0, .int 0, .ref b1, .ref b2, .ref b3, .ref b4, .ref b5, .null, .int 0])), (b1, .inl (cA 0, 3, .inl (fun _ => 0))), (b2, .inl (cA 0, 3, .inl (fun _ => 0))), (b3, .inl (cA 0, 110, .inl (fun _ => 0))), (b4, .inl (cA 0, 110, .inl (fun _ => 0))), (b5, .inl (cA 0, 5, .inl (fun _ => 0)))] := hD
  refine lv_aload_n (k := 0) hx hb (by decide +kernel) rfl (lv_at hl9 0 rfl) ?_
  refine lv_iconst (n := 4) (v := 4) hx hb (by decide +kernel) (by decide) ?_
  refine cn_newa (atype := .int) (ty := .int) (N' := 4) (a0 := (4, .inl (fun _ => 0))) hx hb (hg _ (ct_t1 (List.mem_of_getElem? (i := 90) rfl) rfl)) rfl 0 rfl hK hP hD hS hA (fun _ => rfl) (by decide) (by decide) (by decide) (Nat.le_of_ble_eq_true rfl) (Nat.le_of_ble_eq_true rfl) (by decide +kernel) (fun b6 H hP hD hS => ?_)
  have hP : va_P D ct_cl [(h0, .inr (5, [.int 0, .int 0, .int 0, .int 0, .int 0, .int 0, .ref b1, .ref b2, .ref b3, .ref b4, .ref b5, .null, .int 0])), (b1, .inl (cA 0, 3, .inl (fun _ => 0))), (b2, .inl (cA 0, 3, .inl (fun _ => 0))), (b3, .inl (cA 0, 110, .inl (fun _ => 0))), (b4, .inl (cA 0, 110, .inl (fun _ => 0))), (b5, .inl (cA 0, 5, .inl (fun _ => 0))), (b6, .inl (cA 0, 4, .inl (fun _ => 0)))] H := hP
  have hD : va_D A [(h0, .inr (5, [.int 0, .int 0, .int 0, .int 0, .int 0, .int 0, .ref b1, .ref b2, .ref b3, .ref b4, .ref b5, .null, .int 0])), (b1, .inl (cA 0, 3, .inl (fun _ => 0))), (b2, .inl (cA 0, 3, .inl (fun _ => 0))), (b3, .inl (cA 0, 110, .inl (fun _ => 0))), (b4, .inl (cA 0, 110, .inl (fun _ => 0))), (b5, .inl (cA 0, 5, .inl (fun _ => 0))), (b6, .inl (cA 0, 4, .inl (fun _ => 0)))] := hD
  refine va_putF (D := D) (ci := 5) (v := .ref b6) (ty := .array .int) (C := "CraneTurnsModel") (T := ct_T5) (N := 13) hx hb hg ct_in5 ct_ty5 ct_tyok5 ct_nm5 hown hK hP hD hS 0 rfl rfl 11 (by decide) (hg _ (ct_t3 (List.mem_of_getElem? (i := 130) rfl) rfl)) (fun _ h9 => h9) rfl hin rfl (by decide +kernel) rfl rfl (Nat.le_of_ble_eq_true rfl) (by decide +kernel) (fun H locs hP hD hS => ?_)
  have hP : va_P D ct_cl [(h0, .inr (5, [.int 0, .int 0, .int 0, .int 0, .int 0, .int 0, .ref b1, .ref b2, .ref b3, .ref b4, .ref b5, .ref b6, .int 0])), (b1, .inl (cA 0, 3, .inl (fun _ => 0))), (b2, .inl (cA 0, 3, .inl (fun _ => 0))), (b3, .inl (cA 0, 110, .inl (fun _ => 0))), (b4, .inl (cA 0, 110, .inl (fun _ => 0))), (b5, .inl (cA 0, 5, .inl (fun _ => 0))), (b6, .inl (cA 0, 4, .inl (fun _ => 0)))] H := hP
  have hD : va_D A [(h0, .inr (5, [.int 0, .int 0, .int 0, .int 0, .int 0, .int 0, .ref b1, .ref b2, .ref b3, .ref b4, .ref b5, .ref b6, .int 0])), (b1, .inl (cA 0, 3, .inl (fun _ => 0))), (b2, .inl (cA 0, 3, .inl (fun _ => 0))), (b3, .inl (cA 0, 110, .inl (fun _ => 0))), (b4, .inl (cA 0, 110, .inl (fun _ => 0))), (b5, .inl (cA 0, 5, .inl (fun _ => 0))), (b6, .inl (cA 0, 4, .inl (fun _ => 0)))] := hD
  refine lv_aload_n (k := 0) hx hb (by decide +kernel) rfl (lv_at hl9 0 rfl) ?_
  refine va_get (D := D) (ci := 5) (v := .ref b3) (C := "CraneTurnsModel") (T := ct_T5) (N := 13) hx hb hg ct_in5 hown hK hP 0 rfl rfl 8 (by decide) (hg _ (ct_t3 (List.mem_of_getElem? (i := 127) rfl) rfl)) (fun _ h9 => h9) rfl (show decode _ _ = .ok (.getfield 16, 3) from by decide +kernel) ?_
  refine lv_iconst (n := 1) (v := 1) hx hb (by decide +kernel) (by decide) ?_
  refine lv_sipush (n := 200) (v := 200) hx hb (by decide +kernel) (by decide) ?_
  refine va_iast (D := D) (cl := ct_cl) (tys := ct_tys cA) hx hb hK hP hD hS 3 0 rfl rfl (show vp_in 1 110 from nI_in (c := 1) (by decide) (by decide)) (by decide +kernel) (fun H locs hP hD hS => ?_)
  have hP : va_P D ct_cl [(h0, .inr (5, [.int 0, .int 0, .int 0, .int 0, .int 0, .int 0, .ref b1, .ref b2, .ref b3, .ref b4, .ref b5, .ref b6, .int 0])), (b1, .inl (cA 0, 3, .inl (fun _ => 0))), (b2, .inl (cA 0, 3, .inl (fun _ => 0))), (b3, .inl (cA 0, 110, .inl (upd (fun _ => 0) 1 200))), (b4, .inl (cA 0, 110, .inl (fun _ => 0))), (b5, .inl (cA 0, 5, .inl (fun _ => 0))), (b6, .inl (cA 0, 4, .inl (fun _ => 0)))] H := hP
  have hD : va_D A [(h0, .inr (5, [.int 0, .int 0, .int 0, .int 0, .int 0, .int 0, .ref b1, .ref b2, .ref b3, .ref b4, .ref b5, .ref b6, .int 0])), (b1, .inl (cA 0, 3, .inl (fun _ => 0))), (b2, .inl (cA 0, 3, .inl (fun _ => 0))), (b3, .inl (cA 0, 110, .inl (upd (fun _ => 0) 1 200))), (b4, .inl (cA 0, 110, .inl (fun _ => 0))), (b5, .inl (cA 0, 5, .inl (fun _ => 0))), (b6, .inl (cA 0, 4, .inl (fun _ => 0)))] := hD
  exact W.vret hx hb hr (fun t ht hW => ⟨⟨(b1, b2, b3, b4, b5, b6), rfl, trivial, by rw [ht]; exact hP, hD⟩, hS.F ht⟩) hS.2.2 (by decide +kernel)
