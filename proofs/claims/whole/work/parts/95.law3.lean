section
variable {D : va_G} {ad : Nat → Nat} {cA : Nat → ClassId} {l : Launch}
def hl_rm : Room := { frames := 14, cells := 1, slots := 6, locals := 840 }
abbrev wl_track : List Cond := Cond.codeWith (⟨"CraneTurnsLaw", "track", "(LCraneTurns;IIII)I"⟩ : MethodName) method_3_code 6 (some .int) [(0, 9, 12, 13), (0, 9, 16, 15)] :: ct_GW
set_option maxRecDepth 20000 in
set_option maxHeartbeats 2000000 in
theorem hp_track {M M' : mm_M} {k v1 v2 v3 v4 : Int32} (hPB : PB D ad cA l [xS, xA] 73 M [.inr (4, 0), .inl v1, .inl v2, .inl v3, .inl v4] k none M') (sz : Nat) : Met l (⟨"CraneTurnsLaw", "track", "(LCraneTurns;IIII)I"⟩ : MethodName) wl_track hl_rm (mx_Pre cu_XS ct_NW D ct_cl (ct_tys cA) ad cA ct_K ct_kd ct_N M [.inr (4, 0), .inl v1, .inl v2, .inl v3, .inl v4] sz) (mm_Post D ct_cl ad cA ct_K ct_kd ct_N (some k) M' (va_A (ct_W ad cA M) sz)) 1 6 (va_A (ct_W ad cA M) sz) := by
  refine mh_ofW (cc := method_3_code) (maxL := 6) (ret := some .int) (hh := [(0, 9, 12, 13), (0, 9, 16, 15)]) (by decide +kernel) rfl ?_
  intro p e s m args below meth c s₁ B hml hv
  obtain ⟨⟨rfl, hsz, hP, hK, hD0, hnw⟩, hcx, hst⟩ := hv
  have hx := B.exec
  have hb := B.bytes
  have hr := B.returns
  have hts := atoms_spec (ws := wl_track) B.pre
  have hg := fun w hw => hts w (List.mem_cons_of_mem _ hw)
  have hown : s.vm.findClass "CraneTurnsLaw" = some m.cls := findClass_of_methodNamed B.named
  have hlocks := B.notSynchronized
  have htab := vx_table (x := ⟨"", "", ""⟩) B (hts _ List.mem_cons_self)
  subst hsz
  have hD := hD0.self (sz := s.heap.size)
  have hA : ∀ q : Nat, s.heap.size ≤ q → va_A (ct_W ad cA M) s.heap.size q := fun q h => Or.inr h
  have hl9 := lv_entry ([.ref (ad 0), .int v1, .int v2, .int v3, .int v4] : List Value) (n := 6) (Nat.le_of_ble_eq_true rfl)
  show W p l e _ s m _ below meth c s.heap [] 0 0 _ (entryFrame m ([.ref (ad 0), .int v1, .int v2, .int v3, .int v4] : List Value).toArray 6)
  rw [lg_entry_eq]
  generalize (lg_sl ([.ref (ad 0), .int v1, .int v2, .int v3, .int v4] : List Value) ++ List.replicate (6 - (lg_sl ([.ref (ad 0), .int v1, .int v2, .int v3, .int v4] : List Value)).length) Slot.unset).toArray = ls at hl9 ⊢
  have hl9 : lv_has ls 6 [(0, .ref (ad 0)), (1, .int v1), (2, .int v2), (3, .int v3), (4, .int v4)] := hl9
  refine lv_aload_n (k := 0) hx hb (by decide +kernel) rfl (lv_at hl9 0 rfl) ?_
  refine lv_iload_n (k := 1) hx hb (by decide +kernel) rfl (lv_at hl9 1 rfl) ?_
  refine lv_iload_n (k := 2) hx hb (by decide +kernel) rfl (lv_at hl9 2 rfl) ?_
  refine lv_iload_n (k := 3) hx hb (by decide +kernel) rfl (lv_at hl9 3 rfl) ?_
  refine lv_iload hx hb (by decide +kernel) (lv_at hl9 4 rfl) ?_
  refine mh_call (own := "CraneTurnsLaw") (idx := 7) (n := 4) (As := [.inl v1, .inl v2, .inl v3, .inl v4]) (rest := []) hPB hx hb hml hown hg hK hnw hcx hst hP hD va_S.rf hA hl9.1 rfl (ct_t1 (List.mem_of_getElem? (i := 229) rfl) rfl) (mm_4 (ct_t1 (List.mem_of_getElem? (i := 226) rfl) rfl) (ct_t1 (List.mem_of_getElem? (i := 227) rfl) rfl) (ct_t1 (List.mem_of_getElem? (i := 228) rfl) rfl) (ct_t1 (List.mem_of_getElem? (i := 1) rfl) rfl)) (by decide +kernel) ⟨Nat.le_of_ble_eq_true rfl, Nat.le_of_ble_eq_true rfl⟩ ⟨Nat.le_refl _, Nat.le_refl _⟩ (Nat.le_of_ble_eq_true rfl) (by decide +kernel) (fun hk H1 locs1 hz hq hP1 hS1 => ?_) (fun i hi hk hM ce q9 H1 locs1 hz hq hP1 hS1 hce hcv hcl => ?_)
  · subst hk
    refine lv_goto (off := 11) (tgt := 20) hx hb (by decide +kernel) (by decide) ?_
    refine lv_iconst (n := 0) (v := 0) hx hb (by decide +kernel) (by decide) ?_
    exact W.iret hx hb hr (fun t ht hW => ⟨⟨rfl, by rw [ht]; exact hP1, ct_D_same hD⟩, hS1.F ht⟩) hS1.2.2 (by decide +kernel)
  · subst hk hM
    match i, hi, hcl with
    | 0, _, hcl =>
      refine vx_catch (own := "CraneTurnsLaw") (name := xS) (E := xS) hown [] ⟨0, 9, 12, 13⟩ [⟨0, 9, 16, 15⟩] htab ?_ (by decide) (by decide) (hg _ (ct_t1 (List.mem_of_getElem? (i := 224) rfl) rfl)) (va_Nw.use rfl (hcx.1 xS (by decide))) hce hcv hcl ?_
      · exact fun z hz => nomatch hz
      · refine lv_astore (i := 5) hx hb (by decide +kernel) hl9 (by decide) rfl (fun ls hl9 => ?_)
        refine lv_iconst (n := 1) (v := nI 1) hx hb (by decide +kernel) (by decide) ?_
        exact W.iret hx hb hr (fun t ht hW => ⟨⟨rfl, by rw [ht]; exact hP1, ct_D_same hD⟩, hS1.F ht⟩) hS1.2.2 (by decide +kernel)
    | 1, _, hcl =>
      refine vx_catch (own := "CraneTurnsLaw") (name := xA) (E := xA) hown [⟨0, 9, 12, 13⟩] ⟨0, 9, 16, 15⟩ [] htab ?_ (by decide) (by decide) (hg _ (ct_t1 (List.mem_of_getElem? (i := 225) rfl) rfl)) (va_Nw.use rfl (hcx.1 xA (by decide))) hce hcv hcl ?_
      · exact List.forall_mem_cons.mpr ⟨Or.inr ⟨by decide, xS, hg _ (ct_t1 (List.mem_of_getElem? (i := 224) rfl) rfl), hcx.2.2.1 xA (by decide) xS (by decide) (by decide)⟩, fun _ h => nomatch h⟩
      · refine lv_astore (i := 5) hx hb (by decide +kernel) hl9 (by decide) rfl (fun ls hl9 => ?_)
        refine lv_iconst (n := 2) (v := nI 2) hx hb (by decide +kernel) (by decide) ?_
        exact W.iret hx hb hr (fun t ht hW => ⟨⟨rfl, by rw [ht]; exact hP1, ct_D_same hD⟩, hS1.F ht⟩) hS1.2.2 (by decide +kernel)
    | i + 2, h, _ => exact absurd h (by simp)
abbrev wl_crane : List Cond := Cond.codeWith (⟨"CraneTurnsLaw", "crane", "(LCraneTurns;IIII)I"⟩ : MethodName) method_4_code 6 (some .int) [(0, 9, 12, 20), (0, 9, 16, 13), (0, 9, 20, 15), (0, 9, 24, 22)] :: ct_GW
set_option maxRecDepth 20000 in
set_option maxHeartbeats 2000000 in
theorem hp_crane {M M' : mm_M} {k v1 v2 v3 v4 : Int32} (hPB : PB D ad cA l [xI, xS, xA, xU] 74 M [.inr (4, 0), .inl v1, .inl v2, .inl v3, .inl v4] k none M') (sz : Nat) : Met l (⟨"CraneTurnsLaw", "crane", "(LCraneTurns;IIII)I"⟩ : MethodName) wl_crane hl_rm (mx_Pre cu_XS ct_NW D ct_cl (ct_tys cA) ad cA ct_K ct_kd ct_N M [.inr (4, 0), .inl v1, .inl v2, .inl v3, .inl v4] sz) (mm_Post D ct_cl ad cA ct_K ct_kd ct_N (some k) M' (va_A (ct_W ad cA M) sz)) 1 6 (va_A (ct_W ad cA M) sz) := by
  refine mh_ofW (cc := method_4_code) (maxL := 6) (ret := some .int) (hh := [(0, 9, 12, 20), (0, 9, 16, 13), (0, 9, 20, 15), (0, 9, 24, 22)]) (by decide +kernel) rfl ?_
  intro p e s m args below meth c s₁ B hml hv
  obtain ⟨⟨rfl, hsz, hP, hK, hD0, hnw⟩, hcx, hst⟩ := hv
  have hx := B.exec
  have hb := B.bytes
  have hr := B.returns
  have hts := atoms_spec (ws := wl_crane) B.pre
  have hg := fun w hw => hts w (List.mem_cons_of_mem _ hw)
  have hown : s.vm.findClass "CraneTurnsLaw" = some m.cls := findClass_of_methodNamed B.named
  have hlocks := B.notSynchronized
  have htab := vx_table (x := ⟨"", "", ""⟩) B (hts _ List.mem_cons_self)
  subst hsz
  have hD := hD0.self (sz := s.heap.size)
  have hA : ∀ q : Nat, s.heap.size ≤ q → va_A (ct_W ad cA M) s.heap.size q := fun q h => Or.inr h
  have hl9 := lv_entry ([.ref (ad 0), .int v1, .int v2, .int v3, .int v4] : List Value) (n := 6) (Nat.le_of_ble_eq_true rfl)
  show W p l e _ s m _ below meth c s.heap [] 0 0 _ (entryFrame m ([.ref (ad 0), .int v1, .int v2, .int v3, .int v4] : List Value).toArray 6)
  rw [lg_entry_eq]
  generalize (lg_sl ([.ref (ad 0), .int v1, .int v2, .int v3, .int v4] : List Value) ++ List.replicate (6 - (lg_sl ([.ref (ad 0), .int v1, .int v2, .int v3, .int v4] : List Value)).length) Slot.unset).toArray = ls at hl9 ⊢
  have hl9 : lv_has ls 6 [(0, .ref (ad 0)), (1, .int v1), (2, .int v2), (3, .int v3), (4, .int v4)] := hl9
  refine lv_aload_n (k := 0) hx hb (by decide +kernel) rfl (lv_at hl9 0 rfl) ?_
  refine lv_iload_n (k := 1) hx hb (by decide +kernel) rfl (lv_at hl9 1 rfl) ?_
  refine lv_iload_n (k := 2) hx hb (by decide +kernel) rfl (lv_at hl9 2 rfl) ?_
  refine lv_iload_n (k := 3) hx hb (by decide +kernel) rfl (lv_at hl9 3 rfl) ?_
  refine lv_iload hx hb (by decide +kernel) (lv_at hl9 4 rfl) ?_
  refine mh_call (own := "CraneTurnsLaw") (idx := 17) (n := 4) (As := [.inl v1, .inl v2, .inl v3, .inl v4]) (rest := []) hPB hx hb hml hown hg hK hnw hcx hst hP hD va_S.rf hA hl9.1 rfl (ct_t2 (List.mem_of_getElem? (i := 98) rfl) rfl) (mm_4 (ct_t2 (List.mem_of_getElem? (i := 95) rfl) rfl) (ct_t2 (List.mem_of_getElem? (i := 96) rfl) rfl) (ct_t2 (List.mem_of_getElem? (i := 97) rfl) rfl) (ct_t1 (List.mem_of_getElem? (i := 1) rfl) rfl)) (by decide +kernel) ⟨Nat.le_of_ble_eq_true rfl, Nat.le_of_ble_eq_true rfl⟩ ⟨Nat.le_refl _, Nat.le_refl _⟩ (Nat.le_of_ble_eq_true rfl) (by decide +kernel) (fun hk H1 locs1 hz hq hP1 hS1 => ?_) (fun i hi hk hM ce q9 H1 locs1 hz hq hP1 hS1 hce hcv hcl => ?_)
  · subst hk
    refine lv_goto (off := 19) (tgt := 28) hx hb (by decide +kernel) (by decide) ?_
    refine lv_iconst (n := 0) (v := 0) hx hb (by decide +kernel) (by decide) ?_
    exact W.iret hx hb hr (fun t ht hW => ⟨⟨rfl, by rw [ht]; exact hP1, ct_D_same hD⟩, hS1.F ht⟩) hS1.2.2 (by decide +kernel)
  · subst hk hM
    match i, hi, hcl with
    | 0, _, hcl =>
      refine vx_catch (own := "CraneTurnsLaw") (name := xI) (E := xI) hown [] ⟨0, 9, 12, 20⟩ [⟨0, 9, 16, 13⟩, ⟨0, 9, 20, 15⟩, ⟨0, 9, 24, 22⟩] htab ?_ (by decide) (by decide) (hg _ (ct_t2 (List.mem_of_getElem? (i := 93) rfl) rfl)) (va_Nw.use rfl (hcx.1 xI (by decide))) hce hcv hcl ?_
      · exact fun z hz => nomatch hz
      · refine lv_astore (i := 5) hx hb (by decide +kernel) hl9 (by decide) rfl (fun ls hl9 => ?_)
        refine lv_iconst (n := 1) (v := nI 1) hx hb (by decide +kernel) (by decide) ?_
        exact W.iret hx hb hr (fun t ht hW => ⟨⟨rfl, by rw [ht]; exact hP1, ct_D_same hD⟩, hS1.F ht⟩) hS1.2.2 (by decide +kernel)
    | 1, _, hcl =>
      refine vx_catch (own := "CraneTurnsLaw") (name := xS) (E := xS) hown [⟨0, 9, 12, 20⟩] ⟨0, 9, 16, 13⟩ [⟨0, 9, 20, 15⟩, ⟨0, 9, 24, 22⟩] htab ?_ (by decide) (by decide) (hg _ (ct_t1 (List.mem_of_getElem? (i := 224) rfl) rfl)) (va_Nw.use rfl (hcx.1 xS (by decide))) hce hcv hcl ?_
      · exact List.forall_mem_cons.mpr ⟨Or.inr ⟨by decide, xI, hg _ (ct_t2 (List.mem_of_getElem? (i := 93) rfl) rfl), hcx.2.2.1 xS (by decide) xI (by decide) (by decide)⟩, fun _ h => nomatch h⟩
      · refine lv_astore (i := 5) hx hb (by decide +kernel) hl9 (by decide) rfl (fun ls hl9 => ?_)
        refine lv_iconst (n := 2) (v := nI 2) hx hb (by decide +kernel) (by decide) ?_
        exact W.iret hx hb hr (fun t ht hW => ⟨⟨rfl, by rw [ht]; exact hP1, ct_D_same hD⟩, hS1.F ht⟩) hS1.2.2 (by decide +kernel)
    | 2, _, hcl =>
      refine vx_catch (own := "CraneTurnsLaw") (name := xA) (E := xA) hown [⟨0, 9, 12, 20⟩, ⟨0, 9, 16, 13⟩] ⟨0, 9, 20, 15⟩ [⟨0, 9, 24, 22⟩] htab ?_ (by decide) (by decide) (hg _ (ct_t1 (List.mem_of_getElem? (i := 225) rfl) rfl)) (va_Nw.use rfl (hcx.1 xA (by decide))) hce hcv hcl ?_
      · exact List.forall_mem_cons.mpr ⟨Or.inr ⟨by decide, xI, hg _ (ct_t2 (List.mem_of_getElem? (i := 93) rfl) rfl), hcx.2.2.1 xA (by decide) xI (by decide) (by decide)⟩, List.forall_mem_cons.mpr ⟨Or.inr ⟨by decide, xS, hg _ (ct_t1 (List.mem_of_getElem? (i := 224) rfl) rfl), hcx.2.2.1 xA (by decide) xS (by decide) (by decide)⟩, fun _ h => nomatch h⟩⟩
      · refine lv_astore (i := 5) hx hb (by decide +kernel) hl9 (by decide) rfl (fun ls hl9 => ?_)
        refine lv_iconst (n := 3) (v := nI 3) hx hb (by decide +kernel) (by decide) ?_
        exact W.iret hx hb hr (fun t ht hW => ⟨⟨rfl, by rw [ht]; exact hP1, ct_D_same hD⟩, hS1.F ht⟩) hS1.2.2 (by decide +kernel)
    | 3, _, hcl =>
      refine vx_catch (own := "CraneTurnsLaw") (name := xU) (E := xU) hown [⟨0, 9, 12, 20⟩, ⟨0, 9, 16, 13⟩, ⟨0, 9, 20, 15⟩] ⟨0, 9, 24, 22⟩ [] htab ?_ (by decide) (by decide) (hg _ (ct_t2 (List.mem_of_getElem? (i := 94) rfl) rfl)) (va_Nw.use rfl (hcx.1 xU (by decide))) hce hcv hcl ?_
      · exact List.forall_mem_cons.mpr ⟨Or.inr ⟨by decide, xI, hg _ (ct_t2 (List.mem_of_getElem? (i := 93) rfl) rfl), hcx.2.2.1 xU (by decide) xI (by decide) (by decide)⟩, List.forall_mem_cons.mpr ⟨Or.inr ⟨by decide, xS, hg _ (ct_t1 (List.mem_of_getElem? (i := 224) rfl) rfl), hcx.2.2.1 xU (by decide) xS (by decide) (by decide)⟩, List.forall_mem_cons.mpr ⟨Or.inr ⟨by decide, xA, hg _ (ct_t1 (List.mem_of_getElem? (i := 225) rfl) rfl), hcx.2.2.1 xU (by decide) xA (by decide) (by decide)⟩, fun _ h => nomatch h⟩⟩⟩
      · refine lv_astore (i := 5) hx hb (by decide +kernel) hl9 (by decide) rfl (fun ls hl9 => ?_)
        refine lv_iconst (n := 4) (v := nI 4) hx hb (by decide +kernel) (by decide) ?_
        exact W.iret hx hb hr (fun t ht hW => ⟨⟨rfl, by rw [ht]; exact hP1, ct_D_same hD⟩, hS1.F ht⟩) hS1.2.2 (by decide +kernel)
    | i + 4, h, _ => exact absurd h (by simp)
abbrev wl_job : List Cond := Cond.codeWith (⟨"CraneTurnsLaw", "job", "(LCraneTurns;III[J)I"⟩ : MethodName) method_5_code 6 (some .int) [(0, 12, 15, 13), (0, 12, 19, 15), (0, 12, 23, 22)] :: ct_GW
set_option maxRecDepth 20000 in
set_option maxHeartbeats 2000000 in
theorem hp_job {M M' : mm_M} {k v1 v2 v3 : Int32} {r9 : Int32} {o9 : Nat} {f9 : Nat → Int64} (hPB : PB D ad cA l [xS, xA, xU] 75 M [.inr (4, 0), .inl v1, .inl v2, .inl v3] k (some r9) M') (sz : Nat) : Met l (⟨"CraneTurnsLaw", "job", "(LCraneTurns;III[J)I"⟩ : MethodName) wl_job hl_rm (mo_Pre D ad cA M [.inr (4, 0), .inl v1, .inl v2, .inl v3] o9 f9 sz) (mo_Post D ad cA k r9 M' o9 (va_A (ct_W ad cA M ++ [(o9, mo_E cA f9)]) sz)) 1 6 (va_A (ct_W ad cA M ++ [(o9, mo_E cA f9)]) sz) := by
  refine mh_ofW (cc := method_5_code) (maxL := 6) (ret := some .int) (hh := [(0, 12, 15, 13), (0, 12, 19, 15), (0, 12, 23, 22)]) (by decide +kernel) rfl ?_
  intro p e s m args below meth c s₁ B hml hv
  obtain ⟨rfl, hsz, hP, hPo, hK, hD0, hnw, hcx, hst⟩ := hv
  have hx := B.exec
  have hb := B.bytes
  have hr := B.returns
  have hts := atoms_spec (ws := wl_job) B.pre
  have hg := fun w hw => hts w (List.mem_cons_of_mem _ hw)
  have hown : s.vm.findClass "CraneTurnsLaw" = some m.cls := findClass_of_methodNamed B.named
  have hlocks := B.notSynchronized
  have htab := vx_table (x := ⟨"", "", ""⟩) B (hts _ List.mem_cons_self)
  subst hsz
  have hDD := hD0.self (sz := s.heap.size)
  have hD := mo_Dl hDD
  have hA : ∀ q : Nat, s.heap.size ≤ q → va_A (ct_W ad cA M ++ [(o9, mo_E cA f9)]) s.heap.size q := fun q h => Or.inr h
  have ho := mo_o (sz := s.heap.size) hP hPo hD0
  have hl9 := lv_entry ([.ref (ad 0), .int v1, .int v2, .int v3, .ref o9] : List Value) (n := 6) (Nat.le_of_ble_eq_true rfl)
  show W p l e _ s m _ below meth c s.heap [] 0 0 _ (entryFrame m ([.ref (ad 0), .int v1, .int v2, .int v3, .ref o9] : List Value).toArray 6)
  rw [lg_entry_eq]
  generalize (lg_sl ([.ref (ad 0), .int v1, .int v2, .int v3, .ref o9] : List Value) ++ List.replicate (6 - (lg_sl ([.ref (ad 0), .int v1, .int v2, .int v3, .ref o9] : List Value)).length) Slot.unset).toArray = ls at hl9 ⊢
  have hl9 : lv_has ls 6 [(0, .ref (ad 0)), (1, .int v1), (2, .int v2), (3, .int v3), (4, .ref o9)] := hl9
  refine lv_aload hx hb (by decide +kernel) (lv_at hl9 4 rfl) ?_
  refine lv_iconst (n := 0) (v := 0) hx hb (by decide +kernel) (by decide) ?_
  refine lv_aload_n (k := 0) hx hb (by decide +kernel) rfl (lv_at hl9 0 rfl) ?_
  refine lv_iload_n (k := 1) hx hb (by decide +kernel) rfl (lv_at hl9 1 rfl) ?_
  refine lv_iload_n (k := 2) hx hb (by decide +kernel) rfl (lv_at hl9 2 rfl) ?_
  refine lv_iload_n (k := 3) hx hb (by decide +kernel) rfl (lv_at hl9 3 rfl) ?_
  refine mh_call (own := "CraneTurnsLaw") (idx := 24) (n := 3) (As := [.inl v1, .inl v2, .inl v3]) (rest := [.int 0, .ref o9]) hPB hx hb hml hown hg hK hnw hcx hst hP hD va_S.rf hA hl9.1 rfl (ct_t2 (List.mem_of_getElem? (i := 157) rfl) rfl) (mm_4 (ct_t2 (List.mem_of_getElem? (i := 154) rfl) rfl) (ct_t2 (List.mem_of_getElem? (i := 155) rfl) rfl) (ct_t2 (List.mem_of_getElem? (i := 156) rfl) rfl) (ct_t1 (List.mem_of_getElem? (i := 1) rfl) rfl)) (by decide +kernel) ⟨Nat.le_of_ble_eq_true rfl, Nat.le_of_ble_eq_true rfl⟩ ⟨Nat.le_refl _, Nat.le_refl _⟩ (Nat.le_of_ble_eq_true rfl) (by decide +kernel) (fun hk H1 locs1 hz hq hP1 hS1 => ?_) (fun i hi hk hM ce q9 H1 locs1 hz hq hP1 hS1 hce hcv hcl => ?_)
  · subst hk
    have hPo1 := hPo.kept (mo_kept ho hq)
    refine lv_i2l (x := r9) hx hb (by decide +kernel) rfl ?_
    refine va_last (f := f9) (n := 1) (i := 0) hx hb hK (hP1.app hPo1) (mo_D hDD) hS1 53 4 (mo_at) rfl (vp_in_nI (n := 0) (N := 1) (by decide) (by decide)) (by decide +kernel) (fun H2 locs2 hP2 hD2 hS2 => ?_)
    have hP2 : va_P D ct_cl ((ct_W ad cA M' ++ [(o9, mo_E cA f9)]).set 53 (o9, mo_E cA (vp_updL f9 (Int32.toNatClampNeg 0) r9.toInt64))) H2 := hP2
    rw [mo_set] at hP2
    refine lv_goto (off := 15) (tgt := 27) hx hb (by decide +kernel) (by decide) ?_
    refine lv_iconst (n := 0) (v := 0) hx hb (by decide +kernel) (by decide) ?_
    exact W.iret hx hb hr (fun t ht hW => ⟨⟨rfl, by rw [ht]; exact mo_l hP2, _, by rw [ht]; exact mo_r hP2, fun _ => rfl⟩, hS2.F ht⟩) hS2.2.2 (by decide +kernel)
  · subst hk hM
    have hPo1 := hPo.kept (mo_kept ho hq)
    match i, hi, hcl with
    | 0, _, hcl =>
      refine vx_catch (own := "CraneTurnsLaw") (name := xS) (E := xS) hown [] ⟨0, 12, 15, 13⟩ [⟨0, 12, 19, 15⟩, ⟨0, 12, 23, 22⟩] htab ?_ (by decide) (by decide) (hg _ (ct_t1 (List.mem_of_getElem? (i := 224) rfl) rfl)) (va_Nw.use rfl (hcx.1 xS (by decide))) hce hcv hcl ?_
      · exact fun z hz => nomatch hz
      · refine lv_astore (i := 5) hx hb (by decide +kernel) hl9 (by decide) rfl (fun ls hl9 => ?_)
        refine lv_iconst (n := 1) (v := nI 1) hx hb (by decide +kernel) (by decide) ?_
        exact W.iret hx hb hr (fun t ht hW => ⟨⟨rfl, by rw [ht]; exact hP1, _, by rw [ht]; exact hPo1, fun z => absurd z (by decide)⟩, hS1.F ht⟩) hS1.2.2 (by decide +kernel)
    | 1, _, hcl =>
      refine vx_catch (own := "CraneTurnsLaw") (name := xA) (E := xA) hown [⟨0, 12, 15, 13⟩] ⟨0, 12, 19, 15⟩ [⟨0, 12, 23, 22⟩] htab ?_ (by decide) (by decide) (hg _ (ct_t1 (List.mem_of_getElem? (i := 225) rfl) rfl)) (va_Nw.use rfl (hcx.1 xA (by decide))) hce hcv hcl ?_
      · exact List.forall_mem_cons.mpr ⟨Or.inr ⟨by decide, xS, hg _ (ct_t1 (List.mem_of_getElem? (i := 224) rfl) rfl), hcx.2.2.1 xA (by decide) xS (by decide) (by decide)⟩, fun _ h => nomatch h⟩
      · refine lv_astore (i := 5) hx hb (by decide +kernel) hl9 (by decide) rfl (fun ls hl9 => ?_)
        refine lv_iconst (n := 2) (v := nI 2) hx hb (by decide +kernel) (by decide) ?_
        exact W.iret hx hb hr (fun t ht hW => ⟨⟨rfl, by rw [ht]; exact hP1, _, by rw [ht]; exact hPo1, fun z => absurd z (by decide)⟩, hS1.F ht⟩) hS1.2.2 (by decide +kernel)
    | 2, _, hcl =>
      refine vx_catch (own := "CraneTurnsLaw") (name := xU) (E := xU) hown [⟨0, 12, 15, 13⟩, ⟨0, 12, 19, 15⟩] ⟨0, 12, 23, 22⟩ [] htab ?_ (by decide) (by decide) (hg _ (ct_t2 (List.mem_of_getElem? (i := 94) rfl) rfl)) (va_Nw.use rfl (hcx.1 xU (by decide))) hce hcv hcl ?_
      · exact List.forall_mem_cons.mpr ⟨Or.inr ⟨by decide, xS, hg _ (ct_t1 (List.mem_of_getElem? (i := 224) rfl) rfl), hcx.2.2.1 xU (by decide) xS (by decide) (by decide)⟩, List.forall_mem_cons.mpr ⟨Or.inr ⟨by decide, xA, hg _ (ct_t1 (List.mem_of_getElem? (i := 225) rfl) rfl), hcx.2.2.1 xU (by decide) xA (by decide) (by decide)⟩, fun _ h => nomatch h⟩⟩
      · refine lv_astore (i := 5) hx hb (by decide +kernel) hl9 (by decide) rfl (fun ls hl9 => ?_)
        refine lv_iconst (n := 3) (v := nI 3) hx hb (by decide +kernel) (by decide) ?_
        exact W.iret hx hb hr (fun t ht hW => ⟨⟨rfl, by rw [ht]; exact hP1, _, by rw [ht]; exact hPo1, fun z => absurd z (by decide)⟩, hS1.F ht⟩) hS1.2.2 (by decide +kernel)
    | i + 3, h, _ => exact absurd h (by simp)
abbrev wl_give : List Cond := Cond.codeWith (⟨"CraneTurnsLaw", "give", "(LCraneTurns;II)I"⟩ : MethodName) method_6_code 4 (some .int) [(0, 6, 9, 20), (0, 6, 12, 13), (0, 6, 15, 22)] :: ct_GW
set_option maxRecDepth 20000 in
set_option maxHeartbeats 2000000 in
theorem hp_give {M M' : mm_M} {k v1 v2 : Int32} (hPB : PB D ad cA l [xI, xS, xU] 76 M [.inr (4, 0), .inl v1, .inl v2] k none M') (sz : Nat) : Met l (⟨"CraneTurnsLaw", "give", "(LCraneTurns;II)I"⟩ : MethodName) wl_give hl_rm (mx_Pre cu_XS ct_NW D ct_cl (ct_tys cA) ad cA ct_K ct_kd ct_N M [.inr (4, 0), .inl v1, .inl v2] sz) (mm_Post D ct_cl ad cA ct_K ct_kd ct_N (some k) M' (va_A (ct_W ad cA M) sz)) 1 6 (va_A (ct_W ad cA M) sz) := by
  refine mh_ofW (cc := method_6_code) (maxL := 4) (ret := some .int) (hh := [(0, 6, 9, 20), (0, 6, 12, 13), (0, 6, 15, 22)]) (by decide +kernel) rfl ?_
  intro p e s m args below meth c s₁ B hml hv
  obtain ⟨⟨rfl, hsz, hP, hK, hD0, hnw⟩, hcx, hst⟩ := hv
  have hx := B.exec
  have hb := B.bytes
  have hr := B.returns
  have hts := atoms_spec (ws := wl_give) B.pre
  have hg := fun w hw => hts w (List.mem_cons_of_mem _ hw)
  have hown : s.vm.findClass "CraneTurnsLaw" = some m.cls := findClass_of_methodNamed B.named
  have hlocks := B.notSynchronized
  have htab := vx_table (x := ⟨"", "", ""⟩) B (hts _ List.mem_cons_self)
  subst hsz
  have hD := hD0.self (sz := s.heap.size)
  have hA : ∀ q : Nat, s.heap.size ≤ q → va_A (ct_W ad cA M) s.heap.size q := fun q h => Or.inr h
  have hl9 := lv_entry ([.ref (ad 0), .int v1, .int v2] : List Value) (n := 4) (Nat.le_of_ble_eq_true rfl)
  show W p l e _ s m _ below meth c s.heap [] 0 0 _ (entryFrame m ([.ref (ad 0), .int v1, .int v2] : List Value).toArray 4)
  rw [lg_entry_eq]
  generalize (lg_sl ([.ref (ad 0), .int v1, .int v2] : List Value) ++ List.replicate (4 - (lg_sl ([.ref (ad 0), .int v1, .int v2] : List Value)).length) Slot.unset).toArray = ls at hl9 ⊢
  have hl9 : lv_has ls 4 [(0, .ref (ad 0)), (1, .int v1), (2, .int v2)] := hl9
  refine lv_aload_n (k := 0) hx hb (by decide +kernel) rfl (lv_at hl9 0 rfl) ?_
  refine lv_iload_n (k := 1) hx hb (by decide +kernel) rfl (lv_at hl9 1 rfl) ?_
  refine lv_iload_n (k := 2) hx hb (by decide +kernel) rfl (lv_at hl9 2 rfl) ?_
  refine mh_call (own := "CraneTurnsLaw") (idx := 28) (n := 2) (As := [.inl v1, .inl v2]) (rest := []) hPB hx hb hml hown hg hK hnw hcx hst hP hD va_S.rf hA hl9.1 rfl (ct_t2 (List.mem_of_getElem? (i := 175) rfl) rfl) (mm_4 (ct_t2 (List.mem_of_getElem? (i := 172) rfl) rfl) (ct_t2 (List.mem_of_getElem? (i := 173) rfl) rfl) (ct_t2 (List.mem_of_getElem? (i := 174) rfl) rfl) (ct_t1 (List.mem_of_getElem? (i := 1) rfl) rfl)) (by decide +kernel) ⟨Nat.le_of_ble_eq_true rfl, Nat.le_of_ble_eq_true rfl⟩ ⟨Nat.le_refl _, Nat.le_refl _⟩ (Nat.le_of_ble_eq_true rfl) (by decide +kernel) (fun hk H1 locs1 hz hq hP1 hS1 => ?_) (fun i hi hk hM ce q9 H1 locs1 hz hq hP1 hS1 hce hcv hcl => ?_)
  · subst hk
    refine lv_goto (off := 12) (tgt := 18) hx hb (by decide +kernel) (by decide) ?_
    refine lv_iconst (n := 0) (v := 0) hx hb (by decide +kernel) (by decide) ?_
    exact W.iret hx hb hr (fun t ht hW => ⟨⟨rfl, by rw [ht]; exact hP1, ct_D_same hD⟩, hS1.F ht⟩) hS1.2.2 (by decide +kernel)
  · subst hk hM
    match i, hi, hcl with
    | 0, _, hcl =>
      refine vx_catch (own := "CraneTurnsLaw") (name := xI) (E := xI) hown [] ⟨0, 6, 9, 20⟩ [⟨0, 6, 12, 13⟩, ⟨0, 6, 15, 22⟩] htab ?_ (by decide) (by decide) (hg _ (ct_t2 (List.mem_of_getElem? (i := 93) rfl) rfl)) (va_Nw.use rfl (hcx.1 xI (by decide))) hce hcv hcl ?_
      · exact fun z hz => nomatch hz
      · refine lv_astore_n (k := 3) hx hb (by decide +kernel) rfl hl9 (by decide) rfl (fun ls hl9 => ?_)
        refine lv_iconst (n := 1) (v := nI 1) hx hb (by decide +kernel) (by decide) ?_
        exact W.iret hx hb hr (fun t ht hW => ⟨⟨rfl, by rw [ht]; exact hP1, ct_D_same hD⟩, hS1.F ht⟩) hS1.2.2 (by decide +kernel)
    | 1, _, hcl =>
      refine vx_catch (own := "CraneTurnsLaw") (name := xS) (E := xS) hown [⟨0, 6, 9, 20⟩] ⟨0, 6, 12, 13⟩ [⟨0, 6, 15, 22⟩] htab ?_ (by decide) (by decide) (hg _ (ct_t1 (List.mem_of_getElem? (i := 224) rfl) rfl)) (va_Nw.use rfl (hcx.1 xS (by decide))) hce hcv hcl ?_
      · exact List.forall_mem_cons.mpr ⟨Or.inr ⟨by decide, xI, hg _ (ct_t2 (List.mem_of_getElem? (i := 93) rfl) rfl), hcx.2.2.1 xS (by decide) xI (by decide) (by decide)⟩, fun _ h => nomatch h⟩
      · refine lv_astore_n (k := 3) hx hb (by decide +kernel) rfl hl9 (by decide) rfl (fun ls hl9 => ?_)
        refine lv_iconst (n := 2) (v := nI 2) hx hb (by decide +kernel) (by decide) ?_
        exact W.iret hx hb hr (fun t ht hW => ⟨⟨rfl, by rw [ht]; exact hP1, ct_D_same hD⟩, hS1.F ht⟩) hS1.2.2 (by decide +kernel)
    | 2, _, hcl =>
      refine vx_catch (own := "CraneTurnsLaw") (name := xU) (E := xU) hown [⟨0, 6, 9, 20⟩, ⟨0, 6, 12, 13⟩] ⟨0, 6, 15, 22⟩ [] htab ?_ (by decide) (by decide) (hg _ (ct_t2 (List.mem_of_getElem? (i := 94) rfl) rfl)) (va_Nw.use rfl (hcx.1 xU (by decide))) hce hcv hcl ?_
      · exact List.forall_mem_cons.mpr ⟨Or.inr ⟨by decide, xI, hg _ (ct_t2 (List.mem_of_getElem? (i := 93) rfl) rfl), hcx.2.2.1 xU (by decide) xI (by decide) (by decide)⟩, List.forall_mem_cons.mpr ⟨Or.inr ⟨by decide, xS, hg _ (ct_t1 (List.mem_of_getElem? (i := 224) rfl) rfl), hcx.2.2.1 xU (by decide) xS (by decide) (by decide)⟩, fun _ h => nomatch h⟩⟩
      · refine lv_astore_n (k := 3) hx hb (by decide +kernel) rfl hl9 (by decide) rfl (fun ls hl9 => ?_)
        refine lv_iconst (n := 3) (v := nI 3) hx hb (by decide +kernel) (by decide) ?_
        exact W.iret hx hb hr (fun t ht hW => ⟨⟨rfl, by rw [ht]; exact hP1, ct_D_same hD⟩, hS1.F ht⟩) hS1.2.2 (by decide +kernel)
    | i + 3, h, _ => exact absurd h (by simp)
abbrev wl_take : List Cond := Cond.codeWith (⟨"CraneTurnsLaw", "take", "(LCraneTurns;I)I"⟩ : MethodName) method_7_code 3 (some .int) [(0, 5, 8, 20), (0, 5, 11, 13)] :: ct_GW
set_option maxRecDepth 20000 in
set_option maxHeartbeats 2000000 in
theorem hp_take {M M' : mm_M} {k v1 : Int32} (hPB : PB D ad cA l [xI, xS] 77 M [.inr (4, 0), .inl v1] k none M') (sz : Nat) : Met l (⟨"CraneTurnsLaw", "take", "(LCraneTurns;I)I"⟩ : MethodName) wl_take hl_rm (mx_Pre cu_XS ct_NW D ct_cl (ct_tys cA) ad cA ct_K ct_kd ct_N M [.inr (4, 0), .inl v1] sz) (mm_Post D ct_cl ad cA ct_K ct_kd ct_N (some k) M' (va_A (ct_W ad cA M) sz)) 1 6 (va_A (ct_W ad cA M) sz) := by
  refine mh_ofW (cc := method_7_code) (maxL := 3) (ret := some .int) (hh := [(0, 5, 8, 20), (0, 5, 11, 13)]) (by decide +kernel) rfl ?_
  intro p e s m args below meth c s₁ B hml hv
  obtain ⟨⟨rfl, hsz, hP, hK, hD0, hnw⟩, hcx, hst⟩ := hv
  have hx := B.exec
  have hb := B.bytes
  have hr := B.returns
  have hts := atoms_spec (ws := wl_take) B.pre
  have hg := fun w hw => hts w (List.mem_cons_of_mem _ hw)
  have hown : s.vm.findClass "CraneTurnsLaw" = some m.cls := findClass_of_methodNamed B.named
  have hlocks := B.notSynchronized
  have htab := vx_table (x := ⟨"", "", ""⟩) B (hts _ List.mem_cons_self)
  subst hsz
  have hD := hD0.self (sz := s.heap.size)
  have hA : ∀ q : Nat, s.heap.size ≤ q → va_A (ct_W ad cA M) s.heap.size q := fun q h => Or.inr h
  have hl9 := lv_entry ([.ref (ad 0), .int v1] : List Value) (n := 3) (Nat.le_of_ble_eq_true rfl)
  show W p l e _ s m _ below meth c s.heap [] 0 0 _ (entryFrame m ([.ref (ad 0), .int v1] : List Value).toArray 3)
  rw [lg_entry_eq]
  generalize (lg_sl ([.ref (ad 0), .int v1] : List Value) ++ List.replicate (3 - (lg_sl ([.ref (ad 0), .int v1] : List Value)).length) Slot.unset).toArray = ls at hl9 ⊢
  have hl9 : lv_has ls 3 [(0, .ref (ad 0)), (1, .int v1)] := hl9
  refine lv_aload_n (k := 0) hx hb (by decide +kernel) rfl (lv_at hl9 0 rfl) ?_
  refine lv_iload_n (k := 1) hx hb (by decide +kernel) rfl (lv_at hl9 1 rfl) ?_
  refine mh_call (own := "CraneTurnsLaw") (idx := 32) (n := 1) (As := [.inl v1]) (rest := []) hPB hx hb hml hown hg hK hnw hcx hst hP hD va_S.rf hA hl9.1 rfl (ct_t2 (List.mem_of_getElem? (i := 202) rfl) rfl) (mm_4 (ct_t2 (List.mem_of_getElem? (i := 199) rfl) rfl) (ct_t2 (List.mem_of_getElem? (i := 200) rfl) rfl) (ct_t2 (List.mem_of_getElem? (i := 201) rfl) rfl) (ct_t1 (List.mem_of_getElem? (i := 1) rfl) rfl)) (by decide +kernel) ⟨Nat.le_of_ble_eq_true rfl, Nat.le_of_ble_eq_true rfl⟩ ⟨Nat.le_refl _, Nat.le_refl _⟩ (Nat.le_of_ble_eq_true rfl) (by decide +kernel) (fun hk H1 locs1 hz hq hP1 hS1 => ?_) (fun i hi hk hM ce q9 H1 locs1 hz hq hP1 hS1 hce hcv hcl => ?_)
  · subst hk
    refine lv_goto (off := 9) (tgt := 14) hx hb (by decide +kernel) (by decide) ?_
    refine lv_iconst (n := 0) (v := 0) hx hb (by decide +kernel) (by decide) ?_
    exact W.iret hx hb hr (fun t ht hW => ⟨⟨rfl, by rw [ht]; exact hP1, ct_D_same hD⟩, hS1.F ht⟩) hS1.2.2 (by decide +kernel)
  · subst hk hM
    match i, hi, hcl with
    | 0, _, hcl =>
      refine vx_catch (own := "CraneTurnsLaw") (name := xI) (E := xI) hown [] ⟨0, 5, 8, 20⟩ [⟨0, 5, 11, 13⟩] htab ?_ (by decide) (by decide) (hg _ (ct_t2 (List.mem_of_getElem? (i := 93) rfl) rfl)) (va_Nw.use rfl (hcx.1 xI (by decide))) hce hcv hcl ?_
      · exact fun z hz => nomatch hz
      · refine lv_astore_n (k := 2) hx hb (by decide +kernel) rfl hl9 (by decide) rfl (fun ls hl9 => ?_)
        refine lv_iconst (n := 1) (v := nI 1) hx hb (by decide +kernel) (by decide) ?_
        exact W.iret hx hb hr (fun t ht hW => ⟨⟨rfl, by rw [ht]; exact hP1, ct_D_same hD⟩, hS1.F ht⟩) hS1.2.2 (by decide +kernel)
    | 1, _, hcl =>
      refine vx_catch (own := "CraneTurnsLaw") (name := xS) (E := xS) hown [⟨0, 5, 8, 20⟩] ⟨0, 5, 11, 13⟩ [] htab ?_ (by decide) (by decide) (hg _ (ct_t1 (List.mem_of_getElem? (i := 224) rfl) rfl)) (va_Nw.use rfl (hcx.1 xS (by decide))) hce hcv hcl ?_
      · exact List.forall_mem_cons.mpr ⟨Or.inr ⟨by decide, xI, hg _ (ct_t2 (List.mem_of_getElem? (i := 93) rfl) rfl), hcx.2.2.1 xS (by decide) xI (by decide) (by decide)⟩, fun _ h => nomatch h⟩
      · refine lv_astore_n (k := 2) hx hb (by decide +kernel) rfl hl9 (by decide) rfl (fun ls hl9 => ?_)
        refine lv_iconst (n := 2) (v := nI 2) hx hb (by decide +kernel) (by decide) ?_
        exact W.iret hx hb hr (fun t ht hW => ⟨⟨rfl, by rw [ht]; exact hP1, ct_D_same hD⟩, hS1.F ht⟩) hS1.2.2 (by decide +kernel)
    | i + 2, h, _ => exact absurd h (by simp)
abbrev wl_broken : List Cond := Cond.codeWith (⟨"CraneTurnsLaw", "broken", "(LCraneTurns;IZ)I"⟩ : MethodName) method_8_code 4 (some .int) [(0, 6, 9, 20), (0, 6, 12, 13)] :: ct_GW
set_option maxRecDepth 20000 in
set_option maxHeartbeats 2000000 in
theorem hp_broken {M M' : mm_M} {k v1 v2 : Int32} (hPB : PB D ad cA l [xI, xS] 78 M [.inr (4, 0), .inl v1, .inl v2] k none M') (sz : Nat) : Met l (⟨"CraneTurnsLaw", "broken", "(LCraneTurns;IZ)I"⟩ : MethodName) wl_broken hl_rm (mx_Pre cu_XS ct_NW D ct_cl (ct_tys cA) ad cA ct_K ct_kd ct_N M [.inr (4, 0), .inl v1, .inl v2] sz) (mm_Post D ct_cl ad cA ct_K ct_kd ct_N (some k) M' (va_A (ct_W ad cA M) sz)) 1 6 (va_A (ct_W ad cA M) sz) := by
  refine mh_ofW (cc := method_8_code) (maxL := 4) (ret := some .int) (hh := [(0, 6, 9, 20), (0, 6, 12, 13)]) (by decide +kernel) rfl ?_
  intro p e s m args below meth c s₁ B hml hv
  obtain ⟨⟨rfl, hsz, hP, hK, hD0, hnw⟩, hcx, hst⟩ := hv
  have hx := B.exec
  have hb := B.bytes
  have hr := B.returns
  have hts := atoms_spec (ws := wl_broken) B.pre
  have hg := fun w hw => hts w (List.mem_cons_of_mem _ hw)
  have hown : s.vm.findClass "CraneTurnsLaw" = some m.cls := findClass_of_methodNamed B.named
  have hlocks := B.notSynchronized
  have htab := vx_table (x := ⟨"", "", ""⟩) B (hts _ List.mem_cons_self)
  subst hsz
  have hD := hD0.self (sz := s.heap.size)
  have hA : ∀ q : Nat, s.heap.size ≤ q → va_A (ct_W ad cA M) s.heap.size q := fun q h => Or.inr h
  have hl9 := lv_entry ([.ref (ad 0), .int v1, .int v2] : List Value) (n := 4) (Nat.le_of_ble_eq_true rfl)
  show W p l e _ s m _ below meth c s.heap [] 0 0 _ (entryFrame m ([.ref (ad 0), .int v1, .int v2] : List Value).toArray 4)
  rw [lg_entry_eq]
  generalize (lg_sl ([.ref (ad 0), .int v1, .int v2] : List Value) ++ List.replicate (4 - (lg_sl ([.ref (ad 0), .int v1, .int v2] : List Value)).length) Slot.unset).toArray = ls at hl9 ⊢
  have hl9 : lv_has ls 4 [(0, .ref (ad 0)), (1, .int v1), (2, .int v2)] := hl9
  refine lv_aload_n (k := 0) hx hb (by decide +kernel) rfl (lv_at hl9 0 rfl) ?_
  refine lv_iload_n (k := 1) hx hb (by decide +kernel) rfl (lv_at hl9 1 rfl) ?_
  refine lv_iload_n (k := 2) hx hb (by decide +kernel) rfl (lv_at hl9 2 rfl) ?_
  refine mh_call (own := "CraneTurnsLaw") (idx := 36) (n := 2) (As := [.inl v1, .inl v2]) (rest := []) hPB hx hb hml hown hg hK hnw hcx hst hP hD va_S.rf hA hl9.1 rfl (ct_t2 (List.mem_of_getElem? (i := 218) rfl) rfl) (mm_4 (ct_t2 (List.mem_of_getElem? (i := 215) rfl) rfl) (ct_t2 (List.mem_of_getElem? (i := 216) rfl) rfl) (ct_t2 (List.mem_of_getElem? (i := 217) rfl) rfl) (ct_t1 (List.mem_of_getElem? (i := 1) rfl) rfl)) (by decide +kernel) ⟨Nat.le_of_ble_eq_true rfl, Nat.le_of_ble_eq_true rfl⟩ ⟨Nat.le_refl _, Nat.le_refl _⟩ (Nat.le_of_ble_eq_true rfl) (by decide +kernel) (fun hk H1 locs1 hz hq hP1 hS1 => ?_) (fun i hi hk hM ce q9 H1 locs1 hz hq hP1 hS1 hce hcv hcl => ?_)
  · subst hk
    refine lv_goto (off := 9) (tgt := 15) hx hb (by decide +kernel) (by decide) ?_
    refine lv_iconst (n := 0) (v := 0) hx hb (by decide +kernel) (by decide) ?_
    exact W.iret hx hb hr (fun t ht hW => ⟨⟨rfl, by rw [ht]; exact hP1, ct_D_same hD⟩, hS1.F ht⟩) hS1.2.2 (by decide +kernel)
  · subst hk hM
    match i, hi, hcl with
    | 0, _, hcl =>
      refine vx_catch (own := "CraneTurnsLaw") (name := xI) (E := xI) hown [] ⟨0, 6, 9, 20⟩ [⟨0, 6, 12, 13⟩] htab ?_ (by decide) (by decide) (hg _ (ct_t2 (List.mem_of_getElem? (i := 93) rfl) rfl)) (va_Nw.use rfl (hcx.1 xI (by decide))) hce hcv hcl ?_
      · exact fun z hz => nomatch hz
      · refine lv_astore_n (k := 3) hx hb (by decide +kernel) rfl hl9 (by decide) rfl (fun ls hl9 => ?_)
        refine lv_iconst (n := 1) (v := nI 1) hx hb (by decide +kernel) (by decide) ?_
        exact W.iret hx hb hr (fun t ht hW => ⟨⟨rfl, by rw [ht]; exact hP1, ct_D_same hD⟩, hS1.F ht⟩) hS1.2.2 (by decide +kernel)
    | 1, _, hcl =>
      refine vx_catch (own := "CraneTurnsLaw") (name := xS) (E := xS) hown [⟨0, 6, 9, 20⟩] ⟨0, 6, 12, 13⟩ [] htab ?_ (by decide) (by decide) (hg _ (ct_t1 (List.mem_of_getElem? (i := 224) rfl) rfl)) (va_Nw.use rfl (hcx.1 xS (by decide))) hce hcv hcl ?_
      · exact List.forall_mem_cons.mpr ⟨Or.inr ⟨by decide, xI, hg _ (ct_t2 (List.mem_of_getElem? (i := 93) rfl) rfl), hcx.2.2.1 xS (by decide) xI (by decide) (by decide)⟩, fun _ h => nomatch h⟩
      · refine lv_astore_n (k := 3) hx hb (by decide +kernel) rfl hl9 (by decide) rfl (fun ls hl9 => ?_)
        refine lv_iconst (n := 2) (v := nI 2) hx hb (by decide +kernel) (by decide) ?_
        exact W.iret hx hb hr (fun t ht hW => ⟨⟨rfl, by rw [ht]; exact hP1, ct_D_same hD⟩, hS1.F ht⟩) hS1.2.2 (by decide +kernel)
    | i + 2, h, _ => exact absurd h (by simp)
abbrev wl_run : List Cond := Cond.codeWith (⟨"CraneTurnsLaw", "run", "(LCraneTurns;I[J)I"⟩ : MethodName) method_9_code 4 (some .int) [(0, 9, 12, 13), (0, 9, 15, 15)] :: ct_GW
set_option maxRecDepth 20000 in
set_option maxHeartbeats 2000000 in
theorem hp_run {M M' : mm_M} {k v1 : Int32} {r9 : Int32} {o9 : Nat} {f9 : Nat → Int64} (hPB : PB D ad cA l [xS, xA] 79 M [.inr (4, 0), .inl v1] k (some r9) M') (sz : Nat) : Met l (⟨"CraneTurnsLaw", "run", "(LCraneTurns;I[J)I"⟩ : MethodName) wl_run hl_rm (mo_Pre D ad cA M [.inr (4, 0), .inl v1] o9 f9 sz) (mo_Post D ad cA k r9 M' o9 (va_A (ct_W ad cA M ++ [(o9, mo_E cA f9)]) sz)) 1 6 (va_A (ct_W ad cA M ++ [(o9, mo_E cA f9)]) sz) := by
  refine mh_ofW (cc := method_9_code) (maxL := 4) (ret := some .int) (hh := [(0, 9, 12, 13), (0, 9, 15, 15)]) (by decide +kernel) rfl ?_
  intro p e s m args below meth c s₁ B hml hv
  obtain ⟨rfl, hsz, hP, hPo, hK, hD0, hnw, hcx, hst⟩ := hv
  have hx := B.exec
  have hb := B.bytes
  have hr := B.returns
  have hts := atoms_spec (ws := wl_run) B.pre
  have hg := fun w hw => hts w (List.mem_cons_of_mem _ hw)
  have hown : s.vm.findClass "CraneTurnsLaw" = some m.cls := findClass_of_methodNamed B.named
  have hlocks := B.notSynchronized
  have htab := vx_table (x := ⟨"", "", ""⟩) B (hts _ List.mem_cons_self)
  subst hsz
  have hDD := hD0.self (sz := s.heap.size)
  have hD := mo_Dl hDD
  have hA : ∀ q : Nat, s.heap.size ≤ q → va_A (ct_W ad cA M ++ [(o9, mo_E cA f9)]) s.heap.size q := fun q h => Or.inr h
  have ho := mo_o (sz := s.heap.size) hP hPo hD0
  have hl9 := lv_entry ([.ref (ad 0), .int v1, .ref o9] : List Value) (n := 4) (Nat.le_of_ble_eq_true rfl)
  show W p l e _ s m _ below meth c s.heap [] 0 0 _ (entryFrame m ([.ref (ad 0), .int v1, .ref o9] : List Value).toArray 4)
  rw [lg_entry_eq]
  generalize (lg_sl ([.ref (ad 0), .int v1, .ref o9] : List Value) ++ List.replicate (4 - (lg_sl ([.ref (ad 0), .int v1, .ref o9] : List Value)).length) Slot.unset).toArray = ls at hl9 ⊢
  have hl9 : lv_has ls 4 [(0, .ref (ad 0)), (1, .int v1), (2, .ref o9)] := hl9
  refine lv_aload_n (k := 2) hx hb (by decide +kernel) rfl (lv_at hl9 2 rfl) ?_
  refine lv_iconst (n := 0) (v := 0) hx hb (by decide +kernel) (by decide) ?_
  refine lv_aload_n (k := 0) hx hb (by decide +kernel) rfl (lv_at hl9 0 rfl) ?_
  refine lv_iload_n (k := 1) hx hb (by decide +kernel) rfl (lv_at hl9 1 rfl) ?_
  refine mh_call (own := "CraneTurnsLaw") (idx := 40) (n := 1) (As := [.inl v1]) (rest := [.int 0, .ref o9]) hPB hx hb hml hown hg hK hnw hcx hst hP hD va_S.rf hA hl9.1 rfl (ct_t2 (List.mem_of_getElem? (i := 226) rfl) rfl) (mm_4 (ct_t2 (List.mem_of_getElem? (i := 223) rfl) rfl) (ct_t2 (List.mem_of_getElem? (i := 224) rfl) rfl) (ct_t2 (List.mem_of_getElem? (i := 225) rfl) rfl) (ct_t1 (List.mem_of_getElem? (i := 1) rfl) rfl)) (by decide +kernel) ⟨Nat.le_of_ble_eq_true rfl, Nat.le_of_ble_eq_true rfl⟩ ⟨Nat.le_refl _, Nat.le_refl _⟩ (Nat.le_of_ble_eq_true rfl) (by decide +kernel) (fun hk H1 locs1 hz hq hP1 hS1 => ?_) (fun i hi hk hM ce q9 H1 locs1 hz hq hP1 hS1 hce hcv hcl => ?_)
  · subst hk
    have hPo1 := hPo.kept (mo_kept ho hq)
    refine lv_i2l (x := r9) hx hb (by decide +kernel) rfl ?_
    refine va_last (f := f9) (n := 1) (i := 0) hx hb hK (hP1.app hPo1) (mo_D hDD) hS1 53 4 (mo_at) rfl (vp_in_nI (n := 0) (N := 1) (by decide) (by decide)) (by decide +kernel) (fun H2 locs2 hP2 hD2 hS2 => ?_)
    have hP2 : va_P D ct_cl ((ct_W ad cA M' ++ [(o9, mo_E cA f9)]).set 53 (o9, mo_E cA (vp_updL f9 (Int32.toNatClampNeg 0) r9.toInt64))) H2 := hP2
    rw [mo_set] at hP2
    refine lv_goto (off := 9) (tgt := 18) hx hb (by decide +kernel) (by decide) ?_
    refine lv_iconst (n := 0) (v := 0) hx hb (by decide +kernel) (by decide) ?_
    exact W.iret hx hb hr (fun t ht hW => ⟨⟨rfl, by rw [ht]; exact mo_l hP2, _, by rw [ht]; exact mo_r hP2, fun _ => rfl⟩, hS2.F ht⟩) hS2.2.2 (by decide +kernel)
  · subst hk hM
    have hPo1 := hPo.kept (mo_kept ho hq)
    match i, hi, hcl with
    | 0, _, hcl =>
      refine vx_catch (own := "CraneTurnsLaw") (name := xS) (E := xS) hown [] ⟨0, 9, 12, 13⟩ [⟨0, 9, 15, 15⟩] htab ?_ (by decide) (by decide) (hg _ (ct_t1 (List.mem_of_getElem? (i := 224) rfl) rfl)) (va_Nw.use rfl (hcx.1 xS (by decide))) hce hcv hcl ?_
      · exact fun z hz => nomatch hz
      · refine lv_astore_n (k := 3) hx hb (by decide +kernel) rfl hl9 (by decide) rfl (fun ls hl9 => ?_)
        refine lv_iconst (n := 1) (v := nI 1) hx hb (by decide +kernel) (by decide) ?_
        exact W.iret hx hb hr (fun t ht hW => ⟨⟨rfl, by rw [ht]; exact hP1, _, by rw [ht]; exact hPo1, fun z => absurd z (by decide)⟩, hS1.F ht⟩) hS1.2.2 (by decide +kernel)
    | 1, _, hcl =>
      refine vx_catch (own := "CraneTurnsLaw") (name := xA) (E := xA) hown [⟨0, 9, 12, 13⟩] ⟨0, 9, 15, 15⟩ [] htab ?_ (by decide) (by decide) (hg _ (ct_t1 (List.mem_of_getElem? (i := 225) rfl) rfl)) (va_Nw.use rfl (hcx.1 xA (by decide))) hce hcv hcl ?_
      · exact List.forall_mem_cons.mpr ⟨Or.inr ⟨by decide, xS, hg _ (ct_t1 (List.mem_of_getElem? (i := 224) rfl) rfl), hcx.2.2.1 xA (by decide) xS (by decide) (by decide)⟩, fun _ h => nomatch h⟩
      · refine lv_astore_n (k := 3) hx hb (by decide +kernel) rfl hl9 (by decide) rfl (fun ls hl9 => ?_)
        refine lv_iconst (n := 2) (v := nI 2) hx hb (by decide +kernel) (by decide) ?_
        exact W.iret hx hb hr (fun t ht hW => ⟨⟨rfl, by rw [ht]; exact hP1, _, by rw [ht]; exact hPo1, fun z => absurd z (by decide)⟩, hS1.F ht⟩) hS1.2.2 (by decide +kernel)
    | i + 2, h, _ => exact absurd h (by simp)
abbrev wl_at : List Cond := Cond.codeWith (⟨"CraneTurnsLaw", "at", "(LCraneTurns;II[J)I"⟩ : MethodName) method_10_code 5 (some .int) [(0, 10, 13, 20)] :: ct_GW
set_option maxRecDepth 20000 in
set_option maxHeartbeats 2000000 in
theorem hp_at {M M' : mm_M} {k v1 v2 : Int32} {r9 : Int32} {o9 : Nat} {f9 : Nat → Int64} (hPB : PB D ad cA l [xI] 80 M [.inr (4, 0), .inl v1, .inl v2] k (some r9) M') (sz : Nat) : Met l (⟨"CraneTurnsLaw", "at", "(LCraneTurns;II[J)I"⟩ : MethodName) wl_at hl_rm (mo_Pre D ad cA M [.inr (4, 0), .inl v1, .inl v2] o9 f9 sz) (mo_Post D ad cA k r9 M' o9 (va_A (ct_W ad cA M ++ [(o9, mo_E cA f9)]) sz)) 1 6 (va_A (ct_W ad cA M ++ [(o9, mo_E cA f9)]) sz) := by
  refine mh_ofW (cc := method_10_code) (maxL := 5) (ret := some .int) (hh := [(0, 10, 13, 20)]) (by decide +kernel) rfl ?_
  intro p e s m args below meth c s₁ B hml hv
  obtain ⟨rfl, hsz, hP, hPo, hK, hD0, hnw, hcx, hst⟩ := hv
  have hx := B.exec
  have hb := B.bytes
  have hr := B.returns
  have hts := atoms_spec (ws := wl_at) B.pre
  have hg := fun w hw => hts w (List.mem_cons_of_mem _ hw)
  have hown : s.vm.findClass "CraneTurnsLaw" = some m.cls := findClass_of_methodNamed B.named
  have hlocks := B.notSynchronized
  have htab := vx_table (x := ⟨"", "", ""⟩) B (hts _ List.mem_cons_self)
  subst hsz
  have hDD := hD0.self (sz := s.heap.size)
  have hD := mo_Dl hDD
  have hA : ∀ q : Nat, s.heap.size ≤ q → va_A (ct_W ad cA M ++ [(o9, mo_E cA f9)]) s.heap.size q := fun q h => Or.inr h
  have ho := mo_o (sz := s.heap.size) hP hPo hD0
  have hl9 := lv_entry ([.ref (ad 0), .int v1, .int v2, .ref o9] : List Value) (n := 5) (Nat.le_of_ble_eq_true rfl)
  show W p l e _ s m _ below meth c s.heap [] 0 0 _ (entryFrame m ([.ref (ad 0), .int v1, .int v2, .ref o9] : List Value).toArray 5)
  rw [lg_entry_eq]
  generalize (lg_sl ([.ref (ad 0), .int v1, .int v2, .ref o9] : List Value) ++ List.replicate (5 - (lg_sl ([.ref (ad 0), .int v1, .int v2, .ref o9] : List Value)).length) Slot.unset).toArray = ls at hl9 ⊢
  have hl9 : lv_has ls 5 [(0, .ref (ad 0)), (1, .int v1), (2, .int v2), (3, .ref o9)] := hl9
  refine lv_aload_n (k := 3) hx hb (by decide +kernel) rfl (lv_at hl9 3 rfl) ?_
  refine lv_iconst (n := 0) (v := 0) hx hb (by decide +kernel) (by decide) ?_
  refine lv_aload_n (k := 0) hx hb (by decide +kernel) rfl (lv_at hl9 0 rfl) ?_
  refine lv_iload_n (k := 1) hx hb (by decide +kernel) rfl (lv_at hl9 1 rfl) ?_
  refine lv_iload_n (k := 2) hx hb (by decide +kernel) rfl (lv_at hl9 2 rfl) ?_
  refine mh_call (own := "CraneTurnsLaw") (idx := 44) (n := 2) (As := [.inl v1, .inl v2]) (rest := [.int 0, .ref o9]) hPB hx hb hml hown hg hK hnw hcx hst hP hD va_S.rf hA hl9.1 rfl (ct_t3 (List.mem_of_getElem? (i := 37) rfl) rfl) (mm_4 (ct_t3 (List.mem_of_getElem? (i := 34) rfl) rfl) (ct_t3 (List.mem_of_getElem? (i := 35) rfl) rfl) (ct_t3 (List.mem_of_getElem? (i := 36) rfl) rfl) (ct_t1 (List.mem_of_getElem? (i := 1) rfl) rfl)) (by decide +kernel) ⟨Nat.le_of_ble_eq_true rfl, Nat.le_of_ble_eq_true rfl⟩ ⟨Nat.le_refl _, Nat.le_refl _⟩ (Nat.le_of_ble_eq_true rfl) (by decide +kernel) (fun hk H1 locs1 hz hq hP1 hS1 => ?_) (fun i hi hk hM ce q9 H1 locs1 hz hq hP1 hS1 hce hcv hcl => ?_)
  · subst hk
    have hPo1 := hPo.kept (mo_kept ho hq)
    refine lv_i2l (x := r9) hx hb (by decide +kernel) rfl ?_
    refine va_last (f := f9) (n := 1) (i := 0) hx hb hK (hP1.app hPo1) (mo_D hDD) hS1 53 4 (mo_at) rfl (vp_in_nI (n := 0) (N := 1) (by decide) (by decide)) (by decide +kernel) (fun H2 locs2 hP2 hD2 hS2 => ?_)
    have hP2 : va_P D ct_cl ((ct_W ad cA M' ++ [(o9, mo_E cA f9)]).set 53 (o9, mo_E cA (vp_updL f9 (Int32.toNatClampNeg 0) r9.toInt64))) H2 := hP2
    rw [mo_set] at hP2
    refine lv_goto (off := 7) (tgt := 17) hx hb (by decide +kernel) (by decide) ?_
    refine lv_iconst (n := 0) (v := 0) hx hb (by decide +kernel) (by decide) ?_
    exact W.iret hx hb hr (fun t ht hW => ⟨⟨rfl, by rw [ht]; exact mo_l hP2, _, by rw [ht]; exact mo_r hP2, fun _ => rfl⟩, hS2.F ht⟩) hS2.2.2 (by decide +kernel)
  · subst hk hM
    have hPo1 := hPo.kept (mo_kept ho hq)
    match i, hi, hcl with
    | 0, _, hcl =>
      refine vx_catch (own := "CraneTurnsLaw") (name := xI) (E := xI) hown [] ⟨0, 10, 13, 20⟩ [] htab ?_ (by decide) (by decide) (hg _ (ct_t2 (List.mem_of_getElem? (i := 93) rfl) rfl)) (va_Nw.use rfl (hcx.1 xI (by decide))) hce hcv hcl ?_
      · exact fun z hz => nomatch hz
      · refine lv_astore (i := 4) hx hb (by decide +kernel) hl9 (by decide) rfl (fun ls hl9 => ?_)
        refine lv_iconst (n := 1) (v := nI 1) hx hb (by decide +kernel) (by decide) ?_
        exact W.iret hx hb hr (fun t ht hW => ⟨⟨rfl, by rw [ht]; exact hP1, _, by rw [ht]; exact hPo1, fun z => absurd z (by decide)⟩, hS1.F ht⟩) hS1.2.2 (by decide +kernel)
    | i + 1, h, _ => exact absurd h (by simp)
abbrev wl_state : List Cond := Cond.codeWith (⟨"CraneTurnsLaw", "state", "(LCraneTurns;II[J)I"⟩ : MethodName) method_11_code 5 (some .int) [(0, 10, 13, 20)] :: ct_GW
set_option maxRecDepth 20000 in
set_option maxHeartbeats 2000000 in
theorem hp_state {M M' : mm_M} {k v1 v2 : Int32} {r9 : Int32} {o9 : Nat} {f9 : Nat → Int64} (hPB : PB D ad cA l [xI] 81 M [.inr (4, 0), .inl v1, .inl v2] k (some r9) M') (sz : Nat) : Met l (⟨"CraneTurnsLaw", "state", "(LCraneTurns;II[J)I"⟩ : MethodName) wl_state hl_rm (mo_Pre D ad cA M [.inr (4, 0), .inl v1, .inl v2] o9 f9 sz) (mo_Post D ad cA k r9 M' o9 (va_A (ct_W ad cA M ++ [(o9, mo_E cA f9)]) sz)) 1 6 (va_A (ct_W ad cA M ++ [(o9, mo_E cA f9)]) sz) := by
  refine mh_ofW (cc := method_11_code) (maxL := 5) (ret := some .int) (hh := [(0, 10, 13, 20)]) (by decide +kernel) rfl ?_
  intro p e s m args below meth c s₁ B hml hv
  obtain ⟨rfl, hsz, hP, hPo, hK, hD0, hnw, hcx, hst⟩ := hv
  have hx := B.exec
  have hb := B.bytes
  have hr := B.returns
  have hts := atoms_spec (ws := wl_state) B.pre
  have hg := fun w hw => hts w (List.mem_cons_of_mem _ hw)
  have hown : s.vm.findClass "CraneTurnsLaw" = some m.cls := findClass_of_methodNamed B.named
  have hlocks := B.notSynchronized
  have htab := vx_table (x := ⟨"", "", ""⟩) B (hts _ List.mem_cons_self)
  subst hsz
  have hDD := hD0.self (sz := s.heap.size)
  have hD := mo_Dl hDD
  have hA : ∀ q : Nat, s.heap.size ≤ q → va_A (ct_W ad cA M ++ [(o9, mo_E cA f9)]) s.heap.size q := fun q h => Or.inr h
  have ho := mo_o (sz := s.heap.size) hP hPo hD0
  have hl9 := lv_entry ([.ref (ad 0), .int v1, .int v2, .ref o9] : List Value) (n := 5) (Nat.le_of_ble_eq_true rfl)
  show W p l e _ s m _ below meth c s.heap [] 0 0 _ (entryFrame m ([.ref (ad 0), .int v1, .int v2, .ref o9] : List Value).toArray 5)
  rw [lg_entry_eq]
  generalize (lg_sl ([.ref (ad 0), .int v1, .int v2, .ref o9] : List Value) ++ List.replicate (5 - (lg_sl ([.ref (ad 0), .int v1, .int v2, .ref o9] : List Value)).length) Slot.unset).toArray = ls at hl9 ⊢
  have hl9 : lv_has ls 5 [(0, .ref (ad 0)), (1, .int v1), (2, .int v2), (3, .ref o9)] := hl9
  refine lv_aload_n (k := 3) hx hb (by decide +kernel) rfl (lv_at hl9 3 rfl) ?_
  refine lv_iconst (n := 0) (v := 0) hx hb (by decide +kernel) (by decide) ?_
  refine lv_aload_n (k := 0) hx hb (by decide +kernel) rfl (lv_at hl9 0 rfl) ?_
  refine lv_iload_n (k := 1) hx hb (by decide +kernel) rfl (lv_at hl9 1 rfl) ?_
  refine lv_iload_n (k := 2) hx hb (by decide +kernel) rfl (lv_at hl9 2 rfl) ?_
  refine mh_call (own := "CraneTurnsLaw") (idx := 48) (n := 2) (As := [.inl v1, .inl v2]) (rest := [.int 0, .ref o9]) hPB hx hb hml hown hg hK hnw hcx hst hP hD va_S.rf hA hl9.1 rfl (ct_t3 (List.mem_of_getElem? (i := 45) rfl) rfl) (mm_4 (ct_t3 (List.mem_of_getElem? (i := 42) rfl) rfl) (ct_t3 (List.mem_of_getElem? (i := 43) rfl) rfl) (ct_t3 (List.mem_of_getElem? (i := 44) rfl) rfl) (ct_t1 (List.mem_of_getElem? (i := 1) rfl) rfl)) (by decide +kernel) ⟨Nat.le_of_ble_eq_true rfl, Nat.le_of_ble_eq_true rfl⟩ ⟨Nat.le_refl _, Nat.le_refl _⟩ (Nat.le_of_ble_eq_true rfl) (by decide +kernel) (fun hk H1 locs1 hz hq hP1 hS1 => ?_) (fun i hi hk hM ce q9 H1 locs1 hz hq hP1 hS1 hce hcv hcl => ?_)
  · subst hk
    have hPo1 := hPo.kept (mo_kept ho hq)
    refine lv_i2l (x := r9) hx hb (by decide +kernel) rfl ?_
    refine va_last (f := f9) (n := 1) (i := 0) hx hb hK (hP1.app hPo1) (mo_D hDD) hS1 53 4 (mo_at) rfl (vp_in_nI (n := 0) (N := 1) (by decide) (by decide)) (by decide +kernel) (fun H2 locs2 hP2 hD2 hS2 => ?_)
    have hP2 : va_P D ct_cl ((ct_W ad cA M' ++ [(o9, mo_E cA f9)]).set 53 (o9, mo_E cA (vp_updL f9 (Int32.toNatClampNeg 0) r9.toInt64))) H2 := hP2
    rw [mo_set] at hP2
    refine lv_goto (off := 7) (tgt := 17) hx hb (by decide +kernel) (by decide) ?_
    refine lv_iconst (n := 0) (v := 0) hx hb (by decide +kernel) (by decide) ?_
    exact W.iret hx hb hr (fun t ht hW => ⟨⟨rfl, by rw [ht]; exact mo_l hP2, _, by rw [ht]; exact mo_r hP2, fun _ => rfl⟩, hS2.F ht⟩) hS2.2.2 (by decide +kernel)
  · subst hk hM
    have hPo1 := hPo.kept (mo_kept ho hq)
    match i, hi, hcl with
    | 0, _, hcl =>
      refine vx_catch (own := "CraneTurnsLaw") (name := xI) (E := xI) hown [] ⟨0, 10, 13, 20⟩ [] htab ?_ (by decide) (by decide) (hg _ (ct_t2 (List.mem_of_getElem? (i := 93) rfl) rfl)) (va_Nw.use rfl (hcx.1 xI (by decide))) hce hcv hcl ?_
      · exact fun z hz => nomatch hz
      · refine lv_astore (i := 4) hx hb (by decide +kernel) hl9 (by decide) rfl (fun ls hl9 => ?_)
        refine lv_iconst (n := 1) (v := nI 1) hx hb (by decide +kernel) (by decide) ?_
        exact W.iret hx hb hr (fun t ht hW => ⟨⟨rfl, by rw [ht]; exact hP1, _, by rw [ht]; exact hPo1, fun z => absurd z (by decide)⟩, hS1.F ht⟩) hS1.2.2 (by decide +kernel)
    | i + 1, h, _ => exact absurd h (by simp)
abbrev wl_plan : List Cond := Cond.codeWith (⟨"CraneTurnsLaw", "plan", "(LCraneTurns;I[J)I"⟩ : MethodName) method_12_code 4 (some .int) [(0, 9, 12, 13), (0, 9, 15, 15), (0, 9, 18, 22)] :: ct_GW
set_option maxRecDepth 20000 in
set_option maxHeartbeats 2000000 in
theorem hp_plan {M M' : mm_M} {k v1 : Int32} {r9 : Int32} {o9 : Nat} {f9 : Nat → Int64} (hPB : PB D ad cA l [xS, xA, xU] 82 M [.inr (4, 0), .inl v1] k (some r9) M') (sz : Nat) : Met l (⟨"CraneTurnsLaw", "plan", "(LCraneTurns;I[J)I"⟩ : MethodName) wl_plan hl_rm (mo_Pre D ad cA M [.inr (4, 0), .inl v1] o9 f9 sz) (mo_Post D ad cA k r9 M' o9 (va_A (ct_W ad cA M ++ [(o9, mo_E cA f9)]) sz)) 1 6 (va_A (ct_W ad cA M ++ [(o9, mo_E cA f9)]) sz) := by
  refine mh_ofW (cc := method_12_code) (maxL := 4) (ret := some .int) (hh := [(0, 9, 12, 13), (0, 9, 15, 15), (0, 9, 18, 22)]) (by decide +kernel) rfl ?_
  intro p e s m args below meth c s₁ B hml hv
  obtain ⟨rfl, hsz, hP, hPo, hK, hD0, hnw, hcx, hst⟩ := hv
  have hx := B.exec
  have hb := B.bytes
  have hr := B.returns
  have hts := atoms_spec (ws := wl_plan) B.pre
  have hg := fun w hw => hts w (List.mem_cons_of_mem _ hw)
  have hown : s.vm.findClass "CraneTurnsLaw" = some m.cls := findClass_of_methodNamed B.named
  have hlocks := B.notSynchronized
  have htab := vx_table (x := ⟨"", "", ""⟩) B (hts _ List.mem_cons_self)
  subst hsz
  have hDD := hD0.self (sz := s.heap.size)
  have hD := mo_Dl hDD
  have hA : ∀ q : Nat, s.heap.size ≤ q → va_A (ct_W ad cA M ++ [(o9, mo_E cA f9)]) s.heap.size q := fun q h => Or.inr h
  have ho := mo_o (sz := s.heap.size) hP hPo hD0
  have hl9 := lv_entry ([.ref (ad 0), .int v1, .ref o9] : List Value) (n := 4) (Nat.le_of_ble_eq_true rfl)
  show W p l e _ s m _ below meth c s.heap [] 0 0 _ (entryFrame m ([.ref (ad 0), .int v1, .ref o9] : List Value).toArray 4)
  rw [lg_entry_eq]
  generalize (lg_sl ([.ref (ad 0), .int v1, .ref o9] : List Value) ++ List.replicate (4 - (lg_sl ([.ref (ad 0), .int v1, .ref o9] : List Value)).length) Slot.unset).toArray = ls at hl9 ⊢
  have hl9 : lv_has ls 4 [(0, .ref (ad 0)), (1, .int v1), (2, .ref o9)] := hl9
  refine lv_aload_n (k := 2) hx hb (by decide +kernel) rfl (lv_at hl9 2 rfl) ?_
  refine lv_iconst (n := 0) (v := 0) hx hb (by decide +kernel) (by decide) ?_
  refine lv_aload_n (k := 0) hx hb (by decide +kernel) rfl (lv_at hl9 0 rfl) ?_
  refine lv_iload_n (k := 1) hx hb (by decide +kernel) rfl (lv_at hl9 1 rfl) ?_
  refine mh_call (own := "CraneTurnsLaw") (idx := 51) (n := 1) (As := [.inl v1]) (rest := [.int 0, .ref o9]) hPB hx hb hml hown hg hK hnw hcx hst hP hD va_S.rf hA hl9.1 rfl (ct_t3 (List.mem_of_getElem? (i := 53) rfl) rfl) (mm_4 (ct_t3 (List.mem_of_getElem? (i := 50) rfl) rfl) (ct_t3 (List.mem_of_getElem? (i := 51) rfl) rfl) (ct_t3 (List.mem_of_getElem? (i := 52) rfl) rfl) (ct_t1 (List.mem_of_getElem? (i := 1) rfl) rfl)) (by decide +kernel) ⟨Nat.le_of_ble_eq_true rfl, Nat.le_of_ble_eq_true rfl⟩ ⟨Nat.le_refl _, Nat.le_refl _⟩ (Nat.le_of_ble_eq_true rfl) (by decide +kernel) (fun hk H1 locs1 hz hq hP1 hS1 => ?_) (fun i hi hk hM ce q9 H1 locs1 hz hq hP1 hS1 hce hcv hcl => ?_)
  · subst hk
    have hPo1 := hPo.kept (mo_kept ho hq)
    refine lv_i2l (x := r9) hx hb (by decide +kernel) rfl ?_
    refine va_last (f := f9) (n := 1) (i := 0) hx hb hK (hP1.app hPo1) (mo_D hDD) hS1 53 4 (mo_at) rfl (vp_in_nI (n := 0) (N := 1) (by decide) (by decide)) (by decide +kernel) (fun H2 locs2 hP2 hD2 hS2 => ?_)
    have hP2 : va_P D ct_cl ((ct_W ad cA M' ++ [(o9, mo_E cA f9)]).set 53 (o9, mo_E cA (vp_updL f9 (Int32.toNatClampNeg 0) r9.toInt64))) H2 := hP2
    rw [mo_set] at hP2
    refine lv_goto (off := 12) (tgt := 21) hx hb (by decide +kernel) (by decide) ?_
    refine lv_iconst (n := 0) (v := 0) hx hb (by decide +kernel) (by decide) ?_
    exact W.iret hx hb hr (fun t ht hW => ⟨⟨rfl, by rw [ht]; exact mo_l hP2, _, by rw [ht]; exact mo_r hP2, fun _ => rfl⟩, hS2.F ht⟩) hS2.2.2 (by decide +kernel)
  · subst hk hM
    have hPo1 := hPo.kept (mo_kept ho hq)
    match i, hi, hcl with
    | 0, _, hcl =>
      refine vx_catch (own := "CraneTurnsLaw") (name := xS) (E := xS) hown [] ⟨0, 9, 12, 13⟩ [⟨0, 9, 15, 15⟩, ⟨0, 9, 18, 22⟩] htab ?_ (by decide) (by decide) (hg _ (ct_t1 (List.mem_of_getElem? (i := 224) rfl) rfl)) (va_Nw.use rfl (hcx.1 xS (by decide))) hce hcv hcl ?_
      · exact fun z hz => nomatch hz
      · refine lv_astore_n (k := 3) hx hb (by decide +kernel) rfl hl9 (by decide) rfl (fun ls hl9 => ?_)
        refine lv_iconst (n := 1) (v := nI 1) hx hb (by decide +kernel) (by decide) ?_
        exact W.iret hx hb hr (fun t ht hW => ⟨⟨rfl, by rw [ht]; exact hP1, _, by rw [ht]; exact hPo1, fun z => absurd z (by decide)⟩, hS1.F ht⟩) hS1.2.2 (by decide +kernel)
    | 1, _, hcl =>
      refine vx_catch (own := "CraneTurnsLaw") (name := xA) (E := xA) hown [⟨0, 9, 12, 13⟩] ⟨0, 9, 15, 15⟩ [⟨0, 9, 18, 22⟩] htab ?_ (by decide) (by decide) (hg _ (ct_t1 (List.mem_of_getElem? (i := 225) rfl) rfl)) (va_Nw.use rfl (hcx.1 xA (by decide))) hce hcv hcl ?_
      · exact List.forall_mem_cons.mpr ⟨Or.inr ⟨by decide, xS, hg _ (ct_t1 (List.mem_of_getElem? (i := 224) rfl) rfl), hcx.2.2.1 xA (by decide) xS (by decide) (by decide)⟩, fun _ h => nomatch h⟩
      · refine lv_astore_n (k := 3) hx hb (by decide +kernel) rfl hl9 (by decide) rfl (fun ls hl9 => ?_)
        refine lv_iconst (n := 2) (v := nI 2) hx hb (by decide +kernel) (by decide) ?_
        exact W.iret hx hb hr (fun t ht hW => ⟨⟨rfl, by rw [ht]; exact hP1, _, by rw [ht]; exact hPo1, fun z => absurd z (by decide)⟩, hS1.F ht⟩) hS1.2.2 (by decide +kernel)
    | 2, _, hcl =>
      refine vx_catch (own := "CraneTurnsLaw") (name := xU) (E := xU) hown [⟨0, 9, 12, 13⟩, ⟨0, 9, 15, 15⟩] ⟨0, 9, 18, 22⟩ [] htab ?_ (by decide) (by decide) (hg _ (ct_t2 (List.mem_of_getElem? (i := 94) rfl) rfl)) (va_Nw.use rfl (hcx.1 xU (by decide))) hce hcv hcl ?_
      · exact List.forall_mem_cons.mpr ⟨Or.inr ⟨by decide, xS, hg _ (ct_t1 (List.mem_of_getElem? (i := 224) rfl) rfl), hcx.2.2.1 xU (by decide) xS (by decide) (by decide)⟩, List.forall_mem_cons.mpr ⟨Or.inr ⟨by decide, xA, hg _ (ct_t1 (List.mem_of_getElem? (i := 225) rfl) rfl), hcx.2.2.1 xU (by decide) xA (by decide) (by decide)⟩, fun _ h => nomatch h⟩⟩
      · refine lv_astore_n (k := 3) hx hb (by decide +kernel) rfl hl9 (by decide) rfl (fun ls hl9 => ?_)
        refine lv_iconst (n := 3) (v := nI 3) hx hb (by decide +kernel) (by decide) ?_
        exact W.iret hx hb hr (fun t ht hW => ⟨⟨rfl, by rw [ht]; exact hP1, _, by rw [ht]; exact hPo1, fun z => absurd z (by decide)⟩, hS1.F ht⟩) hS1.2.2 (by decide +kernel)
    | i + 3, h, _ => exact absurd h (by simp)
abbrev wl_planned : List Cond := Cond.codeWith (⟨"CraneTurnsLaw", "planned", "(LCraneTurns;I[J)I"⟩ : MethodName) method_13_code 4 (some .int) [(0, 9, 12, 20)] :: ct_GW
set_option maxRecDepth 20000 in
set_option maxHeartbeats 2000000 in
theorem hp_planned {M M' : mm_M} {k v1 : Int32} {r9 : Int32} {o9 : Nat} {f9 : Nat → Int64} (hPB : PB D ad cA l [xI] 83 M [.inr (4, 0), .inl v1] k (some r9) M') (sz : Nat) : Met l (⟨"CraneTurnsLaw", "planned", "(LCraneTurns;I[J)I"⟩ : MethodName) wl_planned hl_rm (mo_Pre D ad cA M [.inr (4, 0), .inl v1] o9 f9 sz) (mo_Post D ad cA k r9 M' o9 (va_A (ct_W ad cA M ++ [(o9, mo_E cA f9)]) sz)) 1 6 (va_A (ct_W ad cA M ++ [(o9, mo_E cA f9)]) sz) := by
  refine mh_ofW (cc := method_13_code) (maxL := 4) (ret := some .int) (hh := [(0, 9, 12, 20)]) (by decide +kernel) rfl ?_
  intro p e s m args below meth c s₁ B hml hv
  obtain ⟨rfl, hsz, hP, hPo, hK, hD0, hnw, hcx, hst⟩ := hv
  have hx := B.exec
  have hb := B.bytes
  have hr := B.returns
  have hts := atoms_spec (ws := wl_planned) B.pre
  have hg := fun w hw => hts w (List.mem_cons_of_mem _ hw)
  have hown : s.vm.findClass "CraneTurnsLaw" = some m.cls := findClass_of_methodNamed B.named
  have hlocks := B.notSynchronized
  have htab := vx_table (x := ⟨"", "", ""⟩) B (hts _ List.mem_cons_self)
  subst hsz
  have hDD := hD0.self (sz := s.heap.size)
  have hD := mo_Dl hDD
  have hA : ∀ q : Nat, s.heap.size ≤ q → va_A (ct_W ad cA M ++ [(o9, mo_E cA f9)]) s.heap.size q := fun q h => Or.inr h
  have ho := mo_o (sz := s.heap.size) hP hPo hD0
  have hl9 := lv_entry ([.ref (ad 0), .int v1, .ref o9] : List Value) (n := 4) (Nat.le_of_ble_eq_true rfl)
  show W p l e _ s m _ below meth c s.heap [] 0 0 _ (entryFrame m ([.ref (ad 0), .int v1, .ref o9] : List Value).toArray 4)
  rw [lg_entry_eq]
  generalize (lg_sl ([.ref (ad 0), .int v1, .ref o9] : List Value) ++ List.replicate (4 - (lg_sl ([.ref (ad 0), .int v1, .ref o9] : List Value)).length) Slot.unset).toArray = ls at hl9 ⊢
  have hl9 : lv_has ls 4 [(0, .ref (ad 0)), (1, .int v1), (2, .ref o9)] := hl9
  refine lv_aload_n (k := 2) hx hb (by decide +kernel) rfl (lv_at hl9 2 rfl) ?_
  refine lv_iconst (n := 0) (v := 0) hx hb (by decide +kernel) (by decide) ?_
  refine lv_aload_n (k := 0) hx hb (by decide +kernel) rfl (lv_at hl9 0 rfl) ?_
  refine lv_iload_n (k := 1) hx hb (by decide +kernel) rfl (lv_at hl9 1 rfl) ?_
  refine mh_call (own := "CraneTurnsLaw") (idx := 54) (n := 1) (As := [.inl v1]) (rest := [.int 0, .ref o9]) hPB hx hb hml hown hg hK hnw hcx hst hP hD va_S.rf hA hl9.1 rfl (ct_t3 (List.mem_of_getElem? (i := 106) rfl) rfl) (mm_4 (ct_t3 (List.mem_of_getElem? (i := 103) rfl) rfl) (ct_t3 (List.mem_of_getElem? (i := 104) rfl) rfl) (ct_t3 (List.mem_of_getElem? (i := 105) rfl) rfl) (ct_t1 (List.mem_of_getElem? (i := 1) rfl) rfl)) (by decide +kernel) ⟨Nat.le_of_ble_eq_true rfl, Nat.le_of_ble_eq_true rfl⟩ ⟨Nat.le_refl _, Nat.le_refl _⟩ (Nat.le_of_ble_eq_true rfl) (by decide +kernel) (fun hk H1 locs1 hz hq hP1 hS1 => ?_) (fun i hi hk hM ce q9 H1 locs1 hz hq hP1 hS1 hce hcv hcl => ?_)
  · subst hk
    have hPo1 := hPo.kept (mo_kept ho hq)
    refine lv_i2l (x := r9) hx hb (by decide +kernel) rfl ?_
    refine va_last (f := f9) (n := 1) (i := 0) hx hb hK (hP1.app hPo1) (mo_D hDD) hS1 53 4 (mo_at) rfl (vp_in_nI (n := 0) (N := 1) (by decide) (by decide)) (by decide +kernel) (fun H2 locs2 hP2 hD2 hS2 => ?_)
    have hP2 : va_P D ct_cl ((ct_W ad cA M' ++ [(o9, mo_E cA f9)]).set 53 (o9, mo_E cA (vp_updL f9 (Int32.toNatClampNeg 0) r9.toInt64))) H2 := hP2
    rw [mo_set] at hP2
    refine lv_goto (off := 6) (tgt := 15) hx hb (by decide +kernel) (by decide) ?_
    refine lv_iconst (n := 0) (v := 0) hx hb (by decide +kernel) (by decide) ?_
    exact W.iret hx hb hr (fun t ht hW => ⟨⟨rfl, by rw [ht]; exact mo_l hP2, _, by rw [ht]; exact mo_r hP2, fun _ => rfl⟩, hS2.F ht⟩) hS2.2.2 (by decide +kernel)
  · subst hk hM
    have hPo1 := hPo.kept (mo_kept ho hq)
    match i, hi, hcl with
    | 0, _, hcl =>
      refine vx_catch (own := "CraneTurnsLaw") (name := xI) (E := xI) hown [] ⟨0, 9, 12, 20⟩ [] htab ?_ (by decide) (by decide) (hg _ (ct_t2 (List.mem_of_getElem? (i := 93) rfl) rfl)) (va_Nw.use rfl (hcx.1 xI (by decide))) hce hcv hcl ?_
      · exact fun z hz => nomatch hz
      · refine lv_astore_n (k := 3) hx hb (by decide +kernel) rfl hl9 (by decide) rfl (fun ls hl9 => ?_)
        refine lv_iconst (n := 1) (v := nI 1) hx hb (by decide +kernel) (by decide) ?_
        exact W.iret hx hb hr (fun t ht hW => ⟨⟨rfl, by rw [ht]; exact hP1, _, by rw [ht]; exact hPo1, fun z => absurd z (by decide)⟩, hS1.F ht⟩) hS1.2.2 (by decide +kernel)
    | i + 1, h, _ => exact absurd h (by simp)
end
