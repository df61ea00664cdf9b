set_option maxRecDepth 100000 in
set_option maxHeartbeats 4000000 in
theorem whole_start {p : Program} {e : Env} {s : State} {m : MethodId} {below : List Frame} {meth : Method} {c : Code} (l : Launch) (hlt : l.stackTraces = false) {b L : Nat} {xs : Nat → Int32} (hL : L ≤ 2560) (C0 : lw_At p s m meth c b L xs) : W p l e room_1 s m #[Value.ref b] below meth c s.heap [] 0 0 (lw_Z below #[Value.ref b] s) (entryFrame m ([Value.ref b] : List Value).toArray 7) := by
  obtain ⟨hx, hb, hr, hml, hown, hts, hX, hbl, hlocks, hgv⟩ := C0
  have hg := s0_g hts
  obtain ⟨D, cA, hK⟩ := s0_K hts
  have hcx := s0_cn hts
  have C : LX D cA p s m #[Value.ref b] c := ⟨⟨hx, hb, hml, hown⟩, hg, hK, s0_nw hts, s0_cx (hK.1 4 _ rfl).2.1 hts hgv, s0_st hts hgv⟩
  have hown : s.vm.findClass "CraneTurnsLaw" = some m.cls := hown
  generalize hAe : (fun q : Nat => s.heap.size ≤ q) = A
  have hA : ∀ q : Nat, s.heap.size ≤ q → A q := fun q h => by rw [← hAe]; exact h
  have hS : va_S A s.heap s.heap [] := va_S.rf
  have hl9 := lv_entry ([.ref b] : List Value) (n := 7) (Nat.le_of_ble_eq_true rfl)
  rw [lg_entry_eq]
  generalize (lg_sl ([.ref b] : List Value) ++ List.replicate (7 - (lg_sl ([.ref b] : List Value)).length) Slot.unset).toArray = ls at hl9 ⊢
  have hl9 : lv_has ls 7 [(0, .ref b)] := hl9
  have hP : va_P D ct_cl [] s.heap := fun k q h => by simp at h
  have hD : va_D A [] := ⟨fun i j p q h => by simp at h, fun k q h => by simp at h⟩
  refine va_new (D := D) (cl := ct_cl) (tys := ct_tys cA) (ci := 4) (fs := [.null, .null]) (C := "CraneTurns") (T := ct_T4) (N := 2) hx hb hg ct_in4 ct_ty4 ct_tyok4 hown (hg _ (ct_t1 (List.mem_of_getElem? (i := 16) rfl) rfl)) (hg _ (ct_t1 (List.mem_of_getElem? (i := 17) rfl) rfl)) (hg _ (ct_t1 (List.mem_of_getElem? (i := 1) rfl) rfl)) hK hP hD hS hA rfl (fun j hj => by rcases (show j = 0 ∨ j = 1 by omega) with rfl | rfl <;> rfl) (Nat.le_of_ble_eq_true rfl) (Nat.le_of_ble_eq_true rfl) (show decode _ _ = .ok (.new 8, 3) from by decide +kernel) (fun h0 H hP hD hS => ?_)
  refine lv_dup hx hb (by decide +kernel) rfl ?_
  have hF := cn_free (ws := []) (q0 := h0) (e0 := e_ct0) hD hS hA
  refine va_callv (va_runI (b := h0) (As := []) (rest := [.ref h0]) ⟨hx, hb, hml, hown, hg⟩ (c_crane_turns0 (D := D) (cA := cA) l h0 H.size) (cwI 0 hg (cn_good (ct_t1 (List.mem_of_getElem? (i := 20) rfl) rfl)) rfl rfl rfl (hg _ (ct_t1 (List.mem_of_getElem? (i := 1) rfl) rfl)) (hg _ (ct_t1 (List.mem_of_getElem? (i := 18) rfl) rfl)) (hg _ (ct_t1 (List.mem_of_getElem? (i := 19) rfl) rfl)) rfl (by decide +kernel) ⟨Nat.le_of_ble_eq_true rfl, Nat.le_of_ble_eq_true rfl⟩) ⟨cn_blind, fun U hU hW => ⟨rfl, by rw [hU], by rw [hU]; exact cn_one (ws := []) hP, va_K.moved hW.alike hK, cn_oneD, hcx.warm hW⟩⟩ rfl rfl hl9.1 rfl (lv_room (Nat.le_of_ble_eq_true rfl)) (show decode code 4 = .ok (.invokespecial 57, 3) from by decide +kernel) ⟨Nat.le_of_ble_eq_true rfl, Nat.le_of_ble_eq_true rfl⟩) hS (fun q _ h => hF q h) hF (fun ⟨u, g, v, a1, a2, a3, a4⟩ t H1 locs ht hvm _ hB hz1 hk1 hS => ?_)
  obtain ⟨hP1, hD1⟩ := hB
  rw [ht] at hP1
  obtain ⟨hP, hD⟩ := cn_join (ws := []) (q0 := h0) (e0 := e_ct0) hP hD hk1 hF hP1 hD1
  clear hP1 hD1 hk1 hF
  have hP : va_P D ct_cl (w_ct cA h0 u g v a1 a2 a3 a4) H1 := hP
  have hD : va_D A (w_ct cA h0 u g v a1 a2 a3 a4) := hD
  refine W.eq (g2 := F0 m 7 ls [.ref h0]) rfl ?_
  refine lv_astore_n (k := 1) (i := 1) (lv' := [(1, .ref h0), (0, .ref b)]) hx hb (by decide +kernel) rfl hl9 (by decide) rfl (fun ls hl9 => ?_)
  refine va_new (D := D) (cl := ct_cl) (tys := ct_tys cA) (ci := 5) (fs := [.int 0, .int 0, .int 0, .int 0, .int 0, .int 0, .null, .null, .null, .null, .null, .null, .int 0]) (C := "CraneTurnsModel") (T := ct_T5) (N := 13) hx hb hg ct_in5 ct_ty5 ct_tyok5 hown (hg _ (ct_t3 (List.mem_of_getElem? (i := 113) rfl) rfl)) (hg _ (ct_t3 (List.mem_of_getElem? (i := 114) rfl) rfl)) (hg _ (ct_t1 (List.mem_of_getElem? (i := 6) rfl) rfl)) hK hP hD hS hA rfl (fun j hj => by rcases (show j = 0 ∨ j = 1 ∨ j = 2 ∨ j = 3 ∨ j = 4 ∨ j = 5 ∨ j = 6 ∨ j = 7 ∨ j = 8 ∨ j = 9 ∨ j = 10 ∨ j = 11 ∨ j = 12 by omega) with rfl | rfl | rfl | rfl | rfl | rfl | rfl | rfl | rfl | rfl | rfl | rfl | rfl <;> rfl) (Nat.le_of_ble_eq_true rfl) (Nat.le_of_ble_eq_true rfl) (show decode _ _ = .ok (.new 58, 3) from by decide +kernel) (fun m0 H hP hD hS => ?_)
  refine lv_dup hx hb (by decide +kernel) rfl ?_
  have hF := cn_free (ws := (w_ct cA h0 u g v a1 a2 a3 a4)) (q0 := m0) (e0 := e_mo0) hD hS hA
  refine va_callv (va_runI (b := m0) (As := []) (rest := [.ref m0]) ⟨hx, hb, hml, hown, hg⟩ (c_model0 (D := D) (cA := cA) l m0 H.size) (cwI 0 hg (cn_good (ct_t3 (List.mem_of_getElem? (i := 117) rfl) rfl)) rfl rfl rfl (hg _ (ct_t1 (List.mem_of_getElem? (i := 6) rfl) rfl)) (hg _ (ct_t3 (List.mem_of_getElem? (i := 115) rfl) rfl)) (hg _ (ct_t3 (List.mem_of_getElem? (i := 116) rfl) rfl)) rfl (by decide +kernel) ⟨Nat.le_of_ble_eq_true rfl, Nat.le_of_ble_eq_true rfl⟩) ⟨cn_blind, fun U hU hW => ⟨rfl, by rw [hU], by rw [hU]; exact cn_one (ws := (w_ct cA h0 u g v a1 a2 a3 a4)) hP, va_K.moved hW.alike hK, cn_oneD, hcx.warm hW⟩⟩ rfl rfl hl9.1 rfl (lv_room (Nat.le_of_ble_eq_true rfl)) (show decode code 12 = .ok (.invokespecial 60, 3) from by decide +kernel) ⟨Nat.le_of_ble_eq_true rfl, Nat.le_of_ble_eq_true rfl⟩) hS (fun q _ h => hF q h) hF (fun ⟨b1, b2, b3, b4, b5, b6⟩ t H1 locs ht hvm _ hB hz1 hk1 hS => ?_)
  obtain ⟨hP1, hD1⟩ := hB
  rw [ht] at hP1
  obtain ⟨hP, hD⟩ := cn_join (ws := (w_ct cA h0 u g v a1 a2 a3 a4)) (q0 := m0) (e0 := e_mo0) hP hD hk1 hF hP1 hD1
  clear hP1 hD1 hk1 hF
  have hP : va_P D ct_cl ((w_ct cA h0 u g v a1 a2 a3 a4) ++ (w_mo cA m0 b1 b2 b3 b4 b5 b6)) H1 := hP
  have hD : va_D A ((w_ct cA h0 u g v a1 a2 a3 a4) ++ (w_mo cA m0 b1 b2 b3 b4 b5 b6)) := hD
  refine W.eq (g2 := F0 m 15 ls [.ref m0]) rfl ?_
  refine lv_astore_n (k := 2) (i := 2) (lv' := [(2, .ref m0), (1, .ref h0), (0, .ref b)]) hx hb (by decide +kernel) rfl hl9 (by decide) rfl (fun ls hl9 => ?_)
  refine lv_iconst (n := 1) (v := 1) hx hb (by decide +kernel) (by decide) ?_
  refine cn_newa (atype := .long) (ty := .long) (N' := 1) (a0 := (1, .inr (.inl (fun _ => 0)))) hx hb (hg _ (ct_t4 (List.mem_of_getElem? (i := 67) rfl) rfl)) rfl 4 rfl hK hP hD hS hA (fun _ => rfl) (by decide) (by decide) (by decide) (Nat.le_of_ble_eq_true rfl) (Nat.le_of_ble_eq_true rfl) (by decide +kernel) (fun o H hP hD hS => ?_)
  rw [List.append_assoc] at hP hD
  refine lv_astore_n (k := 3) (i := 3) (lv' := [(3, .ref o), (2, .ref m0), (1, .ref h0), (0, .ref b)]) hx hb (by decide +kernel) rfl hl9 (by decide) rfl (fun ls hl9 => ?_)
  refine lv_iconst (n := 0) (v := 0) hx hb (by decide +kernel) (by decide) ?_
  refine lv_istore (i := 4) (lv' := [(4, .int (nI 0)), (3, .ref o), (2, .ref m0), (1, .ref h0), (0, .ref b)]) hx hb (by decide +kernel) hl9 (by decide) rfl (fun ls hl9 => ?_)
  refine W.eq (g2 := F0 m 23 ls []) rfl ?_
  refine W.widen (k := 1000 + 0) (n := 10000 + 6 * 0) (Nat.le_of_ble_eq_true rfl) (Nat.le_of_ble_eq_true rfl) ?_
  subst hAe
  have hW := w0_LWd (f := fun _ => 0) hP hD hS
  exact law_loop C hr hlocks hlt hX hbl hL (L / 5 + 1) 0 0 0 0 M0 (fun _ => 0) H _ ls (by omega) (by omega) (Nat.le_refl 0) gs0 hW (lv_sub hl9 [4, 3, 2, 1, 0] rfl)
set_option maxHeartbeats 4000000 in
theorem lw_walk (l : Launch) (hlt : l.stackTraces = false) (b : Addr) (xs : List Int32) : MetFree l x (headSpec (Jvm.Cond.code x code maxLocals ret :: tables_1) room_1) (lw_P b xs) (fun _ _ _ _ _ => True) lw_Q := by
  refine MetFree.of_bodyS (code := code) (maxLocals := maxLocals) (ret := ret) (by decide) ?_ ?_
  · intro args s m h hn
    obtain ⟨meth, c, h1, h2, h3, h4, h5, h6, -, -⟩ := Cond.code_spec hn (atoms_spec (ws := Jvm.Cond.code x code maxLocals ret :: tables_1) h _ List.mem_cons_self)
    exact ⟨meth, c, h1, h2, h3, h4, h5, h6⟩
  · intro p e s m args below meth c s₁ B hml0 hP _
    obtain ⟨rfl, hx, hbd, hgv⟩ := hP
    obtain ⟨scr, harrAt, hlist, hof, hsmall⟩ := hx
    obtain ⟨hcb, hkn, -, -⟩ := State.arrayAt?_spec harrAt
    have hown : s.vm.findClass R_law = some m.cls := findClass_of_methodNamed B.named
    have hts0 : ∀ c ∈ (Jvm.Cond.code x code maxLocals ret :: tables_1), c.before #[Value.ref b] s = true := atoms_spec (ws := Jvm.Cond.code x code maxLocals ret :: tables_1) B.pre
    have hts : ∀ w ∈ lw_tbl, w.before #[Value.ref b] s = true := k2_hts_sels lw_privs (fun w hw => hts0 w (List.mem_cons_of_mem _ hw)) lw_privs_ok
    have hml : c.maxLocals = 7 := B.maxLocals_eq (hts0 _ List.mem_cons_self)
    have X₀ : Stand p l e room_1 s m #[Value.ref b] below meth c s₁ [] 0 0 := Stand.of_body B
    have hh0 : s₁.heap = s.heap := by rw [B.state]; rfl
    have hsz : scr.slots.size = xs.length := by rw [← Array.length_toList, hlist, List.length_map]
    have hval : ∀ j : Nat, j < xs.length → scr.slots[j]? = some (.int (xs.getD j 0)) := fun j hj => by
      rw [← Array.getElem?_toList, hlist]
      simp [hj]
    have hbl : b < s.heap.size := (Array.getElem?_eq_some_iff.mp hcb).1
    have hX : va_X b xs.length (fun j => xs.getD j 0) s s.heap := ⟨scr, hcb, hof, hkn, hsz, hval⟩
    have K : W p l e room_1 s m #[Value.ref b] below meth c s₁.heap [] 0 0 (lw_Z below #[Value.ref b] s) (entryFrame m ([Value.ref b] : List Value).toArray 7) := by
      rw [hh0]
      exact whole_start l hlt hbd ⟨B.exec, B.bytes, B.returns, hml, hown, hts, hX, hbl, B.notSynchronized, hgv⟩
    obtain ⟨t, a1, o, b1, b2, b3⟩ := K s₁ rfl X₀
    exact ⟨t, o, a1, b1, b2, b3⟩
theorem lw_pre_spec {args : Array Value} {s : State} (h : (Jvm.Cond.and given_1 narrow_1).before args s = true) (hr : rest_1_c.before args s = true) : ∃ (b : Addr) (xs : List Int32), lw_P b xs args s := by
  have hs := flat_of_before _ h
  have hq := flat_of_before _ hr
  have hc : (Cond.count 1).before args s = true := hs _ (by decide +kernel)
  have harr : (Cond.arrayOf (.arg 0) .int).before args s = true := hs _ (by decide +kernel)
  have hle : (Cond.le (.length (.arg 0)) (.int 2560)).before args s = true := hs _ (by decide +kernel)
  have hlen : (Cond.isInt (.length (.arg 0))).before args s = true := hq _ (by decide +kernel)
  have hall : (Cond.all (.arg 0) (.isInt (.elem (.arg 0) (.index 0)))).before args s = true := hq _ (by decide +kernel)
  obtain ⟨b, xs, hb, hx⟩ := State.ints_of_pre rfl harr hlen hall
  have hsm : xs.length < 2 ^ 31 := hx.choose_spec.2.2.2
  have hev : (Term.length (.arg 0)).eval args s none [] s = some (.int xs.length.toInt32) := hx.length_eval hb
  have hv := Cond.le_ints hev (show (Term.int 2560).eval args s none [] s = some (.int 2560) from rfl)
  have hd : xs.length.toInt32 ≤ 2560 := by
    simpa [Cond.before, Cond.holds, hv] using hle
  have hN : xs.length ≤ 2560 := (Int32.ofNat_le_ofNat hsm (by decide)).mp (show Int32.ofNat xs.length ≤ Int32.ofNat 2560 from hd)
  exact ⟨b, xs, Cond.one_arg hc (show args[0]? = some (.ref b) from hb), hx, hN, h⟩
theorem lw_comes (l : Launch) (hlt : l.stackTraces = false) : Comes l x (Jvm.Cond.code x code maxLocals ret :: tables_1) room_1 (fun tb e args s => Calls_1 tb e args s ∧ rest_1 tb e args s ∧ Pre_1 tb e args s)
    (fun _ _ args s o t => lw_Q args s o t) := by
  intro p e ha hc hk s m args below hf hfit hheap happ hpre
  obtain ⟨b, xs, hP⟩ := lw_pre_spec hpre.2.2 hpre.2.1
  obtain ⟨k, o, h1, h2, h3, hQ⟩ := lw_walk l hlt b xs p e ha hc hk s m args below hf ((Spec.applies_iff_loose hf).mp happ).1 hP trivial
  exact ⟨k, o, h1, h2, h3, hQ⟩
theorem lw_frame {s t : State} {o : Outcome} {args : Array Value} (h : Framed s o t [] 655870 7128494) :
    Framed s o t (fieldLocs frame_1_writes args s ++ arrayLocs frame_1_arrays args s ++ staticLocs frame_1_statics s) 655870 7128494 := h
theorem lw_limb (L : Cond) (hL : ∀ (args : Array Value) (s t : State), L.after args s (.returned (some (.int 1))) t = true) :
    ArmFor flags0 classFile x code maxLocals ret World_1 tables_1 room_1 Calls_1 rest_1 Pre_1
      (fun tb e a s o t => postC L tb e a s o t ∧ Framed s o t (fieldLocs frame_1_writes a s ++ arrayLocs frame_1_arrays a s ++ staticLocs frame_1_statics s) 655870 7128494) := by
  intro l hfl _ _ p e ha hc hk s m args below hf hfit hheap happ hpre
  have hlt : l.stackTraces = false := by
    unfold Launch.stackTraces
    rw [hfl]
    decide
  obtain ⟨k, o, h1, h2, h3, rfl, hF⟩   := lw_comes l hlt p e ha hc hk s m args below hf hfit hheap happ hpre
  exact ⟨k, _, h1, h2, h3, hL args s _, lw_frame hF⟩
theorem i_vc : Claimed_1_1 ∧ Claimed_1_2 := ⟨lw_limb limb_1_1 (fun args s t => by simp [limb_1_1, Cond.after, Cond.holds, Cond.value]), lw_limb limb_1_2 (fun args s t => Cond.after_iff.mpr (by
  first | (rw [show limb_1_2 = Cond.eq .result (.int 1) from rfl, Cond.eq_ints (x := 1) (y := 1) rfl rfl]; simp; done) | (simp [limb_1_2, Cond.value, Term.eval]; done)))⟩
