/-! THE LAW'S HELPERS: rows -/
theorem mh_ofW {l : Launch} {y : MethodName} {ws ws' : List Cond} {rm : Room} {Pc : Array Value → State → Prop} {Qc : Array Value → State → Outcome → State → Prop} {mc ms : Nat} {free : Addr → Prop} {cc : ByteArray} {maxL : Nat} {ret : Option FieldType} {hh : List (Nat × Nat × Nat × Nat)}
    (hy : plainName y.cls = true) (hw : ws = Cond.codeWith y cc maxL ret hh :: ws')
    (body : ∀ p e s m args below meth c s₁, BodyLoose p l y (headSpec ws rm) cc maxL ret e s m args below meth c s₁ → c.maxLocals = maxL → Pc args s →
      W p l e (headSpec ws rm).room s m args below meth c s.heap [] 0 0 (MQ below Qc args s mc ms free) (entryFrame m args maxL)) : Met l y ws rm Pc Qc mc ms free := by
  refine MetFree.of_bodyS (code := cc) (maxLocals := maxL) (ret := ret) hy ?_ ?_
  · intro args s m h hn
    obtain ⟨m9, meth, c, hn9, h1, h2, h3, h4, -, h5, h6, -⟩ := Cond.codeWith_spec (atoms_spec (ws := ws) h _ (by rw [hw]; exact List.mem_cons_self))
    cases hn.symm.trans hn9
    exact ⟨meth, c, h1, h2, h3, h4, h5, h6⟩
  · intro p e s m args below meth c s₁ B hml hP _
    have hh0 : s₁.heap = s.heap := by rw [B.state]; rfl
    obtain ⟨t, a1, o, b1, b2, b3, b4⟩ := body p e s m args below meth c s₁ B hml hP s₁ hh0 (Stand.of_body B)
    exact ⟨t, o, a1, b1, b2, b3, b4⟩
section MH
variable {D : va_G} {ad : Nat → Nat} {cA : Nat → ClassId} {l : Launch}
abbrev ct_W (ad : Nat → Nat) (cA : Nat → ClassId) (M : mm_M) : va_W := mm_W ad cA ct_K ct_kd ct_N M
theorem ct_W_addr {M M' : mm_M} {k : Nat} {q : Nat × va_E} (h : (ct_W ad cA M)[k]? = some q) : ∃ e, (ct_W ad cA M')[k]? = some (q.1, e) := by
  simp only [ct_W, mm_W, List.getElem?_map] at h ⊢
  cases hN : ct_N[k]? with
  | none => rw [hN] at h; cases h
  | some i =>
    rw [hN] at h
    have e : (ad i, mm_E ad cA ct_K (ct_kd i) i (M i)) = q := Option.some.inj h
    exact ⟨_, by rw [← e]; rfl⟩
theorem ct_A_same {M M' : mm_M} {sz q : Nat} (h : va_A (ct_W ad cA M) sz q) : va_A (ct_W ad cA M') sz q := by
  rcases h with ⟨k, e, h⟩ | h
  · obtain ⟨e', h'⟩ := ct_W_addr (M' := M') h
    exact Or.inl ⟨k, e', h'⟩
  · exact Or.inr h
theorem ct_D_same {A : Nat → Prop} {M M' : mm_M} (h : va_D A (ct_W ad cA M)) : va_D A (ct_W ad cA M') :=
  ⟨fun i j p q hi hj e => by
    obtain ⟨e1, h1⟩ := ct_W_addr (M' := M) hi
    obtain ⟨e2, h2⟩ := ct_W_addr (M' := M) hj
    exact h.1 i j _ _ h1 h2 e, fun k q hk => by
    obtain ⟨e1, h1⟩ := ct_W_addr (M' := M) hk
    exact h.2 k (q.1, e1) h1⟩
variable {p : Program} {e : Env} {R : Room} {s : State} {m : MethodId} {args : Array Value} {below : List Frame} {meth : Method} {c : Code} {H H0 : Heap} {locs : List Loc} {Q : State → Prop} {A0 : Nat → Prop} {own : String} {cc : ByteArray} {nL pc : Nat} {ls : Array Slot} {rest : List Value}
theorem mm_runF {r : Option Int32} {M M' : mm_M} {mc ms cells slots : Nat} {st0 : List Value} {a : Array Value} (hr : va_Run p l e R s m args below meth c H locs cells slots mc ms (F0 m pc ls st0) rest (mm_Post D ct_cl ad cA ct_K ct_kd ct_N r M' (va_A (ct_W ad cA M) H.size) a) (va_A (ct_W ad cA M) H.size)) (hS : va_S A0 H0 H locs) (hA : ∀ q, va_A (ct_W ad cA M) H.size q → A0 q)
    (kk : ∀ (H1 : Heap) (locs1 : List Loc), H.size ≤ H1.size → (∀ q : Nat, q < H.size → ¬ va_A (ct_W ad cA M) H.size q → H1[q]? = H[q]?) → va_P D ct_cl (ct_W ad cA M') H1 → va_S A0 H0 H1 locs1 → W p l e R s m args below meth c H1 locs1 (cells + mc) (slots + ms) Q (F0 m (pc + 3) ls ((r.map Value.int).toList ++ rest))) : W p l e R s m args below meth c H locs cells slots Q (F0 m pc ls st0) := by
  intro T hT X
  obtain ⟨v, st₀, t, T', L, h0, X', hL, e1, e2, ⟨⟨hv, hp, hb⟩, hz, hk⟩, st⟩ := hr T hT X
  cases hv
  rw [h0] at hz hk
  obtain ⟨t2, a1, b1⟩ := kk T'.heap (locs ++ L) (by rw [e1]; exact hz) (fun q h1 h2 => by rw [e1]; exact hk q h1 h2) (by rw [e1]; exact hp)
    ⟨Nat.le_trans hS.1 (by rw [e1]; exact hz), fun q h1 h2 => by rw [e1, hk q (Nat.lt_of_lt_of_le h1 hS.1) (fun z => h2 (hA q z))]; exact hS.2.1 q h1 h2, fun q hq => by
      rcases List.mem_append.mp hq with h | h
      · exact hS.2.2 q h
      · exact hA _ (hL q h)⟩ T' rfl X'
  exact ⟨t2, st t2 a1, b1⟩
set_option maxHeartbeats 1000000 in
/-- a public method called in a helper -/
theorem mh_call {exs : List String} {z idx n : Nat} {M M' : mm_M} {As : List mm_V} {k : Int32} {r : Option Int32} (hPB : PB D ad cA l exs z M (.inr (4, 0) :: As) k r M')
    (hx : p.tables.exec = Jvm.exec) (hb : c.code = cc) (hml : c.maxLocals = nL) (hown : s.vm.findClass own = some m.cls) (hg : ∀ w ∈ ct_GW, w.before args s = true) (hK : va_K D ct_cl (ct_tys cA) s) (hnw : mm_nw ct_NW s) (hcx : mx_cx cu_XS s) (hst : mx_st A0 s s.heap)
    (hP : va_P D ct_cl (ct_W ad cA M) H) (hD : va_D A0 (ct_W ad cA M)) (hS : va_S A0 s.heap H locs) (hA : ∀ q, s.heap.size ≤ q → A0 q) (hls : ls.size = nL) (hAn : As.length = n)
    (hcd : Cond.code (cu_T.1 z) (cu_T.2.1 z) (cu_T.2.2.1 z) (cu_T.2.2.2 z) ∈ ct_GW) (hw : ∀ w ∈ [Cond.methodLink own idx (cu_T.1 z), .instanceMethod (cu_T.1 z), .selects "CraneTurns" (cu_T.1 z) (cu_T.1 z), .initialized "CraneTurns"], w ∈ ct_GW)
    (hd : (cu_T.1 z).cls = "CraneTurns" ∧ (cu_T.1 z).cls ≠ "java/lang/invoke/MethodHandle" ∧ (cu_T.1 z).cls ≠ "java/lang/invoke/VarHandle" ∧ (parseMethodDescriptor (cu_T.1 z).desc).map (fun d => d.parameters.length) = some n)
    (hR : 14 ≤ R.frames ∧ 8 + (cu_T.2.2.1 z + 11) + 780 ≤ R.locals) (hR2 : 1 ≤ R.cells ∧ 6 ≤ R.slots) (hroom : (rest.map fun v => v.category).sum ≤ 8) (d : decode cc pc = .ok (.invokevirtual idx, 3))
    (kret : k = 0 → ∀ (H1 : Heap) (locs1 : List Loc), H.size ≤ H1.size → (∀ q : Nat, q < H.size → ¬ va_A (ct_W ad cA M) H.size q → H1[q]? = H[q]?) → va_P D ct_cl (ct_W ad cA M') H1 → va_S A0 s.heap H1 locs1 → W p l e R s m args below meth c H1 locs1 1 6 Q (F0 m (pc + 3) ls ((r.map Value.int).toList ++ rest)))
    (kthr : ∀ i, i < exs.length → k = nI (i + 1) → M' = M → ∀ (ce : Cell) (q9 : Addr) (H1 : Heap) (locs1 : List Loc), H.size ≤ H1.size → (∀ q : Nat, q < H.size → ¬ va_A (ct_W ad cA M) H.size q → H1[q]? = H[q]?) → va_P D ct_cl (ct_W ad cA M) H1 → va_S A0 s.heap H1 locs1 → H1[q9]? = some ce → ce.vm = .none → s.vm.findClass (exs.getD i "") = some ce.cls → vx_W p l e R s m args below meth c H1 locs1 1 6 Q (F0 m pc ls rest) q9) :
    W p l e R s m args below meth c H locs 0 0 Q (F0 m pc ls ((As.map (mm_v ad)).reverse ++ Value.ref (ad 0) :: rest)) := by
  have hin : ∀ q, va_A (ct_W ad cA M) H.size q → A0 q := fun q h => by
    rcases h with ⟨k, e, h⟩ | h
    · exact hD.2 k _ h
    · exact hA q (Nat.le_trans hS.1 h)
  have hrc := va_recv hK hP (ci := 4) (q0 := 0) rfl rfl
  rcases hPB with ⟨rfl, hM⟩ | ⟨hM', i, hi, hki, hX⟩
  · refine mm_runF (M := M) (va_runV (As := As.map (mm_v ad)) (rest := rest) (b := ad 0) ⟨hx, hb, hml, hown, hg⟩ (hM H.size) (cwV n hg (mm_goodA ct_good hcd hw) rfl rfl rfl hd ⟨hR.1, hR.2⟩) ⟨mm_blind, hrc, fun U hU hW => ⟨rfl, by rw [hU], by rw [hU]; exact hP, va_K.moved hW.alike hK, hD.weaken (fun _ _ _ _ => trivial), mm_nw_warm hW hnw⟩⟩ rfl (by simp [hAn]) hls rfl (lv_room hroom) d ⟨Nat.zero_le _, Nat.zero_le _⟩) hS hin (fun H1 locs1 h1 h2 h3 h4 => ?_)
    refine W.widen (k := 1) (n := 6) (by omega) (by omega) ?_
    exact kret rfl H1 locs1 h1 h2 h3 h4
  · refine vx_callv (vx_runV (As := As.map (mm_v ad)) (rest := rest) (b := ad 0) ⟨hx, hb, hml, hown, hg⟩ (hX H.size) (cwV n hg (mm_goodA ct_good hcd hw) rfl rfl rfl hd ⟨hR.1, hR.2⟩) ⟨mx_blind, hrc, fun U hU hW => ⟨⟨rfl, by rw [hU], by rw [hU]; exact hP, va_K.moved hW.alike hK, hD.weaken (fun _ _ _ _ => trivial), mm_nw_warm hW hnw⟩, mx_warm hW hcx, by rw [hU]; exact ((hst.kept hS.2.1).narrow hin).moved hW.alike⟩⟩ rfl (by simp [hAn]) hls rfl (lv_room hroom) d ⟨by omega, by omega⟩) hS (fun q _ h => hin q h) hin (fun q _ h => hin q h) (fun E' ce q9 u t H1 locs1 ht hvm hu hB hz hk hS2 hce hcv hcl => ?_) (fun u t H1 locs1 _ _ hf => hf.elim)
    obtain ⟨rfl, hP2, -⟩ := hB
    rw [ht] at hP2
    exact kthr i hi hki hM' ce q9 H1 locs1 hz hk hP2 hS2 hce hcv hcl
end MH
