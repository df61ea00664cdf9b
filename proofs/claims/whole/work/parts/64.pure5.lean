theorem ujb_jb {A : ya} {i k i' k' : Nat} {v : Int32} : jb (ujb A i k v) i' k' = if i' = i ∧ k' = k then v else jb A i' k' := rfl
theorem ujb_ne {A : ya} {i k i' k' : Nat} {v : Int32} (h : i' ≠ i ∨ k' ≠ k) : jb (ujb A i k v) i' k' = jb A i' k' := by
  rw [ujb_jb, if_neg (by omega)]
theorem ujb_at {A : ya} {i k : Nat} {v : Int32} : jb (ujb A i k v) i k = v := mm_up_at _ _ _ _
/-- one job's state changes (from 1 or 2 to s), with its crane's hand: what the others have stays -/
theorem yi_job {n j : Nat} {A B : ya} {c q : Nat} {s : Int32} (h : yi n j A) (hc : c < n) (hq : q < j) (hqs : jb A q 3 = 1 ∨ jb A q 3 = 2) (hqo : jb A q 4 = nI c) (hs : s = 2 ∨ s = 3)
    (hj : ∀ i k, (i ≠ q ∨ k < 3 ∨ k = 4) → jb B i k = jb A i k) (hj3 : jb B q 3 = s) (hS : ∀ k, k ≠ 4 → k ≠ 5 → k ≠ 7 → sc B k = sc A k) (hw : ∀ c', c' ≠ c → wa B c' = wa A c') (hcr : ∀ c' k, (c' ≠ c ∨ k < 4) → cr B c' k = cr A c' k) (hH : yiH B j c) (hOther : ∀ c', c' < n → c' ≠ c → cr A c' 5 ≠ 0 → ix (cr A c' 4) ≠ q) (hO : sc B 7 = nI (cntO B j))
    (hQ1 : ∃ m, m ≤ 8 ∧ cr B c 10 = nI m) (hQ2 : qs B c = (qs A c).filter (fun y => !(y == nI q))) : yi n j B := by
  obtain ⟨gS, hC, hN, hJ, hQ, -⟩ := h
  have hn3 := gS.1
  have hj8 := gS.2.1
  refine ⟨?_, fun c' hc' => ?_, fun c' hc' => ?_, fun i hi => ?_, fun c' hc' => ?_, hO⟩
  · unfold yiS at gS ⊢
    rw [hS 0 (by decide) (by decide) (by decide), hS 6 (by decide) (by decide) (by decide), hS 1 (by decide) (by decide) (by decide), hS 2 (by decide) (by decide) (by decide), hS 3 (by decide) (by decide) (by decide), hS 8 (by decide) (by decide) (by decide)]
    exact gS
  · by_cases e : c' = c
    · subst e
      refine ⟨?_, ?_, hH⟩
      · have := (hC c' hc').1
        unfold yiB at this ⊢
        rw [hcr c' 0 (by omega), hcr c' 1 (by omega), hcr c' 2 (by omega)]
        exact this
      · rw [hcr c' 3 (by omega)]; exact (hC c' hc').2.1
    · have g : ∀ k, cr B c' k = cr A c' k := fun k => hcr c' k (Or.inl e)
      obtain ⟨k1, k2, k3⟩ := hC c' hc'
      refine ⟨?_, by rw [g]; exact k2, ?_⟩
      · unfold yiB at k1 ⊢
        rw [g, g, g]; exact k1
      · by_cases e5 : cr A c' 5 = 0
        · rcases k3 with k3 | ⟨l1, -, -, l4⟩
          · exact Or.inl (by rw [g, g]; exact k3)
          · rw [e5] at l4
            rcases l4 with ⟨z, -⟩ | ⟨z, -⟩ | ⟨z | z, -⟩ <;> exact absurd z (by decide)
        · have e6 := hOther c' hc' e e5
          unfold yiH at k3 ⊢
          rw [g, g, g, g, hj _ 3 (Or.inl e6), hj _ 4 (Or.inl e6), hj _ 0 (Or.inl e6), hj _ 1 (Or.inl e6)]
          exact k3
  · have := hN c' hc'
    rw [hcr c' 0 (by omega), hcr (c' + 1) 0 (by omega), hS 1 (by decide) (by decide) (by decide)]
    exact this
  · obtain ⟨k1, k2⟩ := hJ i hi
    have rR : ∀ c', yiR B c' i ↔ yiR A c' i := fun c' => by
      unfold yiR
      rw [hcr c' 1 (by omega), hcr c' 2 (by omega), hj i 0 (by omega), hj i 1 (by omega)]
    by_cases e : i = q
    · subst e
      refine ⟨?_, fun z => ?_⟩
      · rw [hj3]
        rcases hs with z | z
        · exact Or.inr (Or.inr (Or.inl z))
        · exact Or.inr (Or.inr (Or.inr z))
      · obtain ⟨c', a1, a2, a3⟩ := k2 hqs
        exact ⟨c', a1, by rw [hj i 4 (by omega)]; exact a2, (rR c').mpr a3⟩
    · refine ⟨by rw [hj i 3 (Or.inl e)]; exact k1, fun z => ?_⟩
      rw [hj i 3 (Or.inl e)] at z
      obtain ⟨c', a1, a2, a3⟩ := k2 z
      exact ⟨c', a1, by rw [hj i 4 (by omega)]; exact a2, (rR c').mpr a3⟩
  · have hne : ∀ x, okx j x → ix x ≠ q → x ≠ nI q := fun x hx hi e => hi (by rw [e, ix_nI (by omega)])
    obtain ⟨k1, k2, k3, k4⟩ := hQ c' hc'
    by_cases e : c' = c
    · subst e
      unfold yiQ
      rw [hQ2]
      refine ⟨hQ1, k2.filter _, fun x hx => ?_, fun i hi z1 z2 => ?_⟩
      · obtain ⟨m1, m2⟩ := List.mem_filter.mp hx
        obtain ⟨o1, o2, o3⟩ := k3 x m1
        have m3 : ix x ≠ q := fun z => by
          have : x = nI q := by rw [o1.1, z]
          simp [this] at m2
        exact ⟨o1, by rw [hj _ 3 (Or.inl m3)]; exact o2, by rw [hj _ 4 (by omega)]; exact o3⟩
      · have e2 : i ≠ q := fun z => by
          subst z
          rw [hj3] at z1
          rcases hs with w | w <;> rw [w] at z1 <;> exact absurd z1 (by decide)
        rw [hj i 3 (Or.inl e2)] at z1
        rw [hj i 4 (by omega)] at z2
        refine List.mem_filter.mpr ⟨k4 i hi z1 z2, ?_⟩
        have : nI i ≠ nI q := rp_ne (by omega) (by omega) e2
        simp [this]
    · have eq : qs B c' = qs A c' := qs_congr (hcr c' 10 (Or.inl e)) (hw c' e)
      unfold yiQ
      rw [eq, hcr c' 10 (Or.inl e)]
      refine ⟨k1, k2, fun x hx => ?_, fun i hi z1 z2 => ?_⟩
      · obtain ⟨o1, o2, o3⟩ := k3 x hx
        have m3 : ix x ≠ q := fun z => by
          rw [z, hqo] at o3
          exact e (nI_inj (by omega) (by omega) o3).symm
        exact ⟨o1, by rw [hj _ 3 (Or.inl m3)]; exact o2, by rw [hj _ 4 (by omega)]; exact o3⟩
      · have e2 : i ≠ q := fun z => by
          subst z
          rw [hj3] at z1
          rcases hs with w | w <;> rw [w] at z1 <;> exact absurd z1 (by decide)
        rw [hj i 3 (Or.inl e2)] at z1
        rw [hj i 4 (by omega)] at z2
        exact k4 i hi z1 z2
section OPS2
variable {n j T : Nat} {A : ya} {X : mm_M} {c : Nat}
theorem other_ne (h : yi n j A) {q : Nat} (hc : c < n) (hqo : jb A q 4 = nI c) : ∀ c', c' < n → c' ≠ c → cr A c' 5 ≠ 0 → ix (cr A c' 4) ≠ q := fun c' hc' e h5 z => by
  obtain ⟨-, -, o3⟩ := at_ok h hc' h5
  rw [z, hqo] at o3
  have := h.1.1
  exact e (nI_inj (by omega) (by omega) o3).symm
theorem filter_no {l : List Int32} {x : Int32} (h : x ∉ l) : l.filter (fun y => !(y == x)) = l := List.filter_eq_self.mpr (fun y hy => by
  have : y ≠ x := fun z => h (by rw [← z]; exact hy)
  simp [this])
/-- a second of setting -/
theorem RL_set (h : RL n j T A X) (hc : c < n) (hd : cr A c 5 = 4) : RL n j T (f_Yd_setOn A c (ix (cr A c 4))).2 (f_Mo_lessToGo X c).2 := by
  have hn := h.1.1.1
  have hj8 := h.1.1.2.1
  have hl := left_ok h.1 hc (Or.inr hd)
  obtain ⟨l1, l2⟩ := less_eq hl
  have r7 := rd_c7 h.2.1 hc
  have r5 := rd_c5 h.2.1 hc
  have r4 := rd_c4 h.2.1 hc
  obtain ⟨o1, o2, o3⟩ := at_ok h.1 hc (by rw [hd]; decide)
  unfold f_Yd_setOn f_Mo_lessToGo
  rw [ucr_at, oc_at (by omega), ← r7]
  by_cases h1 : cr A c 7 - 1 = 0
  · rw [if_pos h1, if_pos (l1.mp h1), oc_ne (k' := 1) (by omega) (by omega) (by omega), ← r5, if_neg (by rw [hd]; decide), ← r4]
    generalize hq : ix (cr A c 4) = q at *
    have hqj : q < j := by rw [← hq]; exact o1.2
    have hok := o1.1
    rw [hq] at hok
    show RL n j T (ucr (ucr (usc (ujb (ujb (ucr A c 7 (cr A c 7 - 1)) q 3 3) q 5 (sc A 4 + 1)) 7 (sc A 7 - 1)) c 4 (-1)) c 5 0) (f_Mo_setCrane (f_Mo_setCrane (f_Mo_setJob (f_Mo_setJob (f_Mo_setCrane X c 3 (cr A c 7 - 1)).2 q 3 3).2 q 5 ((f_Mo_setJob (f_Mo_setCrane X c 3 (cr A c 7 - 1)).2 q 3 3).2 3 0 + 1)).2 c 2 (-1)).2 c 1 0).2
    rw [sj_row (r := 3) (q := 0) (by omega), sc_row (r := 3) (q := 0) (by omega)]
    obtain ⟨hy, hv, hqq⟩ := h
    rw [← rd_s4 hv]
    have hcnt : sc A 7 - 1 = nI (cntO (ujb (ujb A q 3 3) q 5 (sc A 4 + 1)) j) := by
      rw [hy.2.2.2.2.2, cntO_down (A := A) (B := ujb (ujb A q 3 3) q 5 (sc A 4 + 1)) (q := q) (fun i _ hi => by rw [ujb_ne (by omega), ujb_ne (by omega)]) hqj (by rw [o2]; decide) (by rw [ujb_ne (by omega), ujb_at])]
      exact nI_pred _
    have hnot : nI q ∉ qs A c := fun z => by
      have := ((hy.2.2.2.2.1 c hc).2.2.1 _ z).2.1
      rw [ix_nI (by omega), o2] at this
      exact absurd this (by decide)
    generalize hB : ucr (ucr (usc (ujb (ujb (ucr A c 7 (cr A c 7 - 1)) q 3 3) q 5 (sc A 4 + 1)) 7 (sc A 7 - 1)) c 4 (-1)) c 5 0 = B
    have qeq : ∀ c', qs B c' = qs A c' := fun c' => qs_congr (by rw [← hB]; exact (ucr_ne (by omega)).trans ((ucr_ne (by omega)).trans (ucr_ne (by omega)))) (by rw [← hB]; rfl)
    have bj : ∀ i k, jb B i k = jb (ujb (ujb A q 3 3) q 5 (sc A 4 + 1)) i k := fun i k => by rw [← hB]; rfl
    refine ⟨?_, ?_, ?_⟩
    · refine yi_job (q := q) (s := 3) hy hc hqj (Or.inr o2) o3 (Or.inr rfl) (fun i k z => ?_) ?_ (fun k k4 k5 k7 => ?_) (fun c' _ => by rw [← hB]; rfl) (fun c' k z => ?_) ?_ (other_ne hy hc o3) ?_ ?_ ?_
      · rw [bj, ujb_ne (by omega), ujb_ne (by omega)]
      · rw [bj, ujb_ne (by omega), ujb_at]
      · rw [← hB]
        show upd (sc A) 7 _ k = _
        simp [upd, k7]
      · rw [← hB]; exact (ucr_ne (by omega)).trans ((ucr_ne (by omega)).trans (ucr_ne (by omega)))
      · refine Or.inl ?_
        rw [← hB]
        exact ⟨ucr_at, (ucr_ne (by omega)).trans ucr_at⟩
      · have e9 : cntO B j = cntO (ujb (ujb A q 3 3) q 5 (sc A 4 + 1)) j := cntO_congr (fun i _ => by rw [bj])
        rw [e9, ← hcnt, ← hB]
        show upd (sc A) 7 (sc A 7 - 1) 7 = _
        simp [upd]
      · obtain ⟨m, m1, m2⟩ := (hy.2.2.2.2.1 c hc).1
        exact ⟨m, m1, by rw [← hB]; exact (ucr_ne (by omega)).trans ((ucr_ne (by omega)).trans ((ucr_ne (by omega)).trans m2))⟩
      · rw [qeq, filter_no hnot]
    · rw [← hB, va_cr hc (by decide) (by decide), va_cr hc (by decide) (by decide), va_sc0 (by decide), va_jb hqj (by decide), va_jb hqj (by decide), va_cr hc (by decide) (by decide)]
      rw [vx_cr (k := 5) (by omega) hc hn, vx_cr (k := 4) (by omega) hc hn, vx_jb (by decide) hqj hn, vx_jb (by decide) hqj hn, vx_cr (k := 7) (by omega) hc hn, hv]
    · obtain ⟨a1, a2, a3⟩ := hqq
      have e6 : ∀ i, f_Mo_ofJob (f_Mo_setCrane (f_Mo_setCrane (f_Mo_setJob (f_Mo_setJob (f_Mo_setCrane X c 3 (cr A c 7 - 1)).2 q 3 3).2 q 5 (sc A 4 + 1)).2 c 2 (-1)).2 c 1 0).2 i 6 = f_Mo_ofJob X i 6 := fun i => by
        rw [oj_sc (by omega) (by omega), oj_sc (by omega) (by omega), oj_ne (by omega) (by omega) (by omega), oj_ne (by omega) (by omega) (by omega), oj_sc (by omega) (by omega)]
      refine ⟨?_, fun c' hc' => ?_, fun i hi z => ?_⟩
      · rw [sc_row (by omega), sc_row (by omega), sj_row (by omega), sj_row (by omega), sc_row (by omega)]; exact a1
      · rw [qeq]; simp only [e6]; exact a2 c' hc'
      · rw [e6]
        rw [bj] at z
        by_cases e : i = q
        · subst e
          rw [ujb_ne (by omega), ujb_at] at z
          exact absurd z (by decide)
        · rw [ujb_ne (by omega), ujb_ne (by omega)] at z
          exact a3 i hi z
  · rw [if_neg h1, if_neg (fun z => h1 (l1.mpr z))]
    exact RL_left h hc (Or.inr hd) (l2 h1)
/-- the first of the queue is the reference's first -/
theorem first_eq (h : RL n j T A X) (hc : c < n) : (qs A c = [] ∧ f_Mo_firstOf X c = -1) ∨ ∃ x t, qs A c = x :: t ∧ f_Mo_firstOf X c = x := by
  obtain ⟨hy, hv, a1, a2, a3⟩ := h
  have hj8 := hy.1.2.1
  obtain ⟨k1, k2, k3, k4⟩ := hy.2.2.2.2.1 c hc
  have h5 : X 0 5 = nI j := by rw [← rd_s6 hv]; exact hy.1.2.2.2.1
  have gv : ∀ i, i < j → gvn X c i → nI i ∈ qs A c := fun i hi g => k4 i hi (by rw [rd_j hv hi (by decide)]; exact g.1) (by rw [rd_j hv hi (by decide)]; exact g.2)
  have gv2 : ∀ x, x ∈ qs A c → gvn X c (ix x) := fun x hx => by
    obtain ⟨o1, o2, o3⟩ := k3 x hx
    exact ⟨by rw [← rd_j hv o1.2 (by decide)]; exact o2, by rw [← rd_j hv o1.2 (by decide)]; exact o3⟩
  cases hq : qs A c with
  | nil =>
    refine Or.inl ⟨rfl, ?_⟩
    rcases firstOf_spec (c := c) h5 hj8 with ⟨e, -⟩ | ⟨a, b1, b2, b3, b4⟩
    · exact e
    · have := gv a b1 b3
      rw [hq] at this
      exact absurd this (by simp)
  | cons x t =>
    refine Or.inr ⟨x, t, rfl, ?_⟩
    have hx : x ∈ qs A c := by rw [hq]; exact List.mem_cons_self
    rcases firstOf_spec (c := c) h5 hj8 with ⟨-, e⟩ | ⟨a, b1, b2, b3, b4⟩
    · exact absurd (gv2 x hx) (e _ (k3 x hx).1.2)
    · rw [b2]
      have ha := gv a b1 b3
      rw [hq] at ha
      rcases List.mem_cons.mp ha with e | e
      · exact e
      · have p := a2 c hc
        rw [hq] at p
        have lt := (List.pairwise_cons.mp p).1 _ e
        rw [ix_nI (by omega)] at lt
        have le := b4 (ix x) (k3 x hx).1.2 (gv2 x hx)
        rw [xa_lt] at lt
        rw [xa_le] at le
        omega
/-- taking the first job to hand -/
theorem RL_take (h : RL n j T A X) (hc : c < n) (h4 : cr A c 4 = -1) (h5 : cr A c 5 = 0) : RL n j T (f_Yd_takeFirst A c).2 (f_Mo_takesJob X c).2 := by
  have hn := h.1.1.1
  have hj8 := h.1.1.2.1
  obtain ⟨m, m8, hm⟩ := (h.1.2.2.2.2.1 c hc).1
  unfold f_Yd_takeFirst f_Mo_takesJob
  rcases first_eq h hc with ⟨e1, e2⟩ | ⟨x, t, e1, e2⟩
  · have z0 : cr A c 10 = 0 := by
      rw [qs_of hm] at e1
      have : m = 0 := by
        rcases m with _ | m
        · rfl
        · rw [List.range_succ_eq_map] at e1; simp at e1
      rw [hm, this]; rfl
    rw [e2, if_pos z0, if_pos (by decide : (-1 : Int32) < 0)]
    exact h
  · rw [e2]
    have hx : x ∈ qs A c := by rw [e1]; exact List.mem_cons_self
    obtain ⟨o1, o2, o3⟩ := (h.1.2.2.2.2.1 c hc).2.2.1 x hx
    have m0 : ¬ cr A c 10 = 0 := fun z => by
      have e3 := e1
      unfold qs at e3
      rw [z, show ix (0 : Int32) = 0 by decide] at e3
      simp at e3
    have w0 : wa A c 0 = x := by
      rw [qs_of hm] at e1
      rcases m with _ | m
      · simp at e1
      · rw [List.range_succ_eq_map] at e1
        simp at e1
        exact e1.1
    have nn : ¬ x < 0 := by
      rw [o1.1]; exact rp_nn (by have := o1.2; omega)
    have wi : ¬ f_Ct_within x 0 (sc A 6 - 1) = 0 := within_ok h.1 o1
    rw [if_neg m0, if_neg nn, w0, if_neg wi, ← rd_j h.2.1 o1.2 (by decide : 2 < 6), ← rd_s4 h.2.1]
    by_cases q1 : jb A (ix x) 2 ≤ sc A 4
    · rw [if_pos q1, if_pos q1]
      generalize hq : ix x = q at *
      have hqj : q < j := by rw [← hq]; exact o1.2
      have hok : x = nI q := by have := o1.1; rw [hq] at this; exact this
      obtain ⟨m', u1, u2, u3, u4, u5, u6, u7⟩ := unqueue_spec (x := x) hm m8
      generalize (f_Cr_unqueue A c x).2 = U at u2 u3 u4 u5 u6 u7
      have ucrn : ∀ c' k, (c' ≠ c ∨ k ≠ 10) → cr U c' k = cr A c' k := fun c' k z => by
        rw [u2]
        simp only [mm_up]
        rw [if_neg (by omega)]
      have ej0 : jb (ujb (ucr U c 4 x) q 3 2) q 0 = jb A q 0 := by
        rw [ujb_ne (by omega)]
        show jb U q 0 = _
        rw [u3]
      rw [ej0]
      have h2 : RL n j T (ucr (ucr (ujb (ucr U c 4 x) q 3 2) c 6 (jb A q 0)) c 5 1) (f_Mo_setCrane (f_Mo_setCrane (f_Mo_setJob X q 3 2).2 c 2 x).2 c 1 1).2 := by
        obtain ⟨hy, hv, hqq⟩ := h
        generalize hB : ucr (ucr (ujb (ucr U c 4 x) q 3 2) c 6 (jb A q 0)) c 5 1 = B
        have bcr : ∀ c' k, (c' ≠ c ∨ (k ≠ 4 ∧ k ≠ 5 ∧ k ≠ 6)) → cr B c' k = cr U c' k := fun c' k z => by
          rw [← hB]; exact (ucr_ne (by omega)).trans ((ucr_ne (by omega)).trans (ucr_ne (by omega)))
        have bj : ∀ i k, jb B i k = if i = q ∧ k = 3 then 2 else jb A i k := fun i k => by
          rw [← hB]
          show (if i = q ∧ k = 3 then 2 else jb U i k) = _
          rw [u3]
        have b10 : cr B c 10 = nI m' := by rw [bcr c 10 (by omega), u2, mm_up_at]
        have q7 : qs B c = (qs A c).filter (fun y => !(y == nI q)) := by
          rw [qs_congr (A := U) (bcr c 10 (by omega)) (by rw [← hB]; rfl), u7, hok]
        have q8 : ∀ c', c' ≠ c → qs B c' = qs A c' := fun c' e => qs_congr (by rw [bcr c' 10 (by omega), ucrn c' 10 (by omega)]) (by rw [← hB]; exact u6 c' e)
        refine ⟨?_, ?_, ?_⟩
        · refine yi_job (q := q) (s := 2) hy hc hqj (Or.inl o2) o3 (Or.inl rfl) (fun i k z => ?_) ?_ (fun k _ _ _ => ?_) (fun c' e => ?_) (fun c' k z => ?_) ?_ (other_ne hy hc o3) ?_ ⟨m', by omega, b10⟩ q7
          · rw [bj, if_neg (by omega)]
          · rw [bj, if_pos ⟨rfl, rfl⟩]
          · rw [← hB]
            show sc U k = _
            rw [u4]
          · rw [← hB]; exact u6 c' e
          · rw [bcr c' k (by omega), ucrn c' k (by omega)]
          · refine Or.inr ?_
            have e4 : cr B c 4 = x := by rw [← hB]; exact (ucr_ne (by omega)).trans ((ucr_ne (by omega)).trans ucr_at)
            rw [e4, hq, bj, if_pos ⟨rfl, rfl⟩, bj, if_neg (by omega), bj, if_neg (by omega)]
            exact ⟨o1, rfl, o3, Or.inl ⟨by rw [← hB]; exact ucr_at, by rw [← hB]; exact (ucr_ne (by omega)).trans ucr_at⟩⟩
          · have e9 : cntO B j = cntO A j := cntO_congr (fun i _ => by
              rw [bj]
              by_cases e : i = q
              · subst e
                rw [if_pos ⟨rfl, rfl⟩, o2]; decide
              · rw [if_neg (by omega)])
            rw [e9, ← hy.2.2.2.2.2, ← hB]
            show sc U 7 = _
            rw [u4]
        · rw [← hB, va_cr hc (by decide) (by decide), va_cr0 (by omega), va_jb hqj (by decide), va_cr hc (by decide) (by decide), vA_ext (A := A) (B := U) (fun c' k _ _ _ => ucrn c' k (by omega)) u3 (fun k _ => by rw [u4]) u5, hv]
          rw [vx_cr (k := 5) (by omega) hc hn, vx_cr (k := 4) (by omega) hc hn, vx_jb (by decide) hqj hn]
          rfl
        · obtain ⟨a1, a2, a3⟩ := hqq
          have e6 : ∀ i, f_Mo_ofJob (f_Mo_setCrane (f_Mo_setCrane (f_Mo_setJob X q 3 2).2 c 2 x).2 c 1 1).2 i 6 = f_Mo_ofJob X i 6 := fun i => by
            rw [oj_sc (by omega) (by omega), oj_sc (by omega) (by omega), oj_ne (by omega) (by omega) (by omega)]
          refine ⟨?_, fun c' hc' => ?_, fun i hi z => ?_⟩
          · rw [sc_row (by omega), sc_row (by omega), sj_row (by omega)]; exact a1
          · simp only [e6]
            by_cases e : c' = c
            · subst e; rw [q7]; exact (a2 c' hc').filter _
            · rw [q8 c' e]; exact a2 c' hc'
          · rw [e6]
            rw [bj] at z
            by_cases e : i = q
            · subst e
              rw [if_pos ⟨rfl, rfl⟩] at z
              exact absurd z (by decide)
            · rw [if_neg (by omega)] at z
              exact a3 i hi z
      have h3 := (RL_handle h2 hc (Or.inl ucr_at)).1
      have e6 := goal_eq h2.1 h2.2.1 hc (Or.inl ucr_at)
      rw [ucr_ne (by omega), ucr_at] at e6
      rw [oc_ne (k' := 0) (by omega) (by omega) (by omega), oc_at (k := 1) (by omega), if_pos (rfl : (1 : Int32) = 1), e6, rd_j h.2.1 hqj (by decide : 0 < 6)] at h3
      rw [oj_sc (by omega) (by omega), oj_ne (w' := 0) (by omega) (by omega) (by omega)]
      rw [← rd_j h.2.1 hqj (by decide : 0 < 6)] at h3 ⊢
      by_cases qz : f_Mo_ofCrane (f_Mo_setCrane (f_Mo_setJob X q 3 2).2 c 2 x).2 c 0 = jb A q 0
      · rw [if_pos qz] at h3 ⊢
        have e9 : (f_Mo_begins (f_Mo_setCrane (f_Mo_setCrane (f_Mo_setJob X q 3 2).2 c 2 x).2 c 1 1).2 c 2).2 = (f_Mo_begins (f_Mo_setCrane (f_Mo_setJob X q 3 2).2 c 2 x).2 c 2).2 := by
          rw [begins_eq, begins_eq, sc_row (by omega)]
          show mm_up (mm_up (mm_up _ 3 _ 1) 3 _ 2) 3 _ _ = mm_up (mm_up _ 3 _ 2) 3 _ _
          rw [mm_up_up]
        rw [e9] at h3
        exact h3
      · rw [if_neg qz] at h3 ⊢
        exact h3
    · rw [if_neg q1, if_neg q1]
      exact h
end OPS2
