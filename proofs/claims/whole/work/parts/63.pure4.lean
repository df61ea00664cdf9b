theorem mm_up_up {M : mm_M} {i k : Nat} {v w : Int32} : mm_up (mm_up M i k v) i k w = mm_up M i k w := by
  funext a b
  simp only [mm_up]
  by_cases h : a = i ∧ b = k
  · rw [if_pos h, if_pos h]
  · rw [if_neg h, if_neg h, if_neg h]
theorem ucr_ucr {A : ya} {c k : Nat} {v w : Int32} : ucr (ucr A c k v) c k w = ucr A c k w := by
  unfold ucr; rw [mm_up_up]
theorem vA_ext {n j : Nat} {A B : ya} (h1 : ∀ c k, c < n → k < 8 → k ≠ 6 → cr B c k = cr A c k) (h2 : jb B = jb A) (h3 : ∀ k, k < 7 → sc B k = sc A k) (h4 : se B = se A) : vA n j B = vA n j A := by
  refine yv_ext (fun c k => ?_) (fun c k => ?_) (fun k => ?_) (fun c k => ?_) (fun _ _ => rfl)
  · simp only [vA]
    by_cases h : c < n ∧ k < 8 ∧ k ≠ 6
    · rw [if_pos h, if_pos h, h1 c k h.1 h.2.1 h.2.2]
    · rw [if_neg h, if_neg h]
  · simp only [vA]; rw [h2]
  · simp only [vA]
    by_cases h : k < 7
    · rw [if_pos h, if_pos h, h3 k h]
    · rw [if_neg h, if_neg h]
  · simp only [vA]; rw [h4]
theorem oc_at {X : mm_M} {c k : Nat} {v : Int32} (hk : k < 10) : f_Mo_ofCrane (f_Mo_setCrane X c k v).2 c k = v := by
  rw [oc_sc hk hk, if_pos ⟨rfl, rfl⟩]
theorem oc_ne {X : mm_M} {c k c' k' : Nat} {v : Int32} (hk : k < 10) (hk' : k' < 10) (h : c' ≠ c ∨ k' ≠ k) : f_Mo_ofCrane (f_Mo_setCrane X c k v).2 c' k' = f_Mo_ofCrane X c' k' := by
  rw [oc_sc hk hk', if_neg (by omega)]
theorem oj_at {X : mm_M} {i w : Nat} {v : Int32} (hw : w < 7) : f_Mo_ofJob (f_Mo_setJob X i w v).2 i w = v := by
  rw [oj_sj hw hw, if_pos ⟨rfl, rfl⟩]
theorem oj_ne {X : mm_M} {i w i' w' : Nat} {v : Int32} (hw : w < 7) (hw' : w' < 7) (h : i' ≠ i ∨ w' ≠ w) : f_Mo_ofJob (f_Mo_setJob X i w v).2 i' w' = f_Mo_ofJob X i' w' := by
  rw [oj_sj hw hw', if_neg (by omega)]
section OPS
variable {n j T : Nat} {A : ya} {X : mm_M} {c : Nat}
theorem RL_n (h : RL n j T A X) : n ≤ 3 := h.1.1.1
theorem RL_se {k : Nat} {v : Int32} (h : RL n j T A X) (hc : c < n) (hk : k < 4) : RL n j T (use A c k v) (f_Mo_setCrane X c (4 + k) v).2 := by
  obtain ⟨hy, hv, hq⟩ := h
  refine ⟨?_, by rw [va_se hc hk, vx_se hk hc hy.1.1, hv], rlQ_same hq rfl rfl (fun _ => rfl) (sc_row (by omega)) (fun i => oj_sc (by have := hy.1.1; omega) (by omega))⟩
  exact yi_crane hy hc rfl (fun _ _ _ => rfl) rfl (fun _ _ _ => rfl) (hy.2.1 c hc).1 (hy.2.1 c hc).2.2 hy.2.2.1
theorem RL_place {p : Int32} (h : RL n j T A X) (hc : c < n) (h1 : (cr A c 1).toInt ≤ p.toInt) (h2 : p.toInt ≤ (cr A c 2).toInt) (h3 : 0 < c → (cr A (c - 1) 0).toInt + (sc A 1).toInt ≤ p.toInt) (h4 : c + 1 < n → p.toInt + (sc A 1).toInt ≤ (cr A (c + 1) 0).toInt) : RL n j T (ucr A c 0 p) (f_Mo_setCrane X c 0 p).2 := by
  obtain ⟨hy, hv, hq⟩ := h
  refine ⟨?_, by rw [va_cr hc (by decide) (by decide), vx_cr (k := 0) (by omega) hc hy.1.1, hv], rlQ_same hq rfl rfl (fun _ => ucr_ne (by omega)) (sc_row (by omega)) (fun i => oj_sc (by have := hy.1.1; omega) (by omega))⟩
  refine yi_crane hy hc rfl (fun _ _ _ => rfl) rfl (fun c' k hk => ucr_ne (by omega)) ?_ ?_ ?_
  · have := (hy.2.1 c hc).1
    unfold yiB at this ⊢
    rw [ucr_at, ucr_ne (by omega), ucr_ne (by omega)]
    exact ⟨this.1, h1, h2, this.2.2.2⟩
  · have := (hy.2.1 c hc).2.2
    unfold yiH at this ⊢
    rw [ucr_ne (by omega), ucr_ne (by omega), ucr_ne (by omega), ucr_ne (by omega)]
    exact this
  · intro c' hc'
    have := hy.2.2.1 c' hc'
    rw [ucr_cr, ucr_cr]
    show _ + (sc A 1).toInt ≤ _
    by_cases e : c' = c
    · subst e
      rw [if_pos ⟨rfl, rfl⟩, if_neg (by omega)]
      exact h4 hc'
    · rw [if_neg (by omega)]
      by_cases e2 : c' + 1 = c
      · rw [if_pos ⟨e2, rfl⟩]
        have := h3 (by omega)
        rw [show c - 1 = c' by omega] at this
        exact this
      · rw [if_neg (by omega)]; exact this
theorem RL_move {t : Int32} (h : RL n j T A X) (hc : c < n) (ht : (cr A c 1).toInt ≤ t.toInt ∧ t.toInt ≤ (cr A c 2).toInt) : RL n j T (f_Yd_moveToward A c t).2 (f_Mo_goes X c t).2 ∧ ∃ p, (f_Yd_moveToward A c t).2 = ucr A c 0 p ∧ f_Mo_goes X c t = (if p = cr A c 0 then 0 else 1, (f_Mo_setCrane X c 0 p).2) := by
  obtain ⟨p, a1, a2, a3, a4, a5, a6⟩ := mv_both h.1 h.2.1 hc ht
  refine ⟨?_, p, a1, a2⟩
  rw [a1, a2]
  exact RL_place h hc a3 a4 a5 a6
theorem hg_eq (h : vA n j A = vX n j X) (hc : c < n) : f_Mo_hasGoal X c = f_Cr_hasGoal A c := by
  unfold f_Mo_hasGoal f_Cr_hasGoal
  rw [rd_c5 h hc]
theorem hg_cases (hd : ¬ f_Cr_hasGoal A c = 0) : cr A c 5 = 1 ∨ cr A c 5 = 3 := by
  unfold f_Cr_hasGoal at hd
  by_cases h1 : cr A c 5 = 1
  · exact Or.inl h1
  · rw [if_neg h1] at hd
    by_cases h3 : cr A c 5 = 3
    · exact Or.inr h3
    · rw [if_neg h3] at hd; exact absurd rfl hd
theorem hg_of (hd : cr A c 5 = 1 ∨ cr A c 5 = 3) : ¬ f_Cr_hasGoal A c = 0 := by
  unfold f_Cr_hasGoal
  rcases hd with h | h
  · rw [if_pos h]; decide
  · rw [h]; decide
theorem hg_no (hd : cr A c 5 = 0 ∨ cr A c 5 = 2 ∨ cr A c 5 = 4) : f_Cr_hasGoal A c = 0 := by
  unfold f_Cr_hasGoal
  rcases hd with h | h | h <;> rw [h] <;> decide
theorem goal_eq (hy : yi n j A) (h : vA n j A = vX n j X) (hc : c < n) (hd : cr A c 5 = 1 ∨ cr A c 5 = 3) : f_Mo_goalOf X c = cr A c 6 := by
  have hH := (hy.2.1 c hc).2.2
  unfold f_Mo_goalOf
  rw [← rd_c5 h hc, ← rd_c4 h hc]
  rcases hH with ⟨h0, -⟩ | ⟨h1, -, -, h4⟩
  · rw [h0] at hd; exact absurd hd (by decide)
  · rw [← rd_j h h1.2 (by decide), ← rd_j h h1.2 (by decide)]
    rcases h4 with ⟨e, e2⟩ | ⟨e, e2⟩ | ⟨e, -⟩
    · rw [if_pos e, e2]
    · rw [if_neg (by rw [e]; decide), e2]
    · rcases e with e | e <;> rw [e] at hd <;> exact absurd hd (by decide)
/-- a goal lies in its crane's reach -/
theorem goal_in (hy : yi n j A) (hc : c < n) (hd : cr A c 5 = 1 ∨ cr A c 5 = 3) : (cr A c 1).toInt ≤ (cr A c 6).toInt ∧ (cr A c 6).toInt ≤ (cr A c 2).toInt := by
  rcases (hy.2.1 c hc).2.2 with ⟨h0, -⟩ | ⟨h1, h2, h3, h4⟩
  · rw [h0] at hd; exact absurd hd (by decide)
  · obtain ⟨c', k1, k2, k3, k4, k5, k6⟩ := (hy.2.2.2.1 _ h1.2).2 (Or.inr h2)
    have e : c' = c := by
      have hn := hy.1.1
      exact nI_inj (by omega) (by omega) (k2.symm.trans h3)
    subst e
    rcases h4 with ⟨e, e2⟩ | ⟨e, e2⟩ | ⟨e, -⟩
    · rw [e2]; exact ⟨k3, k4⟩
    · rw [e2]; exact ⟨k5, k6⟩
    · rcases e with e | e <;> rw [e] at hd <;> exact absurd hd (by decide)
theorem begins_eq {x : Int32} : (f_Mo_begins X c x).2 = (f_Mo_setCrane (f_Mo_setCrane X c 1 x).2 c 3 (X 0 4)).2 := by
  show (f_Mo_setCrane (f_Mo_setCrane X c 1 x).2 c 3 ((f_Mo_setCrane X c 1 x).2 0 4)).2 = _
  rw [sc_row (by omega)]
theorem RL_begins {x : Int32} (h : RL n j T A X) (hc : c < n) (hx : x = 2 ∨ x = 4) (hd : cr A c 5 = 1 ∨ cr A c 5 = 3) : RL n j T (ucr (ucr A c 5 x) c 7 (sc A 3)) (f_Mo_begins X c x).2 := by
  obtain ⟨hy, hv, hq⟩ := h
  have hn := hy.1.1
  have hlift := (hy.1.2.2.2.2.1 (by omega)).2.2
  rw [begins_eq]
  refine ⟨?_, ?_, rlQ_same hq rfl rfl (fun _ => (ucr_ne (by omega)).trans (ucr_ne (by omega))) ((sc_row (by omega)).trans (sc_row (by omega))) (fun i => (oj_sc (by omega) (by omega)).trans (oj_sc (by omega) (by omega)))⟩
  · refine yi_crane hy hc rfl (fun _ _ _ => rfl) rfl (fun c' k hk => (ucr_ne (by omega)).trans (ucr_ne (by omega))) ?_ ?_ ?_
    · have := (hy.2.1 c hc).1
      unfold yiB at this ⊢
      rw [ucr_ne (by omega), ucr_ne (by omega), ucr_ne (by omega), ucr_ne (by omega), ucr_ne (by omega), ucr_ne (by omega)]
      exact this
    · rcases (hy.2.1 c hc).2.2 with ⟨h0, -⟩ | ⟨h1, h2, h3, h4⟩
      · rw [h0] at hd; exact absurd hd (by decide)
      · refine Or.inr ?_
        rw [ucr_ne (by omega), ucr_ne (by omega), ucr_ne (by omega), ucr_at, ucr_at, ucr_ne (by omega), ucr_ne (by omega)]
        exact ⟨h1, h2, h3, Or.inr (Or.inr ⟨hx, hlift⟩)⟩
    · intro c' hc'
      have := hy.2.2.1 c' hc'
      rw [ucr_ne (by omega), ucr_ne (by omega), ucr_ne (by omega), ucr_ne (by omega)]
      exact this
  · rw [va_cr hc (by decide) (by decide), va_cr hc (by decide) (by decide), vx_cr (k := 7) (by omega) hc hn, vx_cr (k := 5) (by omega) hc hn, hv, rd_s3 hv]
/-- at the goal: both begin -/
theorem RL_handle (h : RL n j T A X) (hc : c < n) (hd : cr A c 5 = 1 ∨ cr A c 5 = 3) : RL n j T (f_Yd_handleIfThere A c).2 (if f_Mo_ofCrane X c 0 = f_Mo_goalOf X c then (f_Mo_begins X c (if f_Mo_ofCrane X c 1 = 1 then 2 else 4)).2 else X) ∧ cr (f_Yd_handleIfThere A c).2 c 0 = cr A c 0 := by
  rw [goal_eq h.1 h.2.1 hc hd, ← rd_c0 h.2.1 hc, ← rd_c5 h.2.1 hc]
  unfold f_Yd_handleIfThere
  by_cases h1 : cr A c 0 = cr A c 6
  · rw [if_pos h1, if_pos h1]
    by_cases h2 : cr A c 5 = 1
    · rw [if_pos h2, if_pos h2]
      exact ⟨RL_begins h hc (Or.inl rfl) hd, (ucr_ne (by omega)).trans (ucr_ne (by omega))⟩
    · rw [if_neg h2, if_neg h2]
      exact ⟨RL_begins h hc (Or.inr rfl) hd, (ucr_ne (by omega)).trans (ucr_ne (by omega))⟩
  · rw [if_neg h1, if_neg h1]
    exact ⟨h, rfl⟩
theorem less_eq {v : Int32} (hv : 1 ≤ v.toInt ∧ v.toInt ≤ 30) : (v - 1 = 0 ↔ v - 1 ≤ 0) ∧ (¬ v - 1 = 0 → 1 ≤ (v - 1).toInt ∧ (v - 1).toInt ≤ 30) := by
  have e1 : (1 : Int32).toInt = 1 := by decide
  have e0 : (0 : Int32).toInt = 0 := by decide
  have e := xa_sub (x := v) (y := 1) (by omega) (by omega)
  rw [xa_eq, xa_le, e, e1, e0]
  omega
theorem RL_left {v : Int32} (h : RL n j T A X) (hc : c < n) (hd : cr A c 5 = 2 ∨ cr A c 5 = 4) (hv : 1 ≤ v.toInt ∧ v.toInt ≤ 30) : RL n j T (ucr A c 7 v) (f_Mo_setCrane X c 3 v).2 := by
  obtain ⟨hy, hv', hq⟩ := h
  have hn := hy.1.1
  refine ⟨?_, by rw [va_cr hc (by decide) (by decide), vx_cr (k := 7) (by omega) hc hn, hv'], rlQ_same hq rfl rfl (fun _ => ucr_ne (by omega)) (sc_row (by omega)) (fun i => oj_sc (by omega) (by omega))⟩
  refine yi_crane hy hc rfl (fun _ _ _ => rfl) rfl (fun c' k hk => ucr_ne (by omega)) ?_ ?_ ?_
  · have := (hy.2.1 c hc).1
    unfold yiB at this ⊢
    rw [ucr_ne (by omega), ucr_ne (by omega), ucr_ne (by omega)]
    exact this
  · rcases (hy.2.1 c hc).2.2 with ⟨h0, -⟩ | ⟨h1, h2, h3, h4⟩
    · rw [h0] at hd; exact absurd hd (by decide)
    · refine Or.inr ?_
      rw [ucr_ne (by omega), ucr_ne (by omega), ucr_at]
      exact ⟨h1, h2, h3, Or.inr (Or.inr ⟨hd, hv⟩)⟩
  · intro c' hc'
    have := hy.2.2.1 c' hc'
    rw [ucr_ne (by omega), ucr_ne (by omega)]
    exact this
theorem at_ok (hy : yi n j A) (hc : c < n) (hd : cr A c 5 ≠ 0) : okx j (cr A c 4) ∧ jb A (ix (cr A c 4)) 3 = 2 ∧ jb A (ix (cr A c 4)) 4 = nI c := by
  rcases (hy.2.1 c hc).2.2 with ⟨h0, -⟩ | ⟨h1, h2, h3, h4⟩
  · exact absurd h0 hd
  · exact ⟨h1, h2, h3⟩
theorem left_ok (hy : yi n j A) (hc : c < n) (hd : cr A c 5 = 2 ∨ cr A c 5 = 4) : 1 ≤ (cr A c 7).toInt ∧ (cr A c 7).toInt ≤ 30 := by
  rcases (hy.2.1 c hc).2.2 with ⟨h0, -⟩ | ⟨h1, h2, h3, h4⟩
  · rw [h0] at hd; exact absurd hd (by decide)
  · rcases h4 with ⟨e, -⟩ | ⟨e, -⟩ | ⟨-, e⟩
    · rw [e] at hd; exact absurd hd (by decide)
    · rw [e] at hd; exact absurd hd (by decide)
    · exact e
/-- a job's number is within the jobs, and the crane's 'none' isn't -/
theorem within_ok {x : Int32} (h : yi n j A) (ho : okx j x) : ¬ f_Ct_within x 0 (sc A 6 - 1) = 0 := by
  obtain ⟨e, lt⟩ := ho
  have hj8 := h.1.2.1
  obtain ⟨k, rfl⟩ : ∃ k, j = k + 1 := ⟨j - 1, by omega⟩
  have h6 : sc A 6 = nI (k + 1) := h.1.2.2.2.1
  rw [h6, nI_pred]
  have q1 : ¬ x < 0 := by rw [e]; exact rp_nn (by omega)
  have q2 : ¬ nI k < x := Int32.not_lt.mpr (by rw [e]; exact nI_le (by omega) (by omega))
  unfold f_Ct_within
  rw [if_neg q1, if_neg q2]
  decide
theorem within_no {x e : Int32} (hx : x = -1) : f_Ct_within x 0 e = 0 := by
  unfold f_Ct_within
  rw [if_pos (by rw [hx]; decide)]
/-- a second of lifting -/
theorem RL_lift (h : RL n j T A X) (hc : c < n) (hd : cr A c 5 = 2) : RL n j T (f_Yd_liftOn A c (ix (cr A c 4))).2 (f_Mo_lessToGo X c).2 := by
  have hn := h.1.1.1
  have hl := left_ok h.1 hc (Or.inl hd)
  obtain ⟨l1, l2⟩ := less_eq hl
  have r7 := rd_c7 h.2.1 hc
  have r5 := rd_c5 h.2.1 hc
  have r4 := rd_c4 h.2.1 hc
  have r0 := rd_c0 h.2.1 hc
  obtain ⟨o1, o2, o3⟩ := at_ok h.1 hc (by rw [hd]; decide)
  unfold f_Yd_liftOn f_Mo_lessToGo
  rw [ucr_at, oc_at (by omega), ← r7]
  by_cases h1 : cr A c 7 - 1 = 0
  · rw [if_pos h1, if_pos (l1.mp h1), oc_ne (k' := 1) (by omega) (by omega) (by omega), ← r5, if_pos hd, oc_ne (k' := 0) (by omega) (by omega) (by omega), oj_sc (by omega) (by omega), ← r4]
    -- with the load under way
    have h2 : RL n j T (ucr (ucr (ucr A c 7 (cr A c 7 - 1)) c 6 (jb A (ix (cr A c 4)) 1)) c 5 3) (f_Mo_setCrane (f_Mo_setCrane X c 3 (cr A c 7 - 1)).2 c 1 3).2 := by
      obtain ⟨hy, hv, hq⟩ := h
      refine ⟨?_, ?_, rlQ_same hq rfl rfl (fun _ => (ucr_ne (by omega)).trans ((ucr_ne (by omega)).trans (ucr_ne (by omega)))) ((sc_row (by omega)).trans (sc_row (by omega))) (fun i => (oj_sc (by omega) (by omega)).trans (oj_sc (by omega) (by omega)))⟩
      · refine yi_crane hy hc rfl (fun _ _ _ => rfl) rfl (fun c' k hk => (ucr_ne (by omega)).trans ((ucr_ne (by omega)).trans (ucr_ne (by omega)))) ?_ ?_ ?_
        · have := (hy.2.1 c hc).1
          unfold yiB at this ⊢
          rw [ucr_ne (by omega), ucr_ne (by omega), ucr_ne (by omega), ucr_ne (by omega), ucr_ne (by omega), ucr_ne (by omega), ucr_ne (by omega), ucr_ne (by omega), ucr_ne (by omega)]
          exact this
        · refine Or.inr ?_
          have e4 : cr (ucr (ucr (ucr A c 7 (cr A c 7 - 1)) c 6 (jb A (ix (cr A c 4)) 1)) c 5 3) c 4 = cr A c 4 := (ucr_ne (by omega)).trans ((ucr_ne (by omega)).trans (ucr_ne (by omega)))
          rw [e4, ucr_at, ucr_ne (by omega), ucr_at]
          exact ⟨o1, o2, o3, Or.inr (Or.inl ⟨rfl, rfl⟩)⟩
        · intro c' hc'
          have := hy.2.2.1 c' hc'
          rw [ucr_ne (by omega), ucr_ne (by omega), ucr_ne (by omega), ucr_ne (by omega), ucr_ne (by omega), ucr_ne (by omega)]
          exact this
      · rw [va_cr hc (by decide) (by decide), va_cr0 (by omega), va_cr hc (by decide) (by decide), vx_cr (k := 5) (by omega) hc hn, vx_cr (k := 7) (by omega) hc hn, hv]
    have h3 := (RL_handle h2 hc (Or.inr ucr_at)).1
    have e6 := goal_eq h2.1 h2.2.1 hc (Or.inr ucr_at)
    rw [ucr_ne (by omega), ucr_at] at e6
    rw [oc_ne (k' := 0) (by omega) (by omega) (by omega), oc_ne (k' := 0) (by omega) (by omega) (by omega), oc_at (k := 1) (by omega), if_neg (by decide : ¬ (3 : Int32) = 1), e6] at h3
    have e7 : jb A (ix (cr A c 4)) 1 = f_Mo_ofJob X (ix (cr A c 4)) 1 := rd_j h.2.1 o1.2 (by decide)
    show RL n j T (f_Yd_handleIfThere (ucr (ucr (ucr A c 7 (cr A c 7 - 1)) c 6 (jb A (ix (cr A c 4)) 1)) c 5 3) c).2 _
    rw [e7] at h3 ⊢
    by_cases q : f_Mo_ofCrane X c 0 = f_Mo_ofJob X (ix (cr A c 4)) 1
    · rw [if_pos q] at h3 ⊢
      have e9 : (f_Mo_begins (f_Mo_setCrane (f_Mo_setCrane X c 3 (cr A c 7 - 1)).2 c 1 3).2 c 4).2 = (f_Mo_begins (f_Mo_setCrane X c 3 (cr A c 7 - 1)).2 c 4).2 := by
        rw [begins_eq, begins_eq, sc_row (by omega)]
        show mm_up (mm_up (mm_up _ 3 _ 3) 3 _ 4) 3 _ _ = mm_up (mm_up _ 3 _ 4) 3 _ _
        rw [mm_up_up]
      rw [e9] at h3
      exact h3
    · rw [if_neg q] at h3 ⊢
      exact h3
  · rw [if_neg h1, if_neg (fun z => h1 (l1.mpr z))]
    exact RL_left h hc (Or.inl hd) (l2 h1)
end OPS
