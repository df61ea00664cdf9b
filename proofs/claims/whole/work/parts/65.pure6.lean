/-! ONE SECOND OF ONE CRANE -/
def f_sec (A : ya) (c : Nat) : Int32 × ya := (if (cr A c 5) = 1 then (if (cr ((f_Yd_handleIfThere ((f_Yd_moveToward A c (cr A c 6)).2) c).2) c 0) = (cr A c 0) then (1, (f_Yd_handleIfThere ((f_Yd_moveToward A c (cr A c 6)).2) c).2) else (0, (f_Yd_handleIfThere ((f_Yd_moveToward A c (cr A c 6)).2) c).2)) else (if (cr A c 5) = 2 then (0, (f_Yd_liftOn A c (ix (cr A c 4))).2) else (if (cr A c 5) = 3 then (if (cr ((f_Yd_handleIfThere ((f_Yd_moveToward A c (cr A c 6)).2) c).2) c 0) = (cr A c 0) then (1, (f_Yd_handleIfThere ((f_Yd_moveToward A c (cr A c 6)).2) c).2) else (0, (f_Yd_handleIfThere ((f_Yd_moveToward A c (cr A c 6)).2) c).2)) else (if (cr A c 5) = 4 then (0, (f_Yd_setOn A c (ix (cr A c 4))).2) else (2, (f_Yd_moveToward A c (f_Yd_placeOutOfTheWay A c)).2)))))
/-- the same second as the class asks for it: first whether the crane has a job at hand -/
def f_sc2 (A : ya) (c : Nat) : Int32 × ya := (if (f_Ct_within (cr A c 4) 0 ((sc A 6) - 1)) = 0 then (2, (f_Yd_moveToward A c (f_Yd_placeOutOfTheWay A c)).2) else (if (cr A c 5) = 2 then (0, (f_Yd_liftOn A c (ix (cr A c 4))).2) else (if (cr A c 5) = 4 then (0, (f_Yd_setOn A c (ix (cr A c 4))).2) else (if (cr ((f_Yd_handleIfThere ((f_Yd_moveToward A c (cr A c 6)).2) c).2) c 0) = (cr A c 0) then (1, (f_Yd_handleIfThere ((f_Yd_moveToward A c (cr A c 6)).2) c).2) else (0, (f_Yd_handleIfThere ((f_Yd_moveToward A c (cr A c 6)).2) c).2)))))
theorem pso_eq0 {A : ya} {c : Nat} : f_Yd_passSecondOf A c = if cr A c 3 = 0 then (if cr A c 4 = (-1) then f_sc2 (f_Yd_takeFirst A c).2 c else f_sc2 A c) else (3, A) := rfl
theorem sc2_eq {n j c : Nat} {A : ya} (h : yi n j A) (hc : c < n) : f_sc2 A c = f_sec A c := by
  unfold f_sc2
  rcases (h.2.1 c hc).2.2 with ⟨z5, z4⟩ | ⟨o1, -, -, z⟩
  · have hR : f_sec A c = (2, (f_Yd_moveToward A c (f_Yd_placeOutOfTheWay A c)).2) := by
      unfold f_sec
      rw [if_neg (by rw [z5]; decide), if_neg (by rw [z5]; decide), if_neg (by rw [z5]; decide), if_neg (by rw [z5]; decide)]
    rw [if_pos (within_no z4), hR]
  · rw [if_neg (within_ok h o1)]
    have go : (cr A c 5 = 1 ∨ cr A c 5 = 3) → f_sec A c = if (cr ((f_Yd_handleIfThere ((f_Yd_moveToward A c (cr A c 6)).2) c).2) c 0) = (cr A c 0) then (1, (f_Yd_handleIfThere ((f_Yd_moveToward A c (cr A c 6)).2) c).2) else (0, (f_Yd_handleIfThere ((f_Yd_moveToward A c (cr A c 6)).2) c).2) := by
      intro d
      unfold f_sec
      rcases d with d | d
      · rw [if_pos d]
      · have a1 : ¬ cr A c 5 = 1 := by rw [d]; decide
        have a2 : ¬ cr A c 5 = 2 := by rw [d]; decide
        rw [if_neg a1, if_neg a2, if_pos d]
    rcases z with ⟨z, -⟩ | ⟨z, -⟩ | ⟨z | z, -⟩
    · have a2 : ¬ cr A c 5 = 2 := by rw [z]; decide
      have a4 : ¬ cr A c 5 = 4 := by rw [z]; decide
      rw [go (Or.inl z), if_neg a2, if_neg a4]
    · have a2 : ¬ cr A c 5 = 2 := by rw [z]; decide
      have a4 : ¬ cr A c 5 = 4 := by rw [z]; decide
      rw [go (Or.inr z), if_neg a2, if_neg a4]
    · have hR : f_sec A c = (0, (f_Yd_liftOn A c (ix (cr A c 4))).2) := by
        have a1 : ¬ cr A c 5 = 1 := by rw [z]; decide
        unfold f_sec
        rw [if_neg a1, if_pos z]
      rw [if_pos z, hR]
    · have a2 : ¬ cr A c 5 = 2 := by rw [z]; decide
      have hR : f_sec A c = (0, (f_Yd_setOn A c (ix (cr A c 4))).2) := by
        have a1 : ¬ cr A c 5 = 1 := by rw [z]; decide
        have a3 : ¬ cr A c 5 = 3 := by rw [z]; decide
        unfold f_sec
        rw [if_neg a1, if_neg a2, if_neg a3, if_pos z]
      rw [if_neg a2, if_pos z, hR]
theorem pso_eq {n j c : Nat} {A : ya} (h : yi n j A) (hc : c < n) (hT : cr A c 4 = -1 → yi n j (f_Yd_takeFirst A c).2) : f_Yd_passSecondOf A c = if cr A c 3 = 0 then (if cr A c 4 = (-1) then f_sec (f_Yd_takeFirst A c).2 c else f_sec A c) else (3, A) := by
  rw [pso_eq0, sc2_eq h hc]
  by_cases h4 : cr A c 4 = -1
  · rw [sc2_eq (hT h4) hc]
  · rw [if_neg h4, if_neg h4]
/-- the invariant stays when the first job is taken to hand -/
theorem take_yi {n j T c : Nat} {A : ya} {X : mm_M} (h : RL n j T A X) (hc : c < n) (h4 : cr A c 4 = -1) : yi n j (f_Yd_takeFirst A c).2 := by
  have h5 : cr A c 5 = 0 := by
    rcases (h.1.2.1 c hc).2.2 with k | k
    · exact k.1
    · have := k.1
      rw [h4] at this
      exact absurd this.1 (by decide)
  exact (RL_take h hc h4 h5).1
def tk2 (P : Int32 × ya) (c : Nat) : ya := use P.2 c (ix P.1) (se P.2 c (ix P.1) + 1)
theorem tick_eq {A : ya} {c : Nat} : f_tick A c = tk2 (f_Yd_passSecondOf A c) c := rfl
def f_po2 (A : ya) (c : Nat) : Int32 := (if (sc (A) 0) ≤ ((nI c) + 1) then cr (A) c 0 else (if (f_Cr_hasGoal (A) (c + 1)) = 0 then cr (A) c 0 else (if ((cr (A) c 0) + (sc (A) 1)) ≤ (cr (A) (c + 1) 6) then cr (A) c 0 else if ((cr (A) (c + 1) 6) - (sc (A) 1)) < (cr (A) c 1) then (cr (A) c 1) else ((cr (A) (c + 1) 6) - (sc (A) 1)))))
theorem po_eq {A : ya} {c : Nat} : f_Yd_placeOutOfTheWay A c = if (nI c) ≤ 0 then f_po2 A c else if (f_Cr_hasGoal (A) (c - 1)) = 0 then f_po2 A c else if (cr (A) (c - 1) 6) ≤ ((cr (A) c 0) - (sc (A) 1)) then f_po2 A c else if (cr (A) c 2) < ((cr (A) (c - 1) 6) + (sc (A) 1)) then (cr (A) c 2) else ((cr (A) (c - 1) 6) + (sc (A) 1)) := rfl
theorem move_self {A : ya} {c : Nat} : (f_Yd_moveToward A c (cr A c 0)).2 = A := by
  unfold f_Yd_moveToward
  rw [if_pos (Int32.le_refl _), if_pos (Int32.le_refl _)]
theorem move_use {A : ya} {c c' k : Nat} {t v : Int32} : (f_Yd_moveToward (use A c k v) c' t).2 = use (f_Yd_moveToward A c' t).2 c k v := by
  unfold f_Yd_moveToward
  show (if t ≤ cr A c' 0 then (if cr A c' 0 ≤ t then _ else _) else _ : Int32 × ya).2 = _
  by_cases h1 : t ≤ cr A c' 0
  · rw [if_pos h1, if_pos h1]
    by_cases h2 : cr A c' 0 ≤ t
    · rw [if_pos h2, if_pos h2]
    · rw [if_neg h2, if_neg h2]; rfl
  · rw [if_neg h1, if_neg h1]; rfl
theorem move_se {A : ya} {c : Nat} {t : Int32} : se (f_Yd_moveToward A c t).2 = se A := by
  unfold f_Yd_moveToward
  by_cases h1 : t ≤ cr A c 0
  · rw [if_pos h1]
    by_cases h2 : cr A c 0 ≤ t
    · rw [if_pos h2]
    · rw [if_neg h2]; rfl
  · rw [if_neg h1]; rfl
section SEC
variable {n j T : Nat} {A : ya} {X : mm_M} {c : Nat}
theorem last_iff (h : yi n j A) (hc : c < n) : ((sc A 0) ≤ ((nI c) + 1)) ↔ ¬ c + 1 < n := by
  have hn := h.1.1
  rw [h.1.2.2.1, nI_1]
  constructor
  · intro z
    have := (nI_leI (by omega) (by omega)).mp z
    omega
  · intro z; exact nI_le (by omega) (by omega)
theorem first_iff (hc : c < 3) : (nI c ≤ 0) ↔ ¬ 0 < c := by
  constructor
  · intro z
    have := (nI_leI (b := 0) (by omega) (by omega)).mp z
    omega
  · intro z; exact nI_le (b := 0) (by omega) (by omega)
theorem RL_gw102 (h : RL n j T A X) (hc : c < n) : RL n j T (f_Yd_moveToward A c (f_po2 A c)).2 (f_gw102 X c (cr A c 0)).2 := by
  have hn := h.1.1.1
  unfold f_po2 f_gw102
  rw [← rd_s0 h.2.1]
  by_cases h1 : sc A 0 ≤ nI c + 1
  · rw [if_pos h1, if_pos h1, move_self]; exact h
  · rw [if_neg h1, if_neg h1]
    have hc1 : c + 1 < n := Classical.byContradiction fun z => h1 ((last_iff h.1 hc).mpr z)
    rw [hg_eq h.2.1 hc1]
    by_cases h2 : f_Cr_hasGoal A (c + 1) = 0
    · rw [if_pos h2, if_pos h2, move_self]; exact h
    · rw [if_neg h2, if_neg h2, goal_eq h.1 h.2.1 hc1 (hg_cases h2), ← rd_s1 h.2.1]
      by_cases h3 : cr A c 0 + sc A 1 ≤ cr A (c + 1) 6
      · rw [if_pos h3, if_pos h3, move_self]; exact h
      · rw [if_neg h3, if_neg h3, ← rd_c1 h.2.1 hc]
        obtain ⟨b1, b2, b3, b4⟩ := (h.1.2.1 c hc).1
        obtain ⟨d1, d2, d3, d4⟩ := (h.1.2.1 (c + 1) hc1).1
        obtain ⟨g1, g2⟩ := goal_in h.1 hc1 (hg_cases h2)
        obtain ⟨⟨p1, p2⟩, -, -⟩ := h.1.1.2.2.2.2.1 (by omega)
        have e1 := xa_add (x := cr A c 0) (y := sc A 1) (by omega) (by omega)
        have e2 := xa_sub (x := cr A (c + 1) 6) (y := sc A 1) (by omega) (by omega)
        rw [xa_le, e1] at h3
        have key : ∀ w : Int32, (cr A c 1).toInt ≤ w.toInt → w.toInt ≤ (cr A c 0).toInt → RL n j T (f_Yd_moveToward A c w).2 (f_gw172 X c (cr A c 0) w).2 := by
          intro w w1 w2
          unfold f_gw172
          by_cases q : cr A c 0 ≤ w
          · rw [if_pos q]
            have : w = cr A c 0 := by rw [xa_eq]; rw [xa_le] at q; omega
            rw [this, move_self]; exact h
          · rw [if_neg q]
            exact (RL_move h hc ⟨w1, by omega⟩).1
        by_cases h4 : cr A (c + 1) 6 - sc A 1 < cr A c 1
        · rw [if_pos h4, if_neg (Int32.not_le.mpr h4)]
          exact key _ (Int.le_refl _) b2
        · rw [if_neg h4, if_pos (Int32.not_lt.mp h4)]
          rw [xa_lt, e2] at h4
          exact key _ (by omega) (by omega)
theorem RL_idle (h : RL n j T A X) (hc : c < n) : RL n j T (use (f_Yd_moveToward A c (f_Yd_placeOutOfTheWay A c)).2 c 2 (se A c 2 + 1)) (f_Mo_givesWay X c).2 := by
  have hn := h.1.1.1
  rw [← move_use]
  have e6 := rd_e h.2.1 hc (show 2 < 4 by decide)
  have h1 : RL n j T (use A c 2 (se A c 2 + 1)) (f_Mo_setCrane X c 6 (f_Mo_ofCrane X c 6 + 1)).2 := by
    have := RL_se (v := se A c 2 + 1) h hc (show 2 < 4 by decide)
    rw [e6] at this ⊢
    exact this
  have r0 := rd_c0 h.2.1 hc
  unfold f_Mo_givesWay
  have ep : f_Yd_placeOutOfTheWay A c = f_Yd_placeOutOfTheWay (use A c 2 (se A c 2 + 1)) c := rfl
  have ec : f_Mo_ofCrane X c 0 = cr (use A c 2 (se A c 2 + 1)) c 0 := r0.symm
  rw [ep, ec]
  generalize use A c 2 (se A c 2 + 1) = B at h1
  generalize (f_Mo_setCrane X c 6 (f_Mo_ofCrane X c 6 + 1)).2 = Y at h1
  clear h e6 r0 ep ec
  rw [po_eq]
  by_cases q1 : nI c ≤ 0
  · rw [if_pos q1, if_pos q1]; exact RL_gw102 h1 hc
  · rw [if_neg q1, if_neg q1]
    have c0 : 0 < c := Classical.byContradiction fun z => q1 ((first_iff (by omega)).mpr z)
    have hc1 : c - 1 < n := by omega
    rw [hg_eq h1.2.1 hc1]
    by_cases q2 : f_Cr_hasGoal B (c - 1) = 0
    · rw [if_pos q2, if_pos q2]; exact RL_gw102 h1 hc
    · rw [if_neg q2, if_neg q2, goal_eq h1.1 h1.2.1 hc1 (hg_cases q2), ← rd_s1 h1.2.1]
      by_cases q3 : cr B (c - 1) 6 ≤ cr B c 0 - sc B 1
      · rw [if_pos q3, if_pos q3]; exact RL_gw102 h1 hc
      · rw [if_neg q3, if_neg q3, ← rd_c2 h1.2.1 hc]
        obtain ⟨b1, b2, b3, b4⟩ := (h1.1.2.1 c hc).1
        obtain ⟨d1, d2, d3, d4⟩ := (h1.1.2.1 (c - 1) hc1).1
        obtain ⟨g1, g2⟩ := goal_in h1.1 hc1 (hg_cases q2)
        obtain ⟨⟨p1, p2⟩, -, -⟩ := h1.1.1.2.2.2.2.1 (by omega)
        have e1 := xa_sub (x := cr B c 0) (y := sc B 1) (by omega) (by omega)
        have e2 := xa_add (x := cr B (c - 1) 6) (y := sc B 1) (by omega) (by omega)
        rw [xa_le, e1] at q3
        have key : ∀ w : Int32, (cr B c 0).toInt ≤ w.toInt → w.toInt ≤ (cr B c 2).toInt → RL n j T (f_Yd_moveToward B c w).2 (f_gw87 Y c (cr B c 0) w).2 := by
          intro w w1 w2
          unfold f_gw87
          by_cases q : w ≤ cr B c 0
          · rw [if_pos q]
            have : w = cr B c 0 := by rw [xa_eq]; rw [xa_le] at q; omega
            rw [this, move_self]; exact h1
          · rw [if_neg q]
            exact (RL_move h1 hc ⟨by omega, w2⟩).1
        by_cases q4 : cr B c 2 < cr B (c - 1) 6 + sc B 1
        · rw [if_pos q4, if_neg (Int32.not_le.mpr q4)]
          exact key _ b3 (Int.le_refl _)
        · rw [if_neg q4, if_pos (Int32.not_lt.mp q4)]
          rw [xa_lt, e2] at q4
          exact key _ (by omega) (by omega)
theorem RL_se120 {w : Int32} (h : RL n j T A X) (hc : c < n) : RL n j T (tk2 (if w = 0 then 1 else 0, A) c) (f_se120 X c w).2 := by
  unfold f_se120 tk2
  have e5 := rd_e h.2.1 hc (show 1 < 4 by decide)
  have e4 := rd_e h.2.1 hc (show 0 < 4 by decide)
  by_cases q : w = 0
  · rw [if_pos q, if_pos q, if_pos q]
    have := RL_se (v := se A c 1 + 1) h hc (show 1 < 4 by decide)
    rw [e5] at this
    have ei : ix (1 : Int32) = 1 := by decide
    show RL n j T (use A c (ix 1) (se A c (ix 1) + 1)) _
    rw [ei, e5]; exact this
  · rw [if_neg q, if_neg q, if_neg q]
    have := RL_se (v := se A c 0 + 1) h hc (show 0 < 4 by decide)
    rw [e4] at this
    have ei : ix (0 : Int32) = 0 := by decide
    show RL n j T (use A c (ix 0) (se A c (ix 0) + 1)) _
    rw [ei, e4]; exact this
theorem RL_sec (h : RL n j T A X) (hc : c < n) : RL n j T (tk2 (f_sec A c) c) (f_se42 X c).2 := by
  have hn := h.1.1.1
  have hj8 := h.1.1.2.1
  have r4 := rd_c4 h.2.1 hc
  have go : (cr A c 5 = 1 ∨ cr A c 5 = 3) → RL n j T (tk2 (if cr (f_Yd_handleIfThere (f_Yd_moveToward A c (cr A c 6)).2 c).2 c 0 = cr A c 0 then (1, (f_Yd_handleIfThere (f_Yd_moveToward A c (cr A c 6)).2 c).2) else (0, (f_Yd_handleIfThere (f_Yd_moveToward A c (cr A c 6)).2 c).2)) c) (f_se42 X c).2 := by
    intro hd
    obtain ⟨o1, o2, o3⟩ := at_ok h.1 hc (by rcases hd with z | z <;> rw [z] <;> decide)
    obtain ⟨p, m1, m2⟩ := (RL_move h hc (goal_in h.1 hc hd)).2
    have m0 := (RL_move h hc (goal_in h.1 hc hd)).1
    unfold f_se42
    have z0 : 0 ≤ cr A c 4 := by rw [o1.1]; exact Int32.not_lt.mp (rp_nn (by have := o1.2; omega))
    rw [← r4, if_pos z0, hg_eq h.2.1 hc, if_neg (hg_of hd), goal_eq h.1 h.2.1 hc hd]
    rw [m1] at m0 ⊢
    rw [m2] at m0 ⊢
    simp only at m0 ⊢
    have hd2 : cr (ucr A c 0 p) c 5 = 1 ∨ cr (ucr A c 0 p) c 5 = 3 := by rw [ucr_ne (by omega)]; exact hd
    obtain ⟨m3, m4⟩ := RL_handle m0 hc hd2
    rw [ucr_at] at m4
    rw [m4]
    generalize (f_Yd_handleIfThere (ucr A c 0 p) c).2 = B at m3
    have e1 : (if p = cr A c 0 then ((1 : Int32), B) else (0, B)) = (if (if p = cr A c 0 then (0 : Int32) else 1) = 0 then 1 else 0, B) := by
      by_cases q : p = cr A c 0
      · rw [if_pos q, if_pos q, if_pos rfl]
      · rw [if_neg q, if_neg q, if_neg (by decide)]
    rw [e1]
    generalize (if p = cr A c 0 then (0 : Int32) else 1) = w
    have e2 := RL_se120 (w := w) m3 hc
    by_cases q1 : f_Mo_ofCrane (f_Mo_setCrane X c 0 p).2 c 0 = f_Mo_goalOf (f_Mo_setCrane X c 0 p).2 c
    · rw [if_pos q1] at e2 ⊢
      by_cases q2 : f_Mo_ofCrane (f_Mo_setCrane X c 0 p).2 c 1 = 1
      · rw [if_pos q2] at e2 ⊢; exact e2
      · rw [if_neg q2] at e2 ⊢; exact e2
    · rw [if_neg q1] at e2 ⊢; exact e2
  have less : (cr A c 5 = 2 ∨ cr A c 5 = 4) → ∀ B, RL n j T B (f_Mo_lessToGo X c).2 → RL n j T (tk2 (0, B) c) (f_se42 X c).2 := by
    intro hd B hB
    obtain ⟨o1, o2, o3⟩ := at_ok h.1 hc (by rcases hd with z | z <;> rw [z] <;> decide)
    unfold f_se42
    have z0 : 0 ≤ cr A c 4 := by rw [o1.1]; exact Int32.not_lt.mp (rp_nn (by have := o1.2; omega))
    rw [← r4, if_pos z0, hg_eq h.2.1 hc, if_pos (hg_no (Or.inr hd))]
    have e2 := RL_se120 (w := 1) hB hc
    rw [if_neg (by decide)] at e2
    exact e2
  unfold f_sec
  by_cases d1 : cr A c 5 = 1
  · rw [if_pos d1]; exact go (Or.inl d1)
  · rw [if_neg d1]
    by_cases d2 : cr A c 5 = 2
    · rw [if_pos d2]; exact less (Or.inl d2) _ (RL_lift h hc d2)
    · rw [if_neg d2]
      by_cases d3 : cr A c 5 = 3
      · rw [if_pos d3]; exact go (Or.inr d3)
      · rw [if_neg d3]
        by_cases d4 : cr A c 5 = 4
        · rw [if_pos d4]; exact less (Or.inr d4) _ (RL_set h hc d4)
        · rw [if_neg d4]
          rcases (h.1.2.1 c hc).2.2 with ⟨-, z⟩ | ⟨-, -, -, z⟩
          · unfold f_se42
            rw [← r4, z, if_neg (by decide : ¬ (0 : Int32) ≤ -1)]
            have e2 := RL_idle h hc
            unfold tk2
            have ei : ix (2 : Int32) = 2 := by decide
            show RL n j T (use _ c (ix 2) (se _ c (ix 2) + 1)) _
            rw [ei, move_se]; exact e2
          · rcases z with ⟨z, -⟩ | ⟨z, -⟩ | ⟨z | z, -⟩
            · exact absurd z d1
            · exact absurd z d3
            · exact absurd z d2
            · exact absurd z d4
theorem RL_tick (h : RL n j T A X) (hc : c < n) : RL n j T (f_tick A c) (f_Mo_second X c).2 := by
  have hj8 := h.1.1.2.1
  rw [tick_eq, pso_eq h.1 hc (take_yi h hc)]
  unfold f_Mo_second
  rw [← rd_c3 h.2.1 hc]
  rcases (h.1.2.1 c hc).2.1 with b | b
  · have b1 : ¬ cr A c 3 = 1 := by rw [b]; decide
    rw [if_pos b, if_neg b1, ← rd_c4 h.2.1 hc]
    rcases (h.1.2.1 c hc).2.2 with ⟨z1, z2⟩ | ⟨z, -, -, -⟩
    · have z3 : ¬ 0 ≤ cr A c 4 := by rw [z2]; decide
      rw [if_pos z2, if_neg z3]
      exact RL_sec (RL_take h hc z2 z1) hc
    · have z0 : 0 ≤ cr A c 4 := by rw [z.1]; exact Int32.not_lt.mp (rp_nn (by have := z.2; omega))
      have z3 : ¬ cr A c 4 = -1 := fun e => by rw [e] at z0; exact absurd z0 (by decide)
      rw [if_neg z3, if_pos z0]
      exact RL_sec h hc
  · have b0 : ¬ cr A c 3 = 0 := by rw [b]; decide
    rw [if_neg b0, if_pos b]
    have e7 := rd_e h.2.1 hc (show 3 < 4 by decide)
    have := RL_se (v := se A c 3 + 1) h hc (show 3 < 4 by decide)
    unfold tk2
    have ei : ix (3 : Int32) = 3 := by decide
    show RL n j T (use A c (ix 3) (se A c (ix 3) + 1)) _
    rw [ei]
    rw [e7] at this ⊢
    exact this
theorem yi_sc {B : ya} (h : yi n j A) (h1 : cr B = cr A) (h2 : jb B = jb A) (h3 : wa B = wa A) (hs : ∀ k, k ≠ 4 → k ≠ 5 → sc B k = sc A k) : yi n j B := by
  obtain ⟨hS, hC, hN, hJ, hQ, hO⟩ := h
  have eq : ∀ c', qs B c' = qs A c' := fun c' => qs_congr (by rw [h1]) (by rw [h3])
  refine ⟨?_, fun c' hc' => ?_, ?_, fun i hi => ?_, fun c' hc' => ?_, ?_⟩
  · unfold yiS at hS ⊢
    rw [hs 0 (by decide) (by decide), hs 6 (by decide) (by decide), hs 1 (by decide) (by decide), hs 2 (by decide) (by decide), hs 3 (by decide) (by decide), hs 8 (by decide) (by decide)]
    exact hS
  · have := hC c' hc'
    unfold yiC yiB yiH at this ⊢
    rw [h1, h2]; exact this
  · unfold yiN at hN ⊢
    rw [h1, hs 1 (by decide) (by decide)]; exact hN
  · have := hJ i hi
    unfold yiJ yiR at this ⊢
    rw [h1, h2]; exact this
  · have := hQ c' hc'
    unfold yiQ at this ⊢
    rw [eq, h1, h2]; exact this
  · rw [hs 7 (by decide) (by decide), hO, cntO_congr (A := A) (B := B) (fun i _ => by rw [h2])]
theorem RL_clock {v : Int32} (h : RL n j T A X) : RL n j T (usc A 4 v) (mm_up X 3 0 v) := by
  obtain ⟨hy, hv, hq⟩ := h
  have hn := hy.1.1
  refine ⟨?_, by rw [va_sc (by decide), vx_sc4 hn, hv], rlQ_same hq rfl rfl (fun _ => rfl) (mm_up_k _ _ _ (by decide)) (fun i => mm_up_k _ _ _ (by omega))⟩
  exact yi_sc hy rfl rfl rfl (fun k h4 _ => by show upd (sc A) 4 v k = _; simp [upd, h4])
theorem RL_near {v : Int32} (h : RL n j T A X) : RL n j T (usc A 5 v) (mm_up X 3 1 v) := by
  obtain ⟨hy, hv, hq⟩ := h
  have hn := hy.1.1
  refine ⟨?_, by rw [va_sc (by decide), vx_sc5 hn, hv], rlQ_same hq rfl rfl (fun _ => rfl) (mm_up_k _ _ _ (by decide)) (fun i => mm_up_k _ _ _ (by omega))⟩
  exact yi_sc hy rfl rfl rfl (fun k _ h5 => by show upd (sc A) 5 v k = _; simp [upd, h5])
theorem RL_ps2 : ∀ (r : Nat) (A : ya) (X : mm_M) (i : Nat), RL n j T A X → 1 ≤ i → i + r ≤ 100 → RL n j T (f_ps2 r A i).2 (f_ra2 r X i).2
  | 0, A, X, i, h, _, _ => h
  | r + 1, A, X, i, h, hi, hr => by
    have hn := h.1.1.1
    rw [f_ps2, f_ra2, ← rd_s0 h.2.1]
    by_cases h1 : sc A 0 ≤ nI i
    · rw [if_pos h1, if_pos h1]; exact h
    · rw [if_neg h1, if_neg h1]
      have lt : i < n := by
        rcases Nat.lt_or_ge i n with z | z
        · exact z
        · exact absurd (by rw [h.1.1.2.2.1]; exact nI_le z (by omega)) h1
      rw [← rd_s5 h.2.1, ← rd_c0 h.2.1 lt, ← rd_c0 h.2.1 (show i - 1 < n by omega)]
      by_cases h2 : cr A i 0 - cr A (i - 1) 0 < sc A 5
      · rw [if_pos h2, if_neg (Int32.not_le.mpr h2)]
        exact RL_ps2 r _ _ (i + 1) (RL_near h) (by omega) (by omega)
      · rw [if_neg h2, if_pos (Int32.not_lt.mp h2)]
        exact RL_ps2 r _ _ (i + 1) (RL_near h) (by omega) (by omega)
theorem RL_ps1 : ∀ (r : Nat) (A : ya) (X : mm_M) (i : Nat), RL n j T A X → i ≤ n → RL n j T (f_ps1 r A i).2 (f_ra1 r X i).2
  | 0, A, X, i, h, _ => h
  | r + 1, A, X, i, h, hi => by
    have hn := h.1.1.1
    rw [f_ps1, f_ra1, ← rd_s0 h.2.1]
    by_cases h1 : sc A 0 ≤ nI i
    · rw [if_pos h1, if_pos h1]
      refine RL_ps2 4 _ _ 1 ?_ (Nat.le_refl _) (by omega)
      rw [← rd_s4 h.2.1]
      exact RL_clock h
    · rw [if_neg h1, if_neg h1]
      have lt : i < n := nI_sl h.1.1.2.2.1 (by omega) hi h1
      exact RL_ps1 r _ _ (i + 1) (RL_tick h lt) lt
theorem RL_second (h : RL n j T A X) : RL n j T (f_Yd_passSecond A).2 (f_Mo_secondOfAll X).2 := RL_ps1 4 A X 0 h (Nat.zero_le _)
end SEC
