def f_Yd_takeFirst (A : ya) (c : Nat) : Int32 × ya := (if (cr (A) c 10) = 0 then (0, A) else (if (f_Ct_within (wa (A) c 0) 0 ((sc (A) 6) - 1)) = 0 then (0, A) else (if (jb (A) (ix (wa (A) c 0)) 2) ≤ (sc (A) 4) then (0, (f_Yd_handleIfThere (ucr (ucr (ujb (ucr ((f_Cr_unqueue (A) c (wa (A) c 0)).2) c 4 (wa (A) c 0)) (ix (wa (A) c 0)) 3 2) c 6 (jb (ujb (ucr ((f_Cr_unqueue (A) c (wa (A) c 0)).2) c 4 (wa (A) c 0)) (ix (wa (A) c 0)) 3 2) (ix (wa (A) c 0)) 0)) c 5 1) c).2) else (0, A))))
set_option maxRecDepth 20000 in
set_option maxHeartbeats 1000000 in
theorem ys_Yd_takeFirst {d b : Nat} {M : mm_M} {c : Nat} (hb : b = 8 ∨ b = 16) {n : Nat} (hn : cr (yv b M) c 10 = nI n) (hn8 : n ≤ 8) (hw0 : ¬ cr (yv b M) c 10 = 0 → okx 8 (wa (yv b M) c 0)) : YS (d + 2) 26 b M [.inr (3, b), .inr (0, b + 3 + 32 * c)] (none) (f_Yd_takeFirst (yv b M) c).2 := by
  refine YS_of (Nat.le_of_ble_eq_true rfl) ?_
  show mm_Wp pg_Yd_takeFirst rt_Yd_takeFirst (ct_Sem (d + 1)) (M, 0, [some (.inr (3, b)), some (.inr (0, b + 3 + 32 * c)), none], []) _
  refine wgo (g' := (M, 4, [some (.inr (3, b)), some (.inr (0, b + 3 + 32 * c)), none], [.inl (M (b + 3 + 32 * c) 10)])) [oz 0, oz 0] rfl ⟨trivial, trivial, trivial⟩ ?_
  by_cases h1 : (M (b + 3 + 32 * c) 10) = 0
  · have k2 : (cr ((yv b M)) c 10) = 0 := by
      have q : (cr (yv b M) c 10) = 0 := h1
      exact q
    refine wgo (g' := (M, 7, [some (.inr (3, b)), some (.inr (0, b + 3 + 32 * c)), none], [])) [oz 0] rfl ⟨(fun z => z h1), trivial⟩ ?_
    have x3 : f_Yd_takeFirst (yv b M) c = (0, (yv b M)) := by
      unfold f_Yd_takeFirst
      rw [if_pos k2]
    exact wend ⟨rfl, rfl⟩ ⟨rfl, (congrArg Prod.snd x3).symm, yf_rf⟩
  · have k4 : ¬ ((cr ((yv b M)) c 10) = 0) := by
      have q : ¬ ((cr (yv b M) c 10) = 0) := h1
      exact q
    refine wgo (g' := (M, 23, [some (.inr (3, b)), some (.inr (0, b + 3 + 32 * c)), some (.inl (M (b + 3 + 32 * c + 2) 0))], [.inl ((M b 6) - 1), .inl 0, .inl (M (b + 3 + 32 * c + 2) 0)])) [oz 1, oz 0, oz 0, oz 0, oz 0, oz 0, oz 0, oz 0, oz 0, oz 0, oz 0, oz 0] rfl ⟨h1, trivial, trivial, trivial, ⟨rfl, by decide⟩, Nat.le_of_ble_eq_true rfl, trivial, trivial, trivial, trivial, trivial, trivial, trivial⟩ ?_
    have s5 := sm_Ct_within (d := d)  (M := M) (v := M (b + 3 + 32 * c + 2) 0) (a := 0) (e := (M b 6) - 1) 
    refine wgo (g' := (M, 26, [some (.inr (3, b)), some (.inr (0, b + 3 + 32 * c)), some (.inl (M (b + 3 + 32 * c + 2) 0))], [.inl (f_Ct_within (M (b + 3 + 32 * c + 2) 0) 0 ((M b 6) - 1))])) [oc (some (f_Ct_within (M (b + 3 + 32 * c + 2) 0) 0 ((M b 6) - 1)), M)] rfl ⟨⟨s5, Nat.le_of_ble_eq_true rfl, Nat.le_of_ble_eq_true rfl, trivial⟩, trivial⟩ ?_
    by_cases h6 : (f_Ct_within (M (b + 3 + 32 * c + 2) 0) 0 ((M b 6) - 1)) = 0
    · have k7 : (f_Ct_within (wa ((yv b M)) c 0) 0 ((sc ((yv b M)) 6) - 1)) = 0 := by
        have q : (f_Ct_within (wa (yv b M) c 0) 0 ((sc (yv b M) 6) - 1)) = 0 := h6
        exact q
      refine wgo (g' := (M, 45, [some (.inr (3, b)), some (.inr (0, b + 3 + 32 * c)), some (.inl (M (b + 3 + 32 * c + 2) 0))], [])) [oz 1] rfl ⟨h6, trivial⟩ ?_
      have x8 : f_Yd_takeFirst (yv b M) c = (0, (yv b M)) := by
        unfold f_Yd_takeFirst
        rw [if_neg k4, if_pos k7]
      exact wend ⟨rfl, rfl⟩ ⟨rfl, (congrArg Prod.snd x8).symm, yf_rf⟩
    · have k9 : ¬ ((f_Ct_within (wa ((yv b M)) c 0) 0 ((sc ((yv b M)) 6) - 1)) = 0) := by
        have q : ¬ ((f_Ct_within (wa (yv b M) c 0) 0 ((sc (yv b M) 6) - 1)) = 0) := h6
        exact q
      refine wgo (g' := (M, 42, [some (.inr (3, b)), some (.inr (0, b + 3 + 32 * c)), some (.inl (M (b + 3 + 32 * c + 2) 0))], [.inl (M (b + 6 + 32 * (ix (M (b + 3 + 32 * c + 2) 0))) 2), .inl (M b 4)])) [oz 0, oz 0, oz 0, oz 0, oz 0, oz 0, oz (ix (M (b + 3 + 32 * c + 2) 0)), oz 0] rfl ⟨h6, trivial, trivial, trivial, trivial, trivial, (hw0 k4), trivial, trivial⟩ ?_
      by_cases h10 : (M (b + 6 + 32 * (ix (M (b + 3 + 32 * c + 2) 0))) 2) ≤ (M b 4)
      · have k11 : (jb ((yv b M)) (ix (wa ((yv b M)) c 0)) 2) ≤ (sc ((yv b M)) 4) := by
          have q : (jb (yv b M) (ix (wa (yv b M) c 0)) 2) ≤ (sc (yv b M) 4) := h10
          exact q
        refine wgo (g' := (M, 48, [some (.inr (3, b)), some (.inr (0, b + 3 + 32 * c)), some (.inl (M (b + 3 + 32 * c + 2) 0))], [.inl (M (b + 3 + 32 * c + 2) 0), .inr (0, b + 3 + 32 * c)])) [oz 1, oz 0, oz 0] rfl ⟨h10, trivial, trivial, trivial⟩ ?_
        obtain ⟨M12, s13, a14, w15⟩ := ys_Cr_unqueue (d := d) (b := b) (M := M) (c := c) (x := M (b + 3 + 32 * c + 2) 0) hb hn hn8
        have a14 : yv b M12 = (f_Cr_unqueue ((yv b M)) c (wa ((yv b M)) c 0)).2 := a14.trans (show (f_Cr_unqueue ((yv b M)) c (wa (yv b M) c 0)).2 = _ from by first | rfl | simp only [yv])
        have w15 : yf b M M12 := yf_tr yf_rf w15
        refine wgo (g' := (mm_up M12 (b + 3 + 32 * c) 4 (M (b + 3 + 32 * c + 2) 0), 56, [some (.inr (3, b)), some (.inr (0, b + 3 + 32 * c)), some (.inl (M (b + 3 + 32 * c + 2) 0))], [])) [oc (none, M12), oz 0, oz 0, oz 0] rfl ⟨⟨s13, Nat.le_of_ble_eq_true rfl, Nat.le_of_ble_eq_true rfl, ⟨_, rfl⟩⟩, trivial, trivial, trivial, trivial⟩ ?_
        generalize e17 : mm_up M12 (b + 3 + 32 * c) 4 (M (b + 3 + 32 * c + 2) 0) = M16
        have a18 : yv b M16 = ucr ((f_Cr_unqueue ((yv b M)) c (wa ((yv b M)) c 0)).2) c 4 (wa ((yv b M)) c 0) := by
          rw [← e17]
          refine yv_cr.trans ?_
          show ucr ((yv b M12)) c 4 (wa (yv b M) c 0) = _
          first | rfl | simp only [a14]
        have w19 : yf b M M16 := by rw [← e17]; exact yf_up w15 (by unfold yo; omega)
        refine wgo (g' := (mm_up M16 (b + 6 + 32 * (ix (M (b + 3 + 32 * c + 2) 0))) 3 2, 66, [some (.inr (3, b)), some (.inr (0, b + 3 + 32 * c)), some (.inl (M (b + 3 + 32 * c + 2) 0))], [])) [oz 0, oz 0, oz 0, oz (ix (M (b + 3 + 32 * c + 2) 0)), oz 0, oz 0] rfl ⟨trivial, trivial, trivial, (hw0 k4), trivial, trivial, trivial⟩ ?_
        generalize e21 : mm_up M16 (b + 6 + 32 * (ix (M (b + 3 + 32 * c + 2) 0))) 3 2 = M20
        have a22 : yv b M20 = ujb (ucr ((f_Cr_unqueue ((yv b M)) c (wa ((yv b M)) c 0)).2) c 4 (wa ((yv b M)) c 0)) (ix (wa ((yv b M)) c 0)) 3 2 := by
          rw [← e21]
          refine yv_jb.trans ?_
          show ujb ((yv b M16)) (ix (wa (yv b M) c 0)) 3 2 = _
          first | rfl | simp only [a14, a18]
        have w23 : yf b M M20 := by rw [← e21]; exact yf_up w19 (by unfold yo; omega)
        refine wgo (g' := (mm_up M20 (b + 3 + 32 * c) 6 (M20 (b + 6 + 32 * (ix (M (b + 3 + 32 * c + 2) 0))) 0), 79, [some (.inr (3, b)), some (.inr (0, b + 3 + 32 * c)), some (.inl (M (b + 3 + 32 * c + 2) 0))], [])) [oz 0, oz 0, oz 0, oz 0, oz (ix (M (b + 3 + 32 * c + 2) 0)), oz 0, oz 0] rfl ⟨trivial, trivial, trivial, trivial, (hw0 k4), trivial, trivial, trivial⟩ ?_
        generalize e25 : mm_up M20 (b + 3 + 32 * c) 6 (M20 (b + 6 + 32 * (ix (M (b + 3 + 32 * c + 2) 0))) 0) = M24
        have a26 : yv b M24 = ucr (ujb (ucr ((f_Cr_unqueue ((yv b M)) c (wa ((yv b M)) c 0)).2) c 4 (wa ((yv b M)) c 0)) (ix (wa ((yv b M)) c 0)) 3 2) c 6 (jb (ujb (ucr ((f_Cr_unqueue ((yv b M)) c (wa ((yv b M)) c 0)).2) c 4 (wa ((yv b M)) c 0)) (ix (wa ((yv b M)) c 0)) 3 2) (ix (wa ((yv b M)) c 0)) 0) := by
          rw [← e25]
          refine yv_cr.trans ?_
          show ucr ((yv b M20)) c 6 (jb (yv b M20) (ix (wa (yv b M) c 0)) 0) = _
          first | rfl | simp only [a14, a18, a22]
        have w27 : yf b M M24 := by rw [← e25]; exact yf_up w23 (by unfold yo; omega)
        refine wgo (g' := (mm_up M24 (b + 3 + 32 * c) 5 1, 84, [some (.inr (3, b)), some (.inr (0, b + 3 + 32 * c)), some (.inl (M (b + 3 + 32 * c + 2) 0))], [])) [oz 0, oz 0, oz 0] rfl ⟨trivial, trivial, trivial, trivial⟩ ?_
        generalize e29 : mm_up M24 (b + 3 + 32 * c) 5 1 = M28
        have a30 : yv b M28 = ucr (ucr (ujb (ucr ((f_Cr_unqueue ((yv b M)) c (wa ((yv b M)) c 0)).2) c 4 (wa ((yv b M)) c 0)) (ix (wa ((yv b M)) c 0)) 3 2) c 6 (jb (ujb (ucr ((f_Cr_unqueue ((yv b M)) c (wa ((yv b M)) c 0)).2) c 4 (wa ((yv b M)) c 0)) (ix (wa ((yv b M)) c 0)) 3 2) (ix (wa ((yv b M)) c 0)) 0)) c 5 1 := by
          rw [← e29]
          refine yv_cr.trans ?_
          show ucr ((yv b M24)) c 5 1 = _
          first | rfl | simp only [a14, a18, a22, a26]
        have w31 : yf b M M28 := by rw [← e29]; exact yf_up w27 (by unfold yo; omega)
        refine wgo (g' := (M28, 86, [some (.inr (3, b)), some (.inr (0, b + 3 + 32 * c)), some (.inl (M (b + 3 + 32 * c + 2) 0))], [.inr (0, b + 3 + 32 * c), .inr (3, b)])) [oz 0, oz 0] rfl ⟨trivial, trivial, trivial⟩ ?_
        obtain ⟨M32, s33, a34, w35⟩ := ys_Yd_handleIfThere (d := d) (b := b) (M := M28) (c := c) hb 
        have a34 : yv b M32 = (f_Yd_handleIfThere (ucr (ucr (ujb (ucr ((f_Cr_unqueue ((yv b M)) c (wa ((yv b M)) c 0)).2) c 4 (wa ((yv b M)) c 0)) (ix (wa ((yv b M)) c 0)) 3 2) c 6 (jb (ujb (ucr ((f_Cr_unqueue ((yv b M)) c (wa ((yv b M)) c 0)).2) c 4 (wa ((yv b M)) c 0)) (ix (wa ((yv b M)) c 0)) 3 2) (ix (wa ((yv b M)) c 0)) 0)) c 5 1) c).2 := a34.trans (show (f_Yd_handleIfThere ((yv b M28)) c).2 = _ from by first | rfl | simp only [a14, a18, a22, a26, a30])
        have w35 : yf b M M32 := yf_tr w31 w35
        refine wgo (g' := (M32, 89, [some (.inr (3, b)), some (.inr (0, b + 3 + 32 * c)), some (.inl (M (b + 3 + 32 * c + 2) 0))], [])) [oc (none, M32)] rfl ⟨⟨s33, Nat.le_of_ble_eq_true rfl, Nat.le_of_ble_eq_true rfl, ⟨_, rfl⟩⟩, trivial⟩ ?_
        have x36 : f_Yd_takeFirst (yv b M) c = (0, (f_Yd_handleIfThere (ucr (ucr (ujb (ucr ((f_Cr_unqueue ((yv b M)) c (wa ((yv b M)) c 0)).2) c 4 (wa ((yv b M)) c 0)) (ix (wa ((yv b M)) c 0)) 3 2) c 6 (jb (ujb (ucr ((f_Cr_unqueue ((yv b M)) c (wa ((yv b M)) c 0)).2) c 4 (wa ((yv b M)) c 0)) (ix (wa ((yv b M)) c 0)) 3 2) (ix (wa ((yv b M)) c 0)) 0)) c 5 1) c).2) := by
          unfold f_Yd_takeFirst
          rw [if_neg k4, if_neg k9, if_pos k11]
        exact wend ⟨rfl, rfl⟩ ⟨rfl, a34.trans (congrArg Prod.snd x36).symm, w35⟩
      · have k37 : ¬ ((jb ((yv b M)) (ix (wa ((yv b M)) c 0)) 2) ≤ (sc ((yv b M)) 4)) := by
          have q : ¬ ((jb (yv b M) (ix (wa (yv b M) c 0)) 2) ≤ (sc (yv b M) 4)) := h10
          exact q
        refine wgo (g' := (M, 45, [some (.inr (3, b)), some (.inr (0, b + 3 + 32 * c)), some (.inl (M (b + 3 + 32 * c + 2) 0))], [])) [oz 0] rfl ⟨h10, trivial⟩ ?_
        have x38 : f_Yd_takeFirst (yv b M) c = (0, (yv b M)) := by
          unfold f_Yd_takeFirst
          rw [if_neg k4, if_neg k9, if_neg k37]
        exact wend ⟨rfl, rfl⟩ ⟨rfl, (congrArg Prod.snd x38).symm, yf_rf⟩
/-- what crane c's second needs -/
def yone (A : ya) (n c : Nat) : Prop := ynn A n ∧ (∃ m, m ≤ 8 ∧ cr A c 10 = nI m) ∧ (¬ cr A c 10 = 0 → okx 8 (wa A c 0)) ∧ ∀ A1, (A1 = A ∨ A1 = (f_Yd_takeFirst A c).2) → ynn A1 n ∧ (¬ f_Ct_within (cr A1 c 4) 0 (sc A1 6 - 1) = 0 → okx 8 (cr A1 c 4))
def f_Yd_passSecondOf (A : ya) (c : Nat) : Int32 × ya := (if (cr (A) c 3) = 0 then (if (cr (A) c 4) = ((-1)) then (if (f_Ct_within (cr ((f_Yd_takeFirst (A) c).2) c 4) 0 ((sc ((f_Yd_takeFirst (A) c).2) 6) - 1)) = 0 then (2, (f_Yd_moveToward ((f_Yd_takeFirst (A) c).2) c (f_Yd_placeOutOfTheWay ((f_Yd_takeFirst (A) c).2) c)).2) else (if (cr ((f_Yd_takeFirst (A) c).2) c 5) = 2 then (0, (f_Yd_liftOn ((f_Yd_takeFirst (A) c).2) c (ix (cr ((f_Yd_takeFirst (A) c).2) c 4))).2) else (if (cr ((f_Yd_takeFirst (A) c).2) c 5) = 4 then (0, (f_Yd_setOn ((f_Yd_takeFirst (A) c).2) c (ix (cr ((f_Yd_takeFirst (A) c).2) c 4))).2) else (if (cr ((f_Yd_handleIfThere ((f_Yd_moveToward ((f_Yd_takeFirst (A) c).2) c (cr ((f_Yd_takeFirst (A) c).2) c 6)).2) c).2) c 0) = (cr ((f_Yd_takeFirst (A) c).2) c 0) then (1, (f_Yd_handleIfThere ((f_Yd_moveToward ((f_Yd_takeFirst (A) c).2) c (cr ((f_Yd_takeFirst (A) c).2) c 6)).2) c).2) else (0, (f_Yd_handleIfThere ((f_Yd_moveToward ((f_Yd_takeFirst (A) c).2) c (cr ((f_Yd_takeFirst (A) c).2) c 6)).2) c).2))))) else (if (f_Ct_within (cr (A) c 4) 0 ((sc (A) 6) - 1)) = 0 then (2, (f_Yd_moveToward (A) c (f_Yd_placeOutOfTheWay (A) c)).2) else (if (cr (A) c 5) = 2 then (0, (f_Yd_liftOn (A) c (ix (cr (A) c 4))).2) else (if (cr (A) c 5) = 4 then (0, (f_Yd_setOn (A) c (ix (cr (A) c 4))).2) else (if (cr ((f_Yd_handleIfThere ((f_Yd_moveToward (A) c (cr (A) c 6)).2) c).2) c 0) = (cr (A) c 0) then (1, (f_Yd_handleIfThere ((f_Yd_moveToward (A) c (cr (A) c 6)).2) c).2) else (0, (f_Yd_handleIfThere ((f_Yd_moveToward (A) c (cr (A) c 6)).2) c).2)))))) else (3, A))
set_option maxRecDepth 20000 in
set_option maxHeartbeats 1000000 in
theorem ys_Yd_passSecondOf {d b : Nat} {M : mm_M} {c : Nat} (hb : b = 8 ∨ b = 16) {n : Nat} (hc : c < 3) (hy : yone (yv b M) n c) : YS (d + 3) 25 b M [.inr (3, b), .inl (nI c)] (some (f_Yd_passSecondOf (yv b M) c).1) (f_Yd_passSecondOf (yv b M) c).2 := by
  refine YS_of (Nat.le_of_ble_eq_true rfl) ?_
  show mm_Wp pg_Yd_passSecondOf rt_Yd_passSecondOf (ct_Sem (d + 2)) (M, 0, [some (.inr (3, b)), some (.inl (nI c)), none, none, none], []) _
  refine wgo (g' := (M, 11, [some (.inr (3, b)), some (.inl (nI c)), some (.inr (0, b + 3 + 32 * c)), none, none], [.inl (M (b + 3 + 32 * c) 3)])) [oz 0, oz 0, oz 0, oz c, oz 0, oz 0, oz 0] rfl ⟨trivial, trivial, trivial, ⟨rfl, (show c < 3 from by omega)⟩, Nat.le_of_ble_eq_true rfl, trivial, trivial, trivial⟩ ?_
  by_cases h1 : (M (b + 3 + 32 * c) 3) = 0
  · have k2 : (cr ((yv b M)) c 3) = 0 := by
      have q : (cr (yv b M) c 3) = 0 := h1
      exact q
    refine wgo (g' := (M, 21, [some (.inr (3, b)), some (.inl (nI c)), some (.inr (0, b + 3 + 32 * c)), none, none], [.inl ((-1)), .inl (M (b + 3 + 32 * c) 4)])) [oz 1, oz 0, oz 0, oz 0] rfl ⟨h1, trivial, trivial, trivial, trivial⟩ ?_
    by_cases h3 : (M (b + 3 + 32 * c) 4) = ((-1))
    · have k4 : (cr ((yv b M)) c 4) = ((-1)) := by
        have q : (cr (yv b M) c 4) = ((-1)) := h3
        exact q
      refine wgo (g' := (M, 26, [some (.inr (3, b)), some (.inl (nI c)), some (.inr (0, b + 3 + 32 * c)), none, none], [.inr (0, b + 3 + 32 * c), .inr (3, b)])) [oz 0, oz 0, oz 0] rfl ⟨(fun z => z h3), trivial, trivial, trivial⟩ ?_
      obtain ⟨M5, s6, a7, w8⟩ := ys_Yd_takeFirst (d := d) (b := b) (M := M) (c := c) hb hy.2.1.choose_spec.2 hy.2.1.choose_spec.1 hy.2.2.1
      have a7 : yv b M5 = (f_Yd_takeFirst ((yv b M)) c).2 := a7.trans (show (f_Yd_takeFirst ((yv b M)) c).2 = _ from by first | rfl | simp only [yv])
      have w8 : yf b M M5 := yf_tr yf_rf w8
      refine wgo (g' := (M5, 40, [some (.inr (3, b)), some (.inl (nI c)), some (.inr (0, b + 3 + 32 * c)), none, none], [.inl ((M5 b 6) - 1), .inl 0, .inl (M5 (b + 3 + 32 * c) 4)])) [oc (none, M5), oz 0, oz 0, oz 0, oz 0, oz 0, oz 0, oz 0] rfl ⟨⟨s6, Nat.le_of_ble_eq_true rfl, Nat.le_of_ble_eq_true rfl, ⟨_, rfl⟩⟩, trivial, trivial, trivial, trivial, trivial, trivial, trivial, trivial⟩ ?_
      have s9 := sm_Ct_within (d := d + 1)  (M := M5) (v := M5 (b + 3 + 32 * c) 4) (a := 0) (e := (M5 b 6) - 1) 
      refine wgo (g' := (M5, 43, [some (.inr (3, b)), some (.inl (nI c)), some (.inr (0, b + 3 + 32 * c)), none, none], [.inl (f_Ct_within (M5 (b + 3 + 32 * c) 4) 0 ((M5 b 6) - 1))])) [oc (some (f_Ct_within (M5 (b + 3 + 32 * c) 4) 0 ((M5 b 6) - 1)), M5)] rfl ⟨⟨s9, Nat.le_of_ble_eq_true rfl, Nat.le_of_ble_eq_true rfl, trivial⟩, trivial⟩ ?_
      by_cases h10 : (f_Ct_within (M5 (b + 3 + 32 * c) 4) 0 ((M5 b 6) - 1)) = 0
      · have k11 : (f_Ct_within (cr ((f_Yd_takeFirst ((yv b M)) c).2) c 4) 0 ((sc ((f_Yd_takeFirst ((yv b M)) c).2) 6) - 1)) = 0 := by
          have q : (f_Ct_within (cr (yv b M5) c 4) 0 ((sc (yv b M5) 6) - 1)) = 0 := h10
          first | exact q | (simp only [a7] at q; exact q)
        refine wgo (g' := (M5, 50, [some (.inr (3, b)), some (.inl (nI c)), some (.inr (0, b + 3 + 32 * c)), none, none], [.inl (nI c), .inr (3, b), .inl (nI c), .inr (3, b)])) [oz 0, oz 0, oz 0, oz 0, oz 0] rfl ⟨(fun z => z h10), trivial, trivial, trivial, trivial, trivial⟩ ?_
        have s12 := sm_Yd_placeOutOfTheWay (d := d) (b := b) (M := M5) (c := c) hc (hy.2.2.2 _ (Or.inr a7)).1
        refine wgo (g' := (M5, 53, [some (.inr (3, b)), some (.inl (nI c)), some (.inr (0, b + 3 + 32 * c)), none, none], [.inl (f_Yd_placeOutOfTheWay (yv b M5) c), .inl (nI c), .inr (3, b)])) [oc (some (f_Yd_placeOutOfTheWay (yv b M5) c), M5)] rfl ⟨⟨s12, Nat.le_of_ble_eq_true rfl, Nat.le_of_ble_eq_true rfl, ⟨_, rfl⟩⟩, trivial⟩ ?_
        obtain ⟨M13, s14, a15, w16⟩ := ys_Yd_moveToward (d := d) (b := b) (M := M5) (c := c) (t := f_Yd_placeOutOfTheWay (yv b M5) c) hb hc (hy.2.2.2 _ (Or.inr a7)).1
        have a15 : yv b M13 = (f_Yd_moveToward ((f_Yd_takeFirst ((yv b M)) c).2) c (f_Yd_placeOutOfTheWay ((f_Yd_takeFirst ((yv b M)) c).2) c)).2 := a15.trans (show (f_Yd_moveToward ((yv b M5)) c (f_Yd_placeOutOfTheWay (yv b M5) c)).2 = _ from by first | rfl | simp only [a7])
        have w16 : yf b M M13 := yf_tr w8 w16
        refine wgo (g' := (M13, 57, [some (.inr (3, b)), some (.inl (nI c)), some (.inr (0, b + 3 + 32 * c)), none, none], [.inl 2])) [oc (none, M13), oz 0] rfl ⟨⟨s14, Nat.le_of_ble_eq_true rfl, Nat.le_of_ble_eq_true rfl, ⟨_, rfl⟩⟩, trivial, trivial⟩ ?_
        have x17 : f_Yd_passSecondOf (yv b M) c = (2, (f_Yd_moveToward ((f_Yd_takeFirst ((yv b M)) c).2) c (f_Yd_placeOutOfTheWay ((f_Yd_takeFirst ((yv b M)) c).2) c)).2) := by
          unfold f_Yd_passSecondOf
          rw [if_pos k2, if_pos k4, if_pos k11]
        exact wend ⟨_, rfl, rfl⟩ ⟨congrArg some ((show (2 : Int32) = 2 from by first | rfl | simp only [a7, a15]).trans (congrArg Prod.fst x17).symm), a15.trans (congrArg Prod.snd x17).symm, w16⟩
      · have k18 : ¬ ((f_Ct_within (cr ((f_Yd_takeFirst ((yv b M)) c).2) c 4) 0 ((sc ((f_Yd_takeFirst ((yv b M)) c).2) 6) - 1)) = 0) := by
          have q : ¬ ((f_Ct_within (cr (yv b M5) c 4) 0 ((sc (yv b M5) 6) - 1)) = 0) := h10
          first | exact q | (simp only [a7] at q; exact q)
        refine wgo (g' := (M5, 73, [some (.inr (3, b)), some (.inl (nI c)), some (.inr (0, b + 3 + 32 * c)), some (.inr (1, b + 6 + 32 * (ix (M5 (b + 3 + 32 * c) 4)))), none], [.inl 2, .inl (M5 (b + 3 + 32 * c) 5)])) [oz 1, oz 0, oz 0, oz 0, oz 0, oz (ix (M5 (b + 3 + 32 * c) 4)), oz 0, oz 0, oz 0, oz 0] rfl ⟨h10, trivial, trivial, trivial, trivial, ((hy.2.2.2 _ (Or.inr a7)).2 h10), Nat.le_of_ble_eq_true rfl, trivial, trivial, trivial, trivial⟩ ?_
        by_cases h19 : (M5 (b + 3 + 32 * c) 5) = 2
        · have k20 : (cr ((f_Yd_takeFirst ((yv b M)) c).2) c 5) = 2 := by
            have q : (cr (yv b M5) c 5) = 2 := h19
            first | exact q | (simp only [a7] at q; exact q)
          refine wgo (g' := (M5, 79, [some (.inr (3, b)), some (.inl (nI c)), some (.inr (0, b + 3 + 32 * c)), some (.inr (1, b + 6 + 32 * (ix (M5 (b + 3 + 32 * c) 4)))), none], [.inr (1, b + 6 + 32 * (ix (M5 (b + 3 + 32 * c) 4))), .inr (0, b + 3 + 32 * c), .inr (3, b)])) [oz 0, oz 0, oz 0, oz 0] rfl ⟨(fun z => z h19), trivial, trivial, trivial, trivial⟩ ?_
          obtain ⟨M21, s22, a23, w24⟩ := ys_Yd_liftOn (d := d) (b := b) (M := M5) (c := c) (j := ix (M5 (b + 3 + 32 * c) 4)) hb 
          have a23 : yv b M21 = (f_Yd_liftOn ((f_Yd_takeFirst ((yv b M)) c).2) c (ix (cr ((f_Yd_takeFirst ((yv b M)) c).2) c 4))).2 := a23.trans (show (f_Yd_liftOn ((yv b M5)) c (ix (cr (yv b M5) c 4))).2 = _ from by first | rfl | simp only [a7])
          have w24 : yf b M M21 := yf_tr w8 w24
          refine wgo (g' := (M21, 83, [some (.inr (3, b)), some (.inl (nI c)), some (.inr (0, b + 3 + 32 * c)), some (.inr (1, b + 6 + 32 * (ix (M5 (b + 3 + 32 * c) 4)))), none], [.inl 0])) [oc (none, M21), oz 0] rfl ⟨⟨s22, Nat.le_of_ble_eq_true rfl, Nat.le_of_ble_eq_true rfl, ⟨_, rfl⟩⟩, trivial, trivial⟩ ?_
          have x25 : f_Yd_passSecondOf (yv b M) c = (0, (f_Yd_liftOn ((f_Yd_takeFirst ((yv b M)) c).2) c (ix (cr ((f_Yd_takeFirst ((yv b M)) c).2) c 4))).2) := by
            unfold f_Yd_passSecondOf
            rw [if_pos k2, if_pos k4, if_neg k18, if_pos k20]
          exact wend ⟨_, rfl, rfl⟩ ⟨congrArg some ((show (0 : Int32) = 0 from by first | rfl | simp only [a7, a23]).trans (congrArg Prod.fst x25).symm), a23.trans (congrArg Prod.snd x25).symm, w24⟩
        · have k26 : ¬ ((cr ((f_Yd_takeFirst ((yv b M)) c).2) c 5) = 2) := by
            have q : ¬ ((cr (yv b M5) c 5) = 2) := h19
            first | exact q | (simp only [a7] at q; exact q)
          refine wgo (g' := (M5, 89, [some (.inr (3, b)), some (.inl (nI c)), some (.inr (0, b + 3 + 32 * c)), some (.inr (1, b + 6 + 32 * (ix (M5 (b + 3 + 32 * c) 4)))), none], [.inl 4, .inl (M5 (b + 3 + 32 * c) 5)])) [oz 1, oz 0, oz 0, oz 0] rfl ⟨h19, trivial, trivial, trivial, trivial⟩ ?_
          by_cases h27 : (M5 (b + 3 + 32 * c) 5) = 4
          · have k28 : (cr ((f_Yd_takeFirst ((yv b M)) c).2) c 5) = 4 := by
              have q : (cr (yv b M5) c 5) = 4 := h27
              first | exact q | (simp only [a7] at q; exact q)
            refine wgo (g' := (M5, 95, [some (.inr (3, b)), some (.inl (nI c)), some (.inr (0, b + 3 + 32 * c)), some (.inr (1, b + 6 + 32 * (ix (M5 (b + 3 + 32 * c) 4)))), none], [.inr (1, b + 6 + 32 * (ix (M5 (b + 3 + 32 * c) 4))), .inr (0, b + 3 + 32 * c), .inr (3, b)])) [oz 0, oz 0, oz 0, oz 0] rfl ⟨(fun z => z h27), trivial, trivial, trivial, trivial⟩ ?_
            obtain ⟨M29, s30, a31, w32⟩ := ys_Yd_setOn (d := d + 1) (b := b) (M := M5) (c := c) (j := ix (M5 (b + 3 + 32 * c) 4)) hb 
            have a31 : yv b M29 = (f_Yd_setOn ((f_Yd_takeFirst ((yv b M)) c).2) c (ix (cr ((f_Yd_takeFirst ((yv b M)) c).2) c 4))).2 := a31.trans (show (f_Yd_setOn ((yv b M5)) c (ix (cr (yv b M5) c 4))).2 = _ from by first | rfl | simp only [a7])
            have w32 : yf b M M29 := yf_tr w8 w32
            refine wgo (g' := (M29, 99, [some (.inr (3, b)), some (.inl (nI c)), some (.inr (0, b + 3 + 32 * c)), some (.inr (1, b + 6 + 32 * (ix (M5 (b + 3 + 32 * c) 4)))), none], [.inl 0])) [oc (none, M29), oz 0] rfl ⟨⟨s30, Nat.le_of_ble_eq_true rfl, Nat.le_of_ble_eq_true rfl, ⟨_, rfl⟩⟩, trivial, trivial⟩ ?_
            have x33 : f_Yd_passSecondOf (yv b M) c = (0, (f_Yd_setOn ((f_Yd_takeFirst ((yv b M)) c).2) c (ix (cr ((f_Yd_takeFirst ((yv b M)) c).2) c 4))).2) := by
              unfold f_Yd_passSecondOf
              rw [if_pos k2, if_pos k4, if_neg k18, if_neg k26, if_pos k28]
            exact wend ⟨_, rfl, rfl⟩ ⟨congrArg some ((show (0 : Int32) = 0 from by first | rfl | simp only [a7, a31]).trans (congrArg Prod.fst x33).symm), a31.trans (congrArg Prod.snd x33).symm, w32⟩
          · have k34 : ¬ ((cr ((f_Yd_takeFirst ((yv b M)) c).2) c 5) = 4) := by
              have q : ¬ ((cr (yv b M5) c 5) = 4) := h27
              first | exact q | (simp only [a7] at q; exact q)
            refine wgo (g' := (M5, 112, [some (.inr (3, b)), some (.inl (nI c)), some (.inr (0, b + 3 + 32 * c)), some (.inr (1, b + 6 + 32 * (ix (M5 (b + 3 + 32 * c) 4)))), some (.inl (M5 (b + 3 + 32 * c) 0))], [.inl (M5 (b + 3 + 32 * c) 6), .inl (nI c), .inr (3, b)])) [oz 1, oz 0, oz 0, oz 0, oz 0, oz 0, oz 0, oz 0] rfl ⟨h27, trivial, trivial, Nat.le_of_ble_eq_true rfl, trivial, trivial, trivial, trivial, trivial⟩ ?_
            obtain ⟨M35, s36, a37, w38⟩ := ys_Yd_moveToward (d := d) (b := b) (M := M5) (c := c) (t := M5 (b + 3 + 32 * c) 6) hb hc (hy.2.2.2 _ (Or.inr a7)).1
            have a37 : yv b M35 = (f_Yd_moveToward ((f_Yd_takeFirst ((yv b M)) c).2) c (cr ((f_Yd_takeFirst ((yv b M)) c).2) c 6)).2 := a37.trans (show (f_Yd_moveToward ((yv b M5)) c (cr (yv b M5) c 6)).2 = _ from by first | rfl | simp only [a7])
            have w38 : yf b M M35 := yf_tr w8 w38
            refine wgo (g' := (M35, 117, [some (.inr (3, b)), some (.inl (nI c)), some (.inr (0, b + 3 + 32 * c)), some (.inr (1, b + 6 + 32 * (ix (M5 (b + 3 + 32 * c) 4)))), some (.inl (M5 (b + 3 + 32 * c) 0))], [.inr (0, b + 3 + 32 * c), .inr (3, b)])) [oc (none, M35), oz 0, oz 0] rfl ⟨⟨s36, Nat.le_of_ble_eq_true rfl, Nat.le_of_ble_eq_true rfl, ⟨_, rfl⟩⟩, trivial, trivial, trivial⟩ ?_
            obtain ⟨M39, s40, a41, w42⟩ := ys_Yd_handleIfThere (d := d + 1) (b := b) (M := M35) (c := c) hb 
            have a41 : yv b M39 = (f_Yd_handleIfThere ((f_Yd_moveToward ((f_Yd_takeFirst ((yv b M)) c).2) c (cr ((f_Yd_takeFirst ((yv b M)) c).2) c 6)).2) c).2 := a41.trans (show (f_Yd_handleIfThere ((yv b M35)) c).2 = _ from by first | rfl | simp only [a7, a37])
            have w42 : yf b M M39 := yf_tr w38 w42
            refine wgo (g' := (M39, 126, [some (.inr (3, b)), some (.inl (nI c)), some (.inr (0, b + 3 + 32 * c)), some (.inr (1, b + 6 + 32 * (ix (M5 (b + 3 + 32 * c) 4)))), some (.inl (M5 (b + 3 + 32 * c) 0))], [.inl (M5 (b + 3 + 32 * c) 0), .inl (M39 (b + 3 + 32 * c) 0)])) [oc (none, M39), oz 0, oz 0, oz 0] rfl ⟨⟨s40, Nat.le_of_ble_eq_true rfl, Nat.le_of_ble_eq_true rfl, ⟨_, rfl⟩⟩, trivial, trivial, trivial, trivial⟩ ?_
            by_cases h43 : (M39 (b + 3 + 32 * c) 0) = (M5 (b + 3 + 32 * c) 0)
            · have k44 : (cr ((f_Yd_handleIfThere ((f_Yd_moveToward ((f_Yd_takeFirst ((yv b M)) c).2) c (cr ((f_Yd_takeFirst ((yv b M)) c).2) c 6)).2) c).2) c 0) = (cr ((f_Yd_takeFirst ((yv b M)) c).2) c 0) := by
                have q : (cr (yv b M39) c 0) = (cr (yv b M5) c 0) := h43
                first | exact q | (simp only [a7, a37, a41] at q; exact q)
              refine wgo (g' := (M39, 134, [some (.inr (3, b)), some (.inl (nI c)), some (.inr (0, b + 3 + 32 * c)), some (.inr (1, b + 6 + 32 * (ix (M5 (b + 3 + 32 * c) 4)))), some (.inl (M5 (b + 3 + 32 * c) 0))], [.inl 1])) [oz 0, oz 0, oz 0] rfl ⟨(fun z => z h43), trivial, trivial, trivial⟩ ?_
              have x45 : f_Yd_passSecondOf (yv b M) c = (1, (f_Yd_handleIfThere ((f_Yd_moveToward ((f_Yd_takeFirst ((yv b M)) c).2) c (cr ((f_Yd_takeFirst ((yv b M)) c).2) c 6)).2) c).2) := by
                unfold f_Yd_passSecondOf
                rw [if_pos k2, if_pos k4, if_neg k18, if_neg k26, if_neg k34, if_pos k44]
              exact wend ⟨_, rfl, rfl⟩ ⟨congrArg some ((show (1 : Int32) = 1 from by first | rfl | simp only [a7, a37, a41]).trans (congrArg Prod.fst x45).symm), a41.trans (congrArg Prod.snd x45).symm, w42⟩
            · have k46 : ¬ ((cr ((f_Yd_handleIfThere ((f_Yd_moveToward ((f_Yd_takeFirst ((yv b M)) c).2) c (cr ((f_Yd_takeFirst ((yv b M)) c).2) c 6)).2) c).2) c 0) = (cr ((f_Yd_takeFirst ((yv b M)) c).2) c 0)) := by
                have q : ¬ ((cr (yv b M39) c 0) = (cr (yv b M5) c 0)) := h43
                first | exact q | (simp only [a7, a37, a41] at q; exact q)
              refine wgo (g' := (M39, 134, [some (.inr (3, b)), some (.inl (nI c)), some (.inr (0, b + 3 + 32 * c)), some (.inr (1, b + 6 + 32 * (ix (M5 (b + 3 + 32 * c) 4)))), some (.inl (M5 (b + 3 + 32 * c) 0))], [.inl 0])) [oz 1, oz 0] rfl ⟨h43, trivial, trivial⟩ ?_
              have x47 : f_Yd_passSecondOf (yv b M) c = (0, (f_Yd_handleIfThere ((f_Yd_moveToward ((f_Yd_takeFirst ((yv b M)) c).2) c (cr ((f_Yd_takeFirst ((yv b M)) c).2) c 6)).2) c).2) := by
                unfold f_Yd_passSecondOf
                rw [if_pos k2, if_pos k4, if_neg k18, if_neg k26, if_neg k34, if_neg k46]
              exact wend ⟨_, rfl, rfl⟩ ⟨congrArg some ((show (0 : Int32) = 0 from by first | rfl | simp only [a7, a37, a41]).trans (congrArg Prod.fst x47).symm), a41.trans (congrArg Prod.snd x47).symm, w42⟩
    · have k48 : ¬ ((cr ((yv b M)) c 4) = ((-1))) := by
        have q : ¬ ((cr (yv b M) c 4) = ((-1))) := h3
        exact q
      refine wgo (g' := (M, 40, [some (.inr (3, b)), some (.inl (nI c)), some (.inr (0, b + 3 + 32 * c)), none, none], [.inl ((M b 6) - 1), .inl 0, .inl (M (b + 3 + 32 * c) 4)])) [oz 1, oz 0, oz 0, oz 0, oz 0, oz 0, oz 0, oz 0] rfl ⟨h3, trivial, trivial, trivial, trivial, trivial, trivial, trivial, trivial⟩ ?_
      have s49 := sm_Ct_within (d := d + 1)  (M := M) (v := M (b + 3 + 32 * c) 4) (a := 0) (e := (M b 6) - 1) 
      refine wgo (g' := (M, 43, [some (.inr (3, b)), some (.inl (nI c)), some (.inr (0, b + 3 + 32 * c)), none, none], [.inl (f_Ct_within (M (b + 3 + 32 * c) 4) 0 ((M b 6) - 1))])) [oc (some (f_Ct_within (M (b + 3 + 32 * c) 4) 0 ((M b 6) - 1)), M)] rfl ⟨⟨s49, Nat.le_of_ble_eq_true rfl, Nat.le_of_ble_eq_true rfl, trivial⟩, trivial⟩ ?_
      by_cases h50 : (f_Ct_within (M (b + 3 + 32 * c) 4) 0 ((M b 6) - 1)) = 0
      · have k51 : (f_Ct_within (cr ((yv b M)) c 4) 0 ((sc ((yv b M)) 6) - 1)) = 0 := by
          have q : (f_Ct_within (cr (yv b M) c 4) 0 ((sc (yv b M) 6) - 1)) = 0 := h50
          exact q
        refine wgo (g' := (M, 50, [some (.inr (3, b)), some (.inl (nI c)), some (.inr (0, b + 3 + 32 * c)), none, none], [.inl (nI c), .inr (3, b), .inl (nI c), .inr (3, b)])) [oz 0, oz 0, oz 0, oz 0, oz 0] rfl ⟨(fun z => z h50), trivial, trivial, trivial, trivial, trivial⟩ ?_
        have s52 := sm_Yd_placeOutOfTheWay (d := d) (b := b) (M := M) (c := c) hc (hy.2.2.2 _ (Or.inl rfl)).1
        refine wgo (g' := (M, 53, [some (.inr (3, b)), some (.inl (nI c)), some (.inr (0, b + 3 + 32 * c)), none, none], [.inl (f_Yd_placeOutOfTheWay (yv b M) c), .inl (nI c), .inr (3, b)])) [oc (some (f_Yd_placeOutOfTheWay (yv b M) c), M)] rfl ⟨⟨s52, Nat.le_of_ble_eq_true rfl, Nat.le_of_ble_eq_true rfl, ⟨_, rfl⟩⟩, trivial⟩ ?_
        obtain ⟨M53, s54, a55, w56⟩ := ys_Yd_moveToward (d := d) (b := b) (M := M) (c := c) (t := f_Yd_placeOutOfTheWay (yv b M) c) hb hc (hy.2.2.2 _ (Or.inl rfl)).1
        have a55 : yv b M53 = (f_Yd_moveToward ((yv b M)) c (f_Yd_placeOutOfTheWay ((yv b M)) c)).2 := a55.trans (show (f_Yd_moveToward ((yv b M)) c (f_Yd_placeOutOfTheWay (yv b M) c)).2 = _ from by first | rfl | simp only [yv])
        have w56 : yf b M M53 := yf_tr yf_rf w56
        refine wgo (g' := (M53, 57, [some (.inr (3, b)), some (.inl (nI c)), some (.inr (0, b + 3 + 32 * c)), none, none], [.inl 2])) [oc (none, M53), oz 0] rfl ⟨⟨s54, Nat.le_of_ble_eq_true rfl, Nat.le_of_ble_eq_true rfl, ⟨_, rfl⟩⟩, trivial, trivial⟩ ?_
        have x57 : f_Yd_passSecondOf (yv b M) c = (2, (f_Yd_moveToward ((yv b M)) c (f_Yd_placeOutOfTheWay ((yv b M)) c)).2) := by
          unfold f_Yd_passSecondOf
          rw [if_pos k2, if_neg k48, if_pos k51]
        exact wend ⟨_, rfl, rfl⟩ ⟨congrArg some ((show (2 : Int32) = 2 from by first | rfl | simp only [a55]).trans (congrArg Prod.fst x57).symm), a55.trans (congrArg Prod.snd x57).symm, w56⟩
      · have k58 : ¬ ((f_Ct_within (cr ((yv b M)) c 4) 0 ((sc ((yv b M)) 6) - 1)) = 0) := by
          have q : ¬ ((f_Ct_within (cr (yv b M) c 4) 0 ((sc (yv b M) 6) - 1)) = 0) := h50
          exact q
        refine wgo (g' := (M, 73, [some (.inr (3, b)), some (.inl (nI c)), some (.inr (0, b + 3 + 32 * c)), some (.inr (1, b + 6 + 32 * (ix (M (b + 3 + 32 * c) 4)))), none], [.inl 2, .inl (M (b + 3 + 32 * c) 5)])) [oz 1, oz 0, oz 0, oz 0, oz 0, oz (ix (M (b + 3 + 32 * c) 4)), oz 0, oz 0, oz 0, oz 0] rfl ⟨h50, trivial, trivial, trivial, trivial, ((hy.2.2.2 _ (Or.inl rfl)).2 h50), Nat.le_of_ble_eq_true rfl, trivial, trivial, trivial, trivial⟩ ?_
        by_cases h59 : (M (b + 3 + 32 * c) 5) = 2
        · have k60 : (cr ((yv b M)) c 5) = 2 := by
            have q : (cr (yv b M) c 5) = 2 := h59
            exact q
          refine wgo (g' := (M, 79, [some (.inr (3, b)), some (.inl (nI c)), some (.inr (0, b + 3 + 32 * c)), some (.inr (1, b + 6 + 32 * (ix (M (b + 3 + 32 * c) 4)))), none], [.inr (1, b + 6 + 32 * (ix (M (b + 3 + 32 * c) 4))), .inr (0, b + 3 + 32 * c), .inr (3, b)])) [oz 0, oz 0, oz 0, oz 0] rfl ⟨(fun z => z h59), trivial, trivial, trivial, trivial⟩ ?_
          obtain ⟨M61, s62, a63, w64⟩ := ys_Yd_liftOn (d := d) (b := b) (M := M) (c := c) (j := ix (M (b + 3 + 32 * c) 4)) hb 
          have a63 : yv b M61 = (f_Yd_liftOn ((yv b M)) c (ix (cr ((yv b M)) c 4))).2 := a63.trans (show (f_Yd_liftOn ((yv b M)) c (ix (cr (yv b M) c 4))).2 = _ from by first | rfl | simp only [yv])
          have w64 : yf b M M61 := yf_tr yf_rf w64
          refine wgo (g' := (M61, 83, [some (.inr (3, b)), some (.inl (nI c)), some (.inr (0, b + 3 + 32 * c)), some (.inr (1, b + 6 + 32 * (ix (M (b + 3 + 32 * c) 4)))), none], [.inl 0])) [oc (none, M61), oz 0] rfl ⟨⟨s62, Nat.le_of_ble_eq_true rfl, Nat.le_of_ble_eq_true rfl, ⟨_, rfl⟩⟩, trivial, trivial⟩ ?_
          have x65 : f_Yd_passSecondOf (yv b M) c = (0, (f_Yd_liftOn ((yv b M)) c (ix (cr ((yv b M)) c 4))).2) := by
            unfold f_Yd_passSecondOf
            rw [if_pos k2, if_neg k48, if_neg k58, if_pos k60]
          exact wend ⟨_, rfl, rfl⟩ ⟨congrArg some ((show (0 : Int32) = 0 from by first | rfl | simp only [a63]).trans (congrArg Prod.fst x65).symm), a63.trans (congrArg Prod.snd x65).symm, w64⟩
        · have k66 : ¬ ((cr ((yv b M)) c 5) = 2) := by
            have q : ¬ ((cr (yv b M) c 5) = 2) := h59
            exact q
          refine wgo (g' := (M, 89, [some (.inr (3, b)), some (.inl (nI c)), some (.inr (0, b + 3 + 32 * c)), some (.inr (1, b + 6 + 32 * (ix (M (b + 3 + 32 * c) 4)))), none], [.inl 4, .inl (M (b + 3 + 32 * c) 5)])) [oz 1, oz 0, oz 0, oz 0] rfl ⟨h59, trivial, trivial, trivial, trivial⟩ ?_
          by_cases h67 : (M (b + 3 + 32 * c) 5) = 4
          · have k68 : (cr ((yv b M)) c 5) = 4 := by
              have q : (cr (yv b M) c 5) = 4 := h67
              exact q
            refine wgo (g' := (M, 95, [some (.inr (3, b)), some (.inl (nI c)), some (.inr (0, b + 3 + 32 * c)), some (.inr (1, b + 6 + 32 * (ix (M (b + 3 + 32 * c) 4)))), none], [.inr (1, b + 6 + 32 * (ix (M (b + 3 + 32 * c) 4))), .inr (0, b + 3 + 32 * c), .inr (3, b)])) [oz 0, oz 0, oz 0, oz 0] rfl ⟨(fun z => z h67), trivial, trivial, trivial, trivial⟩ ?_
            obtain ⟨M69, s70, a71, w72⟩ := ys_Yd_setOn (d := d + 1) (b := b) (M := M) (c := c) (j := ix (M (b + 3 + 32 * c) 4)) hb 
            have a71 : yv b M69 = (f_Yd_setOn ((yv b M)) c (ix (cr ((yv b M)) c 4))).2 := a71.trans (show (f_Yd_setOn ((yv b M)) c (ix (cr (yv b M) c 4))).2 = _ from by first | rfl | simp only [yv])
            have w72 : yf b M M69 := yf_tr yf_rf w72
            refine wgo (g' := (M69, 99, [some (.inr (3, b)), some (.inl (nI c)), some (.inr (0, b + 3 + 32 * c)), some (.inr (1, b + 6 + 32 * (ix (M (b + 3 + 32 * c) 4)))), none], [.inl 0])) [oc (none, M69), oz 0] rfl ⟨⟨s70, Nat.le_of_ble_eq_true rfl, Nat.le_of_ble_eq_true rfl, ⟨_, rfl⟩⟩, trivial, trivial⟩ ?_
            have x73 : f_Yd_passSecondOf (yv b M) c = (0, (f_Yd_setOn ((yv b M)) c (ix (cr ((yv b M)) c 4))).2) := by
              unfold f_Yd_passSecondOf
              rw [if_pos k2, if_neg k48, if_neg k58, if_neg k66, if_pos k68]
            exact wend ⟨_, rfl, rfl⟩ ⟨congrArg some ((show (0 : Int32) = 0 from by first | rfl | simp only [a71]).trans (congrArg Prod.fst x73).symm), a71.trans (congrArg Prod.snd x73).symm, w72⟩
          · have k74 : ¬ ((cr ((yv b M)) c 5) = 4) := by
              have q : ¬ ((cr (yv b M) c 5) = 4) := h67
              exact q
            refine wgo (g' := (M, 112, [some (.inr (3, b)), some (.inl (nI c)), some (.inr (0, b + 3 + 32 * c)), some (.inr (1, b + 6 + 32 * (ix (M (b + 3 + 32 * c) 4)))), some (.inl (M (b + 3 + 32 * c) 0))], [.inl (M (b + 3 + 32 * c) 6), .inl (nI c), .inr (3, b)])) [oz 1, oz 0, oz 0, oz 0, oz 0, oz 0, oz 0, oz 0] rfl ⟨h67, trivial, trivial, Nat.le_of_ble_eq_true rfl, trivial, trivial, trivial, trivial, trivial⟩ ?_
            obtain ⟨M75, s76, a77, w78⟩ := ys_Yd_moveToward (d := d) (b := b) (M := M) (c := c) (t := M (b + 3 + 32 * c) 6) hb hc (hy.2.2.2 _ (Or.inl rfl)).1
            have a77 : yv b M75 = (f_Yd_moveToward ((yv b M)) c (cr ((yv b M)) c 6)).2 := a77.trans (show (f_Yd_moveToward ((yv b M)) c (cr (yv b M) c 6)).2 = _ from by first | rfl | simp only [yv])
            have w78 : yf b M M75 := yf_tr yf_rf w78
            refine wgo (g' := (M75, 117, [some (.inr (3, b)), some (.inl (nI c)), some (.inr (0, b + 3 + 32 * c)), some (.inr (1, b + 6 + 32 * (ix (M (b + 3 + 32 * c) 4)))), some (.inl (M (b + 3 + 32 * c) 0))], [.inr (0, b + 3 + 32 * c), .inr (3, b)])) [oc (none, M75), oz 0, oz 0] rfl ⟨⟨s76, Nat.le_of_ble_eq_true rfl, Nat.le_of_ble_eq_true rfl, ⟨_, rfl⟩⟩, trivial, trivial, trivial⟩ ?_
            obtain ⟨M79, s80, a81, w82⟩ := ys_Yd_handleIfThere (d := d + 1) (b := b) (M := M75) (c := c) hb 
            have a81 : yv b M79 = (f_Yd_handleIfThere ((f_Yd_moveToward ((yv b M)) c (cr ((yv b M)) c 6)).2) c).2 := a81.trans (show (f_Yd_handleIfThere ((yv b M75)) c).2 = _ from by first | rfl | simp only [a77])
            have w82 : yf b M M79 := yf_tr w78 w82
            refine wgo (g' := (M79, 126, [some (.inr (3, b)), some (.inl (nI c)), some (.inr (0, b + 3 + 32 * c)), some (.inr (1, b + 6 + 32 * (ix (M (b + 3 + 32 * c) 4)))), some (.inl (M (b + 3 + 32 * c) 0))], [.inl (M (b + 3 + 32 * c) 0), .inl (M79 (b + 3 + 32 * c) 0)])) [oc (none, M79), oz 0, oz 0, oz 0] rfl ⟨⟨s80, Nat.le_of_ble_eq_true rfl, Nat.le_of_ble_eq_true rfl, ⟨_, rfl⟩⟩, trivial, trivial, trivial, trivial⟩ ?_
            by_cases h83 : (M79 (b + 3 + 32 * c) 0) = (M (b + 3 + 32 * c) 0)
            · have k84 : (cr ((f_Yd_handleIfThere ((f_Yd_moveToward ((yv b M)) c (cr ((yv b M)) c 6)).2) c).2) c 0) = (cr ((yv b M)) c 0) := by
                have q : (cr (yv b M79) c 0) = (cr (yv b M) c 0) := h83
                first | exact q | (simp only [a77, a81] at q; exact q)
              refine wgo (g' := (M79, 134, [some (.inr (3, b)), some (.inl (nI c)), some (.inr (0, b + 3 + 32 * c)), some (.inr (1, b + 6 + 32 * (ix (M (b + 3 + 32 * c) 4)))), some (.inl (M (b + 3 + 32 * c) 0))], [.inl 1])) [oz 0, oz 0, oz 0] rfl ⟨(fun z => z h83), trivial, trivial, trivial⟩ ?_
              have x85 : f_Yd_passSecondOf (yv b M) c = (1, (f_Yd_handleIfThere ((f_Yd_moveToward ((yv b M)) c (cr ((yv b M)) c 6)).2) c).2) := by
                unfold f_Yd_passSecondOf
                rw [if_pos k2, if_neg k48, if_neg k58, if_neg k66, if_neg k74, if_pos k84]
              exact wend ⟨_, rfl, rfl⟩ ⟨congrArg some ((show (1 : Int32) = 1 from by first | rfl | simp only [a77, a81]).trans (congrArg Prod.fst x85).symm), a81.trans (congrArg Prod.snd x85).symm, w82⟩
            · have k86 : ¬ ((cr ((f_Yd_handleIfThere ((f_Yd_moveToward ((yv b M)) c (cr ((yv b M)) c 6)).2) c).2) c 0) = (cr ((yv b M)) c 0)) := by
                have q : ¬ ((cr (yv b M79) c 0) = (cr (yv b M) c 0)) := h83
                first | exact q | (simp only [a77, a81] at q; exact q)
              refine wgo (g' := (M79, 134, [some (.inr (3, b)), some (.inl (nI c)), some (.inr (0, b + 3 + 32 * c)), some (.inr (1, b + 6 + 32 * (ix (M (b + 3 + 32 * c) 4)))), some (.inl (M (b + 3 + 32 * c) 0))], [.inl 0])) [oz 1, oz 0] rfl ⟨h83, trivial, trivial⟩ ?_
              have x87 : f_Yd_passSecondOf (yv b M) c = (0, (f_Yd_handleIfThere ((f_Yd_moveToward ((yv b M)) c (cr ((yv b M)) c 6)).2) c).2) := by
                unfold f_Yd_passSecondOf
                rw [if_pos k2, if_neg k48, if_neg k58, if_neg k66, if_neg k74, if_neg k86]
              exact wend ⟨_, rfl, rfl⟩ ⟨congrArg some ((show (0 : Int32) = 0 from by first | rfl | simp only [a77, a81]).trans (congrArg Prod.fst x87).symm), a81.trans (congrArg Prod.snd x87).symm, w82⟩
  · have k88 : ¬ ((cr ((yv b M)) c 3) = 0) := by
      have q : ¬ ((cr (yv b M) c 3) = 0) := h1
      exact q
    refine wgo (g' := (M, 15, [some (.inr (3, b)), some (.inl (nI c)), some (.inr (0, b + 3 + 32 * c)), none, none], [.inl 3])) [oz 0, oz 0] rfl ⟨h1, trivial, trivial⟩ ?_
    have x89 : f_Yd_passSecondOf (yv b M) c = (3, (yv b M)) := by
      unfold f_Yd_passSecondOf
      rw [if_neg k88]
    exact wend ⟨_, rfl, rfl⟩ ⟨congrArg some ((show (3 : Int32) = 3 from by first | rfl | simp only [yv]).trans (congrArg Prod.fst x89).symm), (congrArg Prod.snd x89).symm, yf_rf⟩
