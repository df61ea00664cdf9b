def f_Yd_takeFirst (A : ya) (c : Nat) : Int32 × ya := (if (cr (A) c 10) = 0 then (0, A) else (if (jb (A) (ix (wa (A) c 0)) 2) ≤ (sc (A) 4) then (0, (f_Yd_handleIfThere (ucr (ucr (ujb (ucr ((f_Cr_unqueue (A) c (wa (A) c 0)).2) c 4 (wa (A) c 0)) (ix (wa (A) c 0)) 3 2) c 6 (jb (ujb (ucr ((f_Cr_unqueue (A) c (wa (A) c 0)).2) c 4 (wa (A) c 0)) (ix (wa (A) c 0)) 3 2) (ix (wa (A) c 0)) 0)) c 5 1) c).2) else (0, A)))
set_option maxRecDepth 20000 in
set_option maxHeartbeats 1000000 in
theorem ys_Yd_takeFirst {d b : Nat} {M : mm_M} {c : Nat} (hb : b = 8 ∨ b = 16) {n : Nat} (hn : cr (yv b M) c 10 = nI n) (hn8 : n ≤ 8) (hw0 : ¬ cr (yv b M) c 10 = 0 → okx 8 (wa (yv b M) c 0)) : YS (d + 2) 26 b M [.inr (3, b), .inr (0, b + 3 + 32 * c)] (none) (f_Yd_takeFirst (yv b M) c).2 := by
  refine YS_of (Nat.le_of_ble_eq_true rfl) ?_
  show mm_Wp pg_Yd_takeFirst rt_Yd_takeFirst (ct_Sem (d + 1)) (M, 0, [some (.inr (3, b)), some (.inr (0, b + 3 + 32 * c)), none], []) _
  refine wgo (g' := (M, 4, [some (.inr (3, b)), some (.inr (0, b + 3 + 32 * c)), none], [.inl (M (b + 3 + 32 * c) 10)])) [oz 0, oz 0] rfl ⟨trivial, trivial, trivial⟩ ?_
  by_cases h1 : (M (b + 3 + 32 * c) 10) = 0
  · have k2 : (cr ((yv b M)) c 10) = 0 := by
      have q : (cr (yv b M) c 10) = 0 := h1
      exact q
    refine wgo (g' := (M, 7, [some (.inr (3, b)), some (.inr (0, b + 3 + 32 * c)), none], [])) [oz 0] rfl ⟨(fun z => z h1), trivial⟩ ?_
    have x3 : f_Yd_takeFirst (yv b M) c = (0, (yv b M)) := by
      unfold f_Yd_takeFirst
      rw [if_pos k2]
    exact wend ⟨rfl, rfl⟩ ⟨rfl, (congrArg Prod.snd x3).symm, yf_rf⟩
  · have k4 : ¬ ((cr ((yv b M)) c 10) = 0) := by
      have q : ¬ ((cr (yv b M) c 10) = 0) := h1
      exact q
    refine wgo (g' := (M, 28, [some (.inr (3, b)), some (.inr (0, b + 3 + 32 * c)), some (.inl (M (b + 3 + 32 * c + 2) 0))], [.inl (M (b + 6 + 32 * (ix (M (b + 3 + 32 * c + 2) 0))) 2), .inl (M b 4)])) [oz 1, oz 0, oz 0, oz 0, oz 0, oz 0, oz 0, oz 0, oz 0, oz 0, oz 0, oz (ix (M (b + 3 + 32 * c + 2) 0)), oz 0] rfl ⟨h1, trivial, trivial, trivial, ⟨rfl, by decide⟩, Nat.le_of_ble_eq_true rfl, trivial, trivial, trivial, trivial, trivial, (hw0 k4), trivial, trivial⟩ ?_
    by_cases h5 : (M (b + 6 + 32 * (ix (M (b + 3 + 32 * c + 2) 0))) 2) ≤ (M b 4)
    · have k6 : (jb ((yv b M)) (ix (wa ((yv b M)) c 0)) 2) ≤ (sc ((yv b M)) 4) := by
        have q : (jb (yv b M) (ix (wa (yv b M) c 0)) 2) ≤ (sc (yv b M) 4) := h5
        exact q
      refine wgo (g' := (M, 34, [some (.inr (3, b)), some (.inr (0, b + 3 + 32 * c)), some (.inl (M (b + 3 + 32 * c + 2) 0))], [.inl (M (b + 3 + 32 * c + 2) 0), .inr (0, b + 3 + 32 * c)])) [oz 1, oz 0, oz 0] rfl ⟨h5, trivial, trivial, trivial⟩ ?_
      obtain ⟨M7, s8, a9, w10⟩ := ys_Cr_unqueue (d := d) (b := b) (M := M) (c := c) (x := M (b + 3 + 32 * c + 2) 0) hb hn hn8
      have a9 : yv b M7 = (f_Cr_unqueue ((yv b M)) c (wa ((yv b M)) c 0)).2 := a9.trans (show (f_Cr_unqueue ((yv b M)) c (wa (yv b M) c 0)).2 = _ from by first | rfl | simp only [yv])
      have w10 : yf b M M7 := yf_tr yf_rf w10
      refine wgo (g' := (mm_up M7 (b + 3 + 32 * c) 4 (M (b + 3 + 32 * c + 2) 0), 42, [some (.inr (3, b)), some (.inr (0, b + 3 + 32 * c)), some (.inl (M (b + 3 + 32 * c + 2) 0))], [])) [oc (none, M7), oz 0, oz 0, oz 0] rfl ⟨⟨s8, Nat.le_of_ble_eq_true rfl, Nat.le_of_ble_eq_true rfl, ⟨_, rfl⟩⟩, trivial, trivial, trivial, trivial⟩ ?_
      generalize e12 : mm_up M7 (b + 3 + 32 * c) 4 (M (b + 3 + 32 * c + 2) 0) = M11
      have a13 : yv b M11 = ucr ((f_Cr_unqueue ((yv b M)) c (wa ((yv b M)) c 0)).2) c 4 (wa ((yv b M)) c 0) := by
        rw [← e12]
        refine yv_cr.trans ?_
        show ucr ((yv b M7)) c 4 (wa (yv b M) c 0) = _
        first | rfl | simp only [a9]
      have w14 : yf b M M11 := by rw [← e12]; exact yf_up w10 (by unfold yo; omega)
      refine wgo (g' := (mm_up M11 (b + 6 + 32 * (ix (M (b + 3 + 32 * c + 2) 0))) 3 2, 52, [some (.inr (3, b)), some (.inr (0, b + 3 + 32 * c)), some (.inl (M (b + 3 + 32 * c + 2) 0))], [])) [oz 0, oz 0, oz 0, oz (ix (M (b + 3 + 32 * c + 2) 0)), oz 0, oz 0] rfl ⟨trivial, trivial, trivial, (hw0 k4), trivial, trivial, trivial⟩ ?_
      generalize e16 : mm_up M11 (b + 6 + 32 * (ix (M (b + 3 + 32 * c + 2) 0))) 3 2 = M15
      have a17 : yv b M15 = ujb (ucr ((f_Cr_unqueue ((yv b M)) c (wa ((yv b M)) c 0)).2) c 4 (wa ((yv b M)) c 0)) (ix (wa ((yv b M)) c 0)) 3 2 := by
        rw [← e16]
        refine yv_jb.trans ?_
        show ujb ((yv b M11)) (ix (wa (yv b M) c 0)) 3 2 = _
        first | rfl | simp only [a9, a13]
      have w18 : yf b M M15 := by rw [← e16]; exact yf_up w14 (by unfold yo; omega)
      refine wgo (g' := (mm_up M15 (b + 3 + 32 * c) 6 (M15 (b + 6 + 32 * (ix (M (b + 3 + 32 * c + 2) 0))) 0), 65, [some (.inr (3, b)), some (.inr (0, b + 3 + 32 * c)), some (.inl (M (b + 3 + 32 * c + 2) 0))], [])) [oz 0, oz 0, oz 0, oz 0, oz (ix (M (b + 3 + 32 * c + 2) 0)), oz 0, oz 0] rfl ⟨trivial, trivial, trivial, trivial, (hw0 k4), trivial, trivial, trivial⟩ ?_
      generalize e20 : mm_up M15 (b + 3 + 32 * c) 6 (M15 (b + 6 + 32 * (ix (M (b + 3 + 32 * c + 2) 0))) 0) = M19
      have a21 : yv b M19 = ucr (ujb (ucr ((f_Cr_unqueue ((yv b M)) c (wa ((yv b M)) c 0)).2) c 4 (wa ((yv b M)) c 0)) (ix (wa ((yv b M)) c 0)) 3 2) c 6 (jb (ujb (ucr ((f_Cr_unqueue ((yv b M)) c (wa ((yv b M)) c 0)).2) c 4 (wa ((yv b M)) c 0)) (ix (wa ((yv b M)) c 0)) 3 2) (ix (wa ((yv b M)) c 0)) 0) := by
        rw [← e20]
        refine yv_cr.trans ?_
        show ucr ((yv b M15)) c 6 (jb (yv b M15) (ix (wa (yv b M) c 0)) 0) = _
        first | rfl | simp only [a9, a13, a17]
      have w22 : yf b M M19 := by rw [← e20]; exact yf_up w18 (by unfold yo; omega)
      refine wgo (g' := (mm_up M19 (b + 3 + 32 * c) 5 1, 70, [some (.inr (3, b)), some (.inr (0, b + 3 + 32 * c)), some (.inl (M (b + 3 + 32 * c + 2) 0))], [])) [oz 0, oz 0, oz 0] rfl ⟨trivial, trivial, trivial, trivial⟩ ?_
      generalize e24 : mm_up M19 (b + 3 + 32 * c) 5 1 = M23
      have a25 : yv b M23 = ucr (ucr (ujb (ucr ((f_Cr_unqueue ((yv b M)) c (wa ((yv b M)) c 0)).2) c 4 (wa ((yv b M)) c 0)) (ix (wa ((yv b M)) c 0)) 3 2) c 6 (jb (ujb (ucr ((f_Cr_unqueue ((yv b M)) c (wa ((yv b M)) c 0)).2) c 4 (wa ((yv b M)) c 0)) (ix (wa ((yv b M)) c 0)) 3 2) (ix (wa ((yv b M)) c 0)) 0)) c 5 1 := by
        rw [← e24]
        refine yv_cr.trans ?_
        show ucr ((yv b M19)) c 5 1 = _
        first | rfl | simp only [a9, a13, a17, a21]
      have w26 : yf b M M23 := by rw [← e24]; exact yf_up w22 (by unfold yo; omega)
      refine wgo (g' := (M23, 72, [some (.inr (3, b)), some (.inr (0, b + 3 + 32 * c)), some (.inl (M (b + 3 + 32 * c + 2) 0))], [.inr (0, b + 3 + 32 * c), .inr (3, b)])) [oz 0, oz 0] rfl ⟨trivial, trivial, trivial⟩ ?_
      obtain ⟨M27, s28, a29, w30⟩ := ys_Yd_handleIfThere (d := d) (b := b) (M := M23) (c := c) hb 
      have a29 : yv b M27 = (f_Yd_handleIfThere (ucr (ucr (ujb (ucr ((f_Cr_unqueue ((yv b M)) c (wa ((yv b M)) c 0)).2) c 4 (wa ((yv b M)) c 0)) (ix (wa ((yv b M)) c 0)) 3 2) c 6 (jb (ujb (ucr ((f_Cr_unqueue ((yv b M)) c (wa ((yv b M)) c 0)).2) c 4 (wa ((yv b M)) c 0)) (ix (wa ((yv b M)) c 0)) 3 2) (ix (wa ((yv b M)) c 0)) 0)) c 5 1) c).2 := a29.trans (show (f_Yd_handleIfThere ((yv b M23)) c).2 = _ from by first | rfl | simp only [a9, a13, a17, a21, a25])
      have w30 : yf b M M27 := yf_tr w26 w30
      refine wgo (g' := (M27, 75, [some (.inr (3, b)), some (.inr (0, b + 3 + 32 * c)), some (.inl (M (b + 3 + 32 * c + 2) 0))], [])) [oc (none, M27)] rfl ⟨⟨s28, Nat.le_of_ble_eq_true rfl, Nat.le_of_ble_eq_true rfl, ⟨_, rfl⟩⟩, trivial⟩ ?_
      have x31 : f_Yd_takeFirst (yv b M) c = (0, (f_Yd_handleIfThere (ucr (ucr (ujb (ucr ((f_Cr_unqueue ((yv b M)) c (wa ((yv b M)) c 0)).2) c 4 (wa ((yv b M)) c 0)) (ix (wa ((yv b M)) c 0)) 3 2) c 6 (jb (ujb (ucr ((f_Cr_unqueue ((yv b M)) c (wa ((yv b M)) c 0)).2) c 4 (wa ((yv b M)) c 0)) (ix (wa ((yv b M)) c 0)) 3 2) (ix (wa ((yv b M)) c 0)) 0)) c 5 1) c).2) := by
        unfold f_Yd_takeFirst
        rw [if_neg k4, if_pos k6]
      exact wend ⟨rfl, rfl⟩ ⟨rfl, a29.trans (congrArg Prod.snd x31).symm, w30⟩
    · have k32 : ¬ ((jb ((yv b M)) (ix (wa ((yv b M)) c 0)) 2) ≤ (sc ((yv b M)) 4)) := by
        have q : ¬ ((jb (yv b M) (ix (wa (yv b M) c 0)) 2) ≤ (sc (yv b M) 4)) := h5
        exact q
      refine wgo (g' := (M, 31, [some (.inr (3, b)), some (.inr (0, b + 3 + 32 * c)), some (.inl (M (b + 3 + 32 * c + 2) 0))], [])) [oz 0] rfl ⟨h5, trivial⟩ ?_
      have x33 : f_Yd_takeFirst (yv b M) c = (0, (yv b M)) := by
        unfold f_Yd_takeFirst
        rw [if_neg k4, if_neg k32]
      exact wend ⟨rfl, rfl⟩ ⟨rfl, (congrArg Prod.snd x33).symm, yf_rf⟩
theorem sw_out {x : Int32} (h1 : ¬ x = 1) (h2 : ¬ x = 2) (h3 : ¬ x = 3) (h4 : ¬ x = 4) : x.toInt < 1 ∨ 4 < x.toInt := by
  rcases Int.lt_or_le x.toInt 1 with q | q
  · exact Or.inl q
  · rcases Int.lt_or_le 4 x.toInt with z | z
    · exact Or.inr z
    · exfalso
      have e : x.toInt = 1 ∨ x.toInt = 2 ∨ x.toInt = 3 ∨ x.toInt = 4 := by omega
      rcases e with e | e | e | e
      · exact h1 (Int32.toInt_inj.mp (e.trans (by decide)))
      · exact h2 (Int32.toInt_inj.mp (e.trans (by decide)))
      · exact h3 (Int32.toInt_inj.mp (e.trans (by decide)))
      · exact h4 (Int32.toInt_inj.mp (e.trans (by decide)))
/-- what crane c's second needs -/
def yone (A : ya) (n c : Nat) : Prop := ynn A n ∧ (∃ m, m ≤ 8 ∧ cr A c 10 = nI m) ∧ (¬ cr A c 10 = 0 → okx 8 (wa A c 0)) ∧ ∀ A1, (A1 = A ∨ A1 = (f_Yd_takeFirst A c).2) → ynn A1 n ∧ ((cr A1 c 5 = 2 ∨ cr A1 c 5 = 4) → okx 8 (cr A1 c 4))
def f_Yd_passSecondOf (A : ya) (c : Nat) : Int32 × ya := (if (cr (A) c 3) = 0 then (if (cr (A) c 4) = ((-1)) then (if (cr ((f_Yd_takeFirst (A) c).2) c 5) = 1 then (if (cr ((f_Yd_handleIfThere ((f_Yd_moveToward ((f_Yd_takeFirst (A) c).2) c (cr ((f_Yd_takeFirst (A) c).2) c 6)).2) c).2) c 0) = (cr ((f_Yd_takeFirst (A) c).2) c 0) then (1, (f_Yd_handleIfThere ((f_Yd_moveToward ((f_Yd_takeFirst (A) c).2) c (cr ((f_Yd_takeFirst (A) c).2) c 6)).2) c).2) else (0, (f_Yd_handleIfThere ((f_Yd_moveToward ((f_Yd_takeFirst (A) c).2) c (cr ((f_Yd_takeFirst (A) c).2) c 6)).2) c).2)) else (if (cr ((f_Yd_takeFirst (A) c).2) c 5) = 2 then (0, (f_Yd_liftOn ((f_Yd_takeFirst (A) c).2) c).2) else (if (cr ((f_Yd_takeFirst (A) c).2) c 5) = 3 then (if (cr ((f_Yd_handleIfThere ((f_Yd_moveToward ((f_Yd_takeFirst (A) c).2) c (cr ((f_Yd_takeFirst (A) c).2) c 6)).2) c).2) c 0) = (cr ((f_Yd_takeFirst (A) c).2) c 0) then (1, (f_Yd_handleIfThere ((f_Yd_moveToward ((f_Yd_takeFirst (A) c).2) c (cr ((f_Yd_takeFirst (A) c).2) c 6)).2) c).2) else (0, (f_Yd_handleIfThere ((f_Yd_moveToward ((f_Yd_takeFirst (A) c).2) c (cr ((f_Yd_takeFirst (A) c).2) c 6)).2) c).2)) else (if (cr ((f_Yd_takeFirst (A) c).2) c 5) = 4 then (0, (f_Yd_setOn ((f_Yd_takeFirst (A) c).2) c).2) else (2, (f_Yd_moveToward ((f_Yd_takeFirst (A) c).2) c (f_Yd_placeOutOfTheWay ((f_Yd_takeFirst (A) c).2) c)).2))))) else (if (cr (A) c 5) = 1 then (if (cr ((f_Yd_handleIfThere ((f_Yd_moveToward (A) c (cr (A) c 6)).2) c).2) c 0) = (cr (A) c 0) then (1, (f_Yd_handleIfThere ((f_Yd_moveToward (A) c (cr (A) c 6)).2) c).2) else (0, (f_Yd_handleIfThere ((f_Yd_moveToward (A) c (cr (A) c 6)).2) c).2)) else (if (cr (A) c 5) = 2 then (0, (f_Yd_liftOn (A) c).2) else (if (cr (A) c 5) = 3 then (if (cr ((f_Yd_handleIfThere ((f_Yd_moveToward (A) c (cr (A) c 6)).2) c).2) c 0) = (cr (A) c 0) then (1, (f_Yd_handleIfThere ((f_Yd_moveToward (A) c (cr (A) c 6)).2) c).2) else (0, (f_Yd_handleIfThere ((f_Yd_moveToward (A) c (cr (A) c 6)).2) c).2)) else (if (cr (A) c 5) = 4 then (0, (f_Yd_setOn (A) c).2) else (2, (f_Yd_moveToward (A) c (f_Yd_placeOutOfTheWay (A) c)).2)))))) else (3, A))
set_option maxRecDepth 20000 in
set_option maxHeartbeats 1000000 in
theorem ys_Yd_passSecondOf {d b : Nat} {M : mm_M} {c : Nat} (hb : b = 8 ∨ b = 16) {n : Nat} (hc : c < 3) (hy : yone (yv b M) n c) : YS (d + 3) 25 b M [.inr (3, b), .inl (nI c)] (some (f_Yd_passSecondOf (yv b M) c).1) (f_Yd_passSecondOf (yv b M) c).2 := by
  refine YS_of (Nat.le_of_ble_eq_true rfl) ?_
  show mm_Wp pg_Yd_passSecondOf rt_Yd_passSecondOf (ct_Sem (d + 2)) (M, 0, [some (.inr (3, b)), some (.inl (nI c)), none, none], []) _
  refine wgo (g' := (M, 11, [some (.inr (3, b)), some (.inl (nI c)), some (.inr (0, b + 3 + 32 * c)), none], [.inl (M (b + 3 + 32 * c) 3)])) [oz 0, oz 0, oz 0, oz c, oz 0, oz 0, oz 0] rfl ⟨trivial, trivial, trivial, ⟨rfl, (show c < 3 from by omega)⟩, Nat.le_of_ble_eq_true rfl, trivial, trivial, trivial⟩ ?_
  by_cases h1 : (M (b + 3 + 32 * c) 3) = 0
  · have k2 : (cr ((yv b M)) c 3) = 0 := by
      have q : (cr (yv b M) c 3) = 0 := h1
      exact q
    refine wgo (g' := (M, 21, [some (.inr (3, b)), some (.inl (nI c)), some (.inr (0, b + 3 + 32 * c)), none], [.inl ((-1)), .inl (M (b + 3 + 32 * c) 4)])) [oz 1, oz 0, oz 0, oz 0] rfl ⟨h1, trivial, trivial, trivial, trivial⟩ ?_
    by_cases h3 : (M (b + 3 + 32 * c) 4) = ((-1))
    · have k4 : (cr ((yv b M)) c 4) = ((-1)) := by
        have q : (cr (yv b M) c 4) = ((-1)) := h3
        exact q
      refine wgo (g' := (M, 26, [some (.inr (3, b)), some (.inl (nI c)), some (.inr (0, b + 3 + 32 * c)), none], [.inr (0, b + 3 + 32 * c), .inr (3, b)])) [oz 0, oz 0, oz 0] rfl ⟨(fun z => z h3), trivial, trivial, trivial⟩ ?_
      obtain ⟨M5, s6, a7, w8⟩ := ys_Yd_takeFirst (d := d) (b := b) (M := M) (c := c) hb hy.2.1.choose_spec.2 hy.2.1.choose_spec.1 hy.2.2.1
      have a7 : yv b M5 = (f_Yd_takeFirst ((yv b M)) c).2 := a7.trans (show (f_Yd_takeFirst ((yv b M)) c).2 = _ from by first | rfl | simp only [yv])
      have w8 : yf b M M5 := yf_tr yf_rf w8
      refine wgo (g' := (M5, 33, [some (.inr (3, b)), some (.inl (nI c)), some (.inr (0, b + 3 + 32 * c)), none], [.inl (M5 (b + 3 + 32 * c) 5)])) [oc (none, M5), oz 0, oz 0] rfl ⟨⟨s6, Nat.le_of_ble_eq_true rfl, Nat.le_of_ble_eq_true rfl, ⟨_, rfl⟩⟩, trivial, trivial, trivial⟩ ?_
      by_cases h9 : M5 (b + 3 + 32 * c) 5 = 1
      · have k10 : (cr ((f_Yd_takeFirst ((yv b M)) c).2) c 5) = 1 := by
          have q : (cr (yv b M5) c 5) = 1 := h9
          first | exact q | (simp only [a7] at q; exact q)
        refine wgo (g' := (M5, 89, [some (.inr (3, b)), some (.inl (nI c)), some (.inr (0, b + 3 + 32 * c)), some (.inl (M5 (b + 3 + 32 * c) 0))], [.inl (M5 (b + 3 + 32 * c) 6), .inl (nI c), .inr (3, b)])) [oz 1, oz 0, oz 0, oz 0, oz 0, oz 0, oz 0, oz 0] rfl ⟨(by rw [h9]; decide), trivial, trivial, Nat.le_of_ble_eq_true rfl, trivial, trivial, trivial, trivial, trivial⟩ ?_
        obtain ⟨M11, s12, a13, w14⟩ := ys_Yd_moveToward (d := d) (b := b) (M := M5) (c := c) (t := M5 (b + 3 + 32 * c) 6) hb hc (hy.2.2.2 _ (Or.inr a7)).1
        have a13 : yv b M11 = (f_Yd_moveToward ((f_Yd_takeFirst ((yv b M)) c).2) c (cr ((f_Yd_takeFirst ((yv b M)) c).2) c 6)).2 := a13.trans (show (f_Yd_moveToward ((yv b M5)) c (cr (yv b M5) c 6)).2 = _ from by first | rfl | simp only [a7])
        have w14 : yf b M M11 := yf_tr w8 w14
        refine wgo (g' := (M11, 94, [some (.inr (3, b)), some (.inl (nI c)), some (.inr (0, b + 3 + 32 * c)), some (.inl (M5 (b + 3 + 32 * c) 0))], [.inr (0, b + 3 + 32 * c), .inr (3, b)])) [oc (none, M11), oz 0, oz 0] rfl ⟨⟨s12, Nat.le_of_ble_eq_true rfl, Nat.le_of_ble_eq_true rfl, ⟨_, rfl⟩⟩, trivial, trivial, trivial⟩ ?_
        obtain ⟨M15, s16, a17, w18⟩ := ys_Yd_handleIfThere (d := d + 1) (b := b) (M := M11) (c := c) hb 
        have a17 : yv b M15 = (f_Yd_handleIfThere ((f_Yd_moveToward ((f_Yd_takeFirst ((yv b M)) c).2) c (cr ((f_Yd_takeFirst ((yv b M)) c).2) c 6)).2) c).2 := a17.trans (show (f_Yd_handleIfThere ((yv b M11)) c).2 = _ from by first | rfl | simp only [a7, a13])
        have w18 : yf b M M15 := yf_tr w14 w18
        refine wgo (g' := (M15, 102, [some (.inr (3, b)), some (.inl (nI c)), some (.inr (0, b + 3 + 32 * c)), some (.inl (M5 (b + 3 + 32 * c) 0))], [.inl (M5 (b + 3 + 32 * c) 0), .inl (M15 (b + 3 + 32 * c) 0)])) [oc (none, M15), oz 0, oz 0, oz 0] rfl ⟨⟨s16, Nat.le_of_ble_eq_true rfl, Nat.le_of_ble_eq_true rfl, ⟨_, rfl⟩⟩, trivial, trivial, trivial, trivial⟩ ?_
        by_cases h19 : (M15 (b + 3 + 32 * c) 0) = (M5 (b + 3 + 32 * c) 0)
        · have k20 : (cr ((f_Yd_handleIfThere ((f_Yd_moveToward ((f_Yd_takeFirst ((yv b M)) c).2) c (cr ((f_Yd_takeFirst ((yv b M)) c).2) c 6)).2) c).2) c 0) = (cr ((f_Yd_takeFirst ((yv b M)) c).2) c 0) := by
            have q : (cr (yv b M15) c 0) = (cr (yv b M5) c 0) := h19
            first | exact q | (simp only [a7, a13, a17] at q; exact q)
          refine wgo (g' := (M15, 110, [some (.inr (3, b)), some (.inl (nI c)), some (.inr (0, b + 3 + 32 * c)), some (.inl (M5 (b + 3 + 32 * c) 0))], [.inl 1])) [oz 0, oz 0, oz 0] rfl ⟨(fun z => z h19), trivial, trivial, trivial⟩ ?_
          have x21 : f_Yd_passSecondOf (yv b M) c = (1, (f_Yd_handleIfThere ((f_Yd_moveToward ((f_Yd_takeFirst ((yv b M)) c).2) c (cr ((f_Yd_takeFirst ((yv b M)) c).2) c 6)).2) c).2) := by
            unfold f_Yd_passSecondOf
            rw [if_pos k2, if_pos k4, if_pos k10, if_pos k20]
          exact wend ⟨_, rfl, rfl⟩ ⟨congrArg some ((show (1 : Int32) = 1 from by first | rfl | simp only [a7, a13, a17]).trans (congrArg Prod.fst x21).symm), a17.trans (congrArg Prod.snd x21).symm, w18⟩
        · have k22 : ¬ ((cr ((f_Yd_handleIfThere ((f_Yd_moveToward ((f_Yd_takeFirst ((yv b M)) c).2) c (cr ((f_Yd_takeFirst ((yv b M)) c).2) c 6)).2) c).2) c 0) = (cr ((f_Yd_takeFirst ((yv b M)) c).2) c 0)) := by
            have q : ¬ ((cr (yv b M15) c 0) = (cr (yv b M5) c 0)) := h19
            first | exact q | (simp only [a7, a13, a17] at q; exact q)
          refine wgo (g' := (M15, 110, [some (.inr (3, b)), some (.inl (nI c)), some (.inr (0, b + 3 + 32 * c)), some (.inl (M5 (b + 3 + 32 * c) 0))], [.inl 0])) [oz 1, oz 0] rfl ⟨h19, trivial, trivial⟩ ?_
          have x23 : f_Yd_passSecondOf (yv b M) c = (0, (f_Yd_handleIfThere ((f_Yd_moveToward ((f_Yd_takeFirst ((yv b M)) c).2) c (cr ((f_Yd_takeFirst ((yv b M)) c).2) c 6)).2) c).2) := by
            unfold f_Yd_passSecondOf
            rw [if_pos k2, if_pos k4, if_pos k10, if_neg k22]
          exact wend ⟨_, rfl, rfl⟩ ⟨congrArg some ((show (0 : Int32) = 0 from by first | rfl | simp only [a7, a13, a17]).trans (congrArg Prod.fst x23).symm), a17.trans (congrArg Prod.snd x23).symm, w18⟩
      · have k10 : ¬ ((cr ((f_Yd_takeFirst ((yv b M)) c).2) c 5) = 1) := by
          have q : ¬ ((cr (yv b M5) c 5) = 1) := h9
          first | exact q | (simp only [a7] at q; exact q)
        by_cases h24 : M5 (b + 3 + 32 * c) 5 = 2
        · have k25 : (cr ((f_Yd_takeFirst ((yv b M)) c).2) c 5) = 2 := by
            have q : (cr (yv b M5) c 5) = 2 := h24
            first | exact q | (simp only [a7] at q; exact q)
          refine wgo (g' := (M5, 66, [some (.inr (3, b)), some (.inl (nI c)), some (.inr (0, b + 3 + 32 * c)), none], [.inr (0, b + 3 + 32 * c), .inr (3, b)])) [oz 2, oz 0, oz 0] rfl ⟨(by rw [h24]; decide), trivial, trivial, trivial⟩ ?_
          obtain ⟨M26, s27, a28, w29⟩ := ys_Yd_liftOn (d := d) (b := b) (M := M5) (c := c) hb ((hy.2.2.2 _ (Or.inr a7)).2 (Or.inl h24))
          have a28 : yv b M26 = (f_Yd_liftOn ((f_Yd_takeFirst ((yv b M)) c).2) c).2 := a28.trans (show (f_Yd_liftOn ((yv b M5)) c).2 = _ from by first | rfl | simp only [a7])
          have w29 : yf b M M26 := yf_tr w8 w29
          refine wgo (g' := (M26, 70, [some (.inr (3, b)), some (.inl (nI c)), some (.inr (0, b + 3 + 32 * c)), none], [.inl 0])) [oc (none, M26), oz 0] rfl ⟨⟨s27, Nat.le_of_ble_eq_true rfl, Nat.le_of_ble_eq_true rfl, ⟨_, rfl⟩⟩, trivial, trivial⟩ ?_
          have x30 : f_Yd_passSecondOf (yv b M) c = (0, (f_Yd_liftOn ((f_Yd_takeFirst ((yv b M)) c).2) c).2) := by
            unfold f_Yd_passSecondOf
            rw [if_pos k2, if_pos k4, if_neg k10, if_pos k25]
          exact wend ⟨_, rfl, rfl⟩ ⟨congrArg some ((show (0 : Int32) = 0 from by first | rfl | simp only [a7, a28]).trans (congrArg Prod.fst x30).symm), a28.trans (congrArg Prod.snd x30).symm, w29⟩
        · have k25 : ¬ ((cr ((f_Yd_takeFirst ((yv b M)) c).2) c 5) = 2) := by
            have q : ¬ ((cr (yv b M5) c 5) = 2) := h24
            first | exact q | (simp only [a7] at q; exact q)
          by_cases h31 : M5 (b + 3 + 32 * c) 5 = 3
          · have k32 : (cr ((f_Yd_takeFirst ((yv b M)) c).2) c 5) = 3 := by
              have q : (cr (yv b M5) c 5) = 3 := h31
              first | exact q | (simp only [a7] at q; exact q)
            refine wgo (g' := (M5, 89, [some (.inr (3, b)), some (.inl (nI c)), some (.inr (0, b + 3 + 32 * c)), some (.inl (M5 (b + 3 + 32 * c) 0))], [.inl (M5 (b + 3 + 32 * c) 6), .inl (nI c), .inr (3, b)])) [oz 3, oz 0, oz 0, oz 0, oz 0, oz 0, oz 0, oz 0] rfl ⟨(by rw [h31]; decide), trivial, trivial, Nat.le_of_ble_eq_true rfl, trivial, trivial, trivial, trivial, trivial⟩ ?_
            obtain ⟨M33, s34, a35, w36⟩ := ys_Yd_moveToward (d := d) (b := b) (M := M5) (c := c) (t := M5 (b + 3 + 32 * c) 6) hb hc (hy.2.2.2 _ (Or.inr a7)).1
            have a35 : yv b M33 = (f_Yd_moveToward ((f_Yd_takeFirst ((yv b M)) c).2) c (cr ((f_Yd_takeFirst ((yv b M)) c).2) c 6)).2 := a35.trans (show (f_Yd_moveToward ((yv b M5)) c (cr (yv b M5) c 6)).2 = _ from by first | rfl | simp only [a7])
            have w36 : yf b M M33 := yf_tr w8 w36
            refine wgo (g' := (M33, 94, [some (.inr (3, b)), some (.inl (nI c)), some (.inr (0, b + 3 + 32 * c)), some (.inl (M5 (b + 3 + 32 * c) 0))], [.inr (0, b + 3 + 32 * c), .inr (3, b)])) [oc (none, M33), oz 0, oz 0] rfl ⟨⟨s34, Nat.le_of_ble_eq_true rfl, Nat.le_of_ble_eq_true rfl, ⟨_, rfl⟩⟩, trivial, trivial, trivial⟩ ?_
            obtain ⟨M37, s38, a39, w40⟩ := ys_Yd_handleIfThere (d := d + 1) (b := b) (M := M33) (c := c) hb 
            have a39 : yv b M37 = (f_Yd_handleIfThere ((f_Yd_moveToward ((f_Yd_takeFirst ((yv b M)) c).2) c (cr ((f_Yd_takeFirst ((yv b M)) c).2) c 6)).2) c).2 := a39.trans (show (f_Yd_handleIfThere ((yv b M33)) c).2 = _ from by first | rfl | simp only [a7, a35])
            have w40 : yf b M M37 := yf_tr w36 w40
            refine wgo (g' := (M37, 102, [some (.inr (3, b)), some (.inl (nI c)), some (.inr (0, b + 3 + 32 * c)), some (.inl (M5 (b + 3 + 32 * c) 0))], [.inl (M5 (b + 3 + 32 * c) 0), .inl (M37 (b + 3 + 32 * c) 0)])) [oc (none, M37), oz 0, oz 0, oz 0] rfl ⟨⟨s38, Nat.le_of_ble_eq_true rfl, Nat.le_of_ble_eq_true rfl, ⟨_, rfl⟩⟩, trivial, trivial, trivial, trivial⟩ ?_
            by_cases h41 : (M37 (b + 3 + 32 * c) 0) = (M5 (b + 3 + 32 * c) 0)
            · have k42 : (cr ((f_Yd_handleIfThere ((f_Yd_moveToward ((f_Yd_takeFirst ((yv b M)) c).2) c (cr ((f_Yd_takeFirst ((yv b M)) c).2) c 6)).2) c).2) c 0) = (cr ((f_Yd_takeFirst ((yv b M)) c).2) c 0) := by
                have q : (cr (yv b M37) c 0) = (cr (yv b M5) c 0) := h41
                first | exact q | (simp only [a7, a35, a39] at q; exact q)
              refine wgo (g' := (M37, 110, [some (.inr (3, b)), some (.inl (nI c)), some (.inr (0, b + 3 + 32 * c)), some (.inl (M5 (b + 3 + 32 * c) 0))], [.inl 1])) [oz 0, oz 0, oz 0] rfl ⟨(fun z => z h41), trivial, trivial, trivial⟩ ?_
              have x43 : f_Yd_passSecondOf (yv b M) c = (1, (f_Yd_handleIfThere ((f_Yd_moveToward ((f_Yd_takeFirst ((yv b M)) c).2) c (cr ((f_Yd_takeFirst ((yv b M)) c).2) c 6)).2) c).2) := by
                unfold f_Yd_passSecondOf
                rw [if_pos k2, if_pos k4, if_neg k10, if_neg k25, if_pos k32, if_pos k42]
              exact wend ⟨_, rfl, rfl⟩ ⟨congrArg some ((show (1 : Int32) = 1 from by first | rfl | simp only [a7, a35, a39]).trans (congrArg Prod.fst x43).symm), a39.trans (congrArg Prod.snd x43).symm, w40⟩
            · have k44 : ¬ ((cr ((f_Yd_handleIfThere ((f_Yd_moveToward ((f_Yd_takeFirst ((yv b M)) c).2) c (cr ((f_Yd_takeFirst ((yv b M)) c).2) c 6)).2) c).2) c 0) = (cr ((f_Yd_takeFirst ((yv b M)) c).2) c 0)) := by
                have q : ¬ ((cr (yv b M37) c 0) = (cr (yv b M5) c 0)) := h41
                first | exact q | (simp only [a7, a35, a39] at q; exact q)
              refine wgo (g' := (M37, 110, [some (.inr (3, b)), some (.inl (nI c)), some (.inr (0, b + 3 + 32 * c)), some (.inl (M5 (b + 3 + 32 * c) 0))], [.inl 0])) [oz 1, oz 0] rfl ⟨h41, trivial, trivial⟩ ?_
              have x45 : f_Yd_passSecondOf (yv b M) c = (0, (f_Yd_handleIfThere ((f_Yd_moveToward ((f_Yd_takeFirst ((yv b M)) c).2) c (cr ((f_Yd_takeFirst ((yv b M)) c).2) c 6)).2) c).2) := by
                unfold f_Yd_passSecondOf
                rw [if_pos k2, if_pos k4, if_neg k10, if_neg k25, if_pos k32, if_neg k44]
              exact wend ⟨_, rfl, rfl⟩ ⟨congrArg some ((show (0 : Int32) = 0 from by first | rfl | simp only [a7, a35, a39]).trans (congrArg Prod.fst x45).symm), a39.trans (congrArg Prod.snd x45).symm, w40⟩
          · have k32 : ¬ ((cr ((f_Yd_takeFirst ((yv b M)) c).2) c 5) = 3) := by
              have q : ¬ ((cr (yv b M5) c 5) = 3) := h31
              first | exact q | (simp only [a7] at q; exact q)
            by_cases h46 : M5 (b + 3 + 32 * c) 5 = 4
            · have k47 : (cr ((f_Yd_takeFirst ((yv b M)) c).2) c 5) = 4 := by
                have q : (cr (yv b M5) c 5) = 4 := h46
                first | exact q | (simp only [a7] at q; exact q)
              refine wgo (g' := (M5, 73, [some (.inr (3, b)), some (.inl (nI c)), some (.inr (0, b + 3 + 32 * c)), none], [.inr (0, b + 3 + 32 * c), .inr (3, b)])) [oz 4, oz 0, oz 0] rfl ⟨(by rw [h46]; decide), trivial, trivial, trivial⟩ ?_
              obtain ⟨M48, s49, a50, w51⟩ := ys_Yd_setOn (d := d + 1) (b := b) (M := M5) (c := c) hb ((hy.2.2.2 _ (Or.inr a7)).2 (Or.inr h46))
              have a50 : yv b M48 = (f_Yd_setOn ((f_Yd_takeFirst ((yv b M)) c).2) c).2 := a50.trans (show (f_Yd_setOn ((yv b M5)) c).2 = _ from by first | rfl | simp only [a7])
              have w51 : yf b M M48 := yf_tr w8 w51
              refine wgo (g' := (M48, 77, [some (.inr (3, b)), some (.inl (nI c)), some (.inr (0, b + 3 + 32 * c)), none], [.inl 0])) [oc (none, M48), oz 0] rfl ⟨⟨s49, Nat.le_of_ble_eq_true rfl, Nat.le_of_ble_eq_true rfl, ⟨_, rfl⟩⟩, trivial, trivial⟩ ?_
              have x52 : f_Yd_passSecondOf (yv b M) c = (0, (f_Yd_setOn ((f_Yd_takeFirst ((yv b M)) c).2) c).2) := by
                unfold f_Yd_passSecondOf
                rw [if_pos k2, if_pos k4, if_neg k10, if_neg k25, if_neg k32, if_pos k47]
              exact wend ⟨_, rfl, rfl⟩ ⟨congrArg some ((show (0 : Int32) = 0 from by first | rfl | simp only [a7, a50]).trans (congrArg Prod.fst x52).symm), a50.trans (congrArg Prod.snd x52).symm, w51⟩
            · have k47 : ¬ ((cr ((f_Yd_takeFirst ((yv b M)) c).2) c 5) = 4) := by
                have q : ¬ ((cr (yv b M5) c 5) = 4) := h46
                first | exact q | (simp only [a7] at q; exact q)
              refine wgo (g' := (M5, 115, [some (.inr (3, b)), some (.inl (nI c)), some (.inr (0, b + 3 + 32 * c)), none], [.inl (nI c), .inr (3, b), .inl (nI c), .inr (3, b)])) [oz 0, oz 0, oz 0, oz 0, oz 0] rfl ⟨(sw_out (h9) (h24) (h31) (h46)), trivial, trivial, trivial, trivial, trivial⟩ ?_
              have s53 := sm_Yd_placeOutOfTheWay (d := d) (b := b) (M := M5) (c := c) hc (hy.2.2.2 _ (Or.inr a7)).1
              refine wgo (g' := (M5, 118, [some (.inr (3, b)), some (.inl (nI c)), some (.inr (0, b + 3 + 32 * c)), none], [.inl (f_Yd_placeOutOfTheWay (yv b M5) c), .inl (nI c), .inr (3, b)])) [oc (some (f_Yd_placeOutOfTheWay (yv b M5) c), M5)] rfl ⟨⟨s53, Nat.le_of_ble_eq_true rfl, Nat.le_of_ble_eq_true rfl, ⟨_, rfl⟩⟩, trivial⟩ ?_
              obtain ⟨M54, s55, a56, w57⟩ := ys_Yd_moveToward (d := d) (b := b) (M := M5) (c := c) (t := f_Yd_placeOutOfTheWay (yv b M5) c) hb hc (hy.2.2.2 _ (Or.inr a7)).1
              have a56 : yv b M54 = (f_Yd_moveToward ((f_Yd_takeFirst ((yv b M)) c).2) c (f_Yd_placeOutOfTheWay ((f_Yd_takeFirst ((yv b M)) c).2) c)).2 := a56.trans (show (f_Yd_moveToward ((yv b M5)) c (f_Yd_placeOutOfTheWay (yv b M5) c)).2 = _ from by first | rfl | simp only [a7])
              have w57 : yf b M M54 := yf_tr w8 w57
              refine wgo (g' := (M54, 122, [some (.inr (3, b)), some (.inl (nI c)), some (.inr (0, b + 3 + 32 * c)), none], [.inl 2])) [oc (none, M54), oz 0] rfl ⟨⟨s55, Nat.le_of_ble_eq_true rfl, Nat.le_of_ble_eq_true rfl, ⟨_, rfl⟩⟩, trivial, trivial⟩ ?_
              have x58 : f_Yd_passSecondOf (yv b M) c = (2, (f_Yd_moveToward ((f_Yd_takeFirst ((yv b M)) c).2) c (f_Yd_placeOutOfTheWay ((f_Yd_takeFirst ((yv b M)) c).2) c)).2) := by
                unfold f_Yd_passSecondOf
                rw [if_pos k2, if_pos k4, if_neg k10, if_neg k25, if_neg k32, if_neg k47]
              exact wend ⟨_, rfl, rfl⟩ ⟨congrArg some ((show (2 : Int32) = 2 from by first | rfl | simp only [a7, a56]).trans (congrArg Prod.fst x58).symm), a56.trans (congrArg Prod.snd x58).symm, w57⟩
    · have k59 : ¬ ((cr ((yv b M)) c 4) = ((-1))) := by
        have q : ¬ ((cr (yv b M) c 4) = ((-1))) := h3
        exact q
      refine wgo (g' := (M, 33, [some (.inr (3, b)), some (.inl (nI c)), some (.inr (0, b + 3 + 32 * c)), none], [.inl (M (b + 3 + 32 * c) 5)])) [oz 1, oz 0, oz 0] rfl ⟨h3, trivial, trivial, trivial⟩ ?_
      by_cases h60 : M (b + 3 + 32 * c) 5 = 1
      · have k61 : (cr ((yv b M)) c 5) = 1 := by
          have q : (cr (yv b M) c 5) = 1 := h60
          exact q
        refine wgo (g' := (M, 89, [some (.inr (3, b)), some (.inl (nI c)), some (.inr (0, b + 3 + 32 * c)), some (.inl (M (b + 3 + 32 * c) 0))], [.inl (M (b + 3 + 32 * c) 6), .inl (nI c), .inr (3, b)])) [oz 1, oz 0, oz 0, oz 0, oz 0, oz 0, oz 0, oz 0] rfl ⟨(by rw [h60]; decide), trivial, trivial, Nat.le_of_ble_eq_true rfl, trivial, trivial, trivial, trivial, trivial⟩ ?_
        obtain ⟨M62, s63, a64, w65⟩ := ys_Yd_moveToward (d := d) (b := b) (M := M) (c := c) (t := M (b + 3 + 32 * c) 6) hb hc (hy.2.2.2 _ (Or.inl rfl)).1
        have a64 : yv b M62 = (f_Yd_moveToward ((yv b M)) c (cr ((yv b M)) c 6)).2 := a64.trans (show (f_Yd_moveToward ((yv b M)) c (cr (yv b M) c 6)).2 = _ from by first | rfl | simp only [yv])
        have w65 : yf b M M62 := yf_tr yf_rf w65
        refine wgo (g' := (M62, 94, [some (.inr (3, b)), some (.inl (nI c)), some (.inr (0, b + 3 + 32 * c)), some (.inl (M (b + 3 + 32 * c) 0))], [.inr (0, b + 3 + 32 * c), .inr (3, b)])) [oc (none, M62), oz 0, oz 0] rfl ⟨⟨s63, Nat.le_of_ble_eq_true rfl, Nat.le_of_ble_eq_true rfl, ⟨_, rfl⟩⟩, trivial, trivial, trivial⟩ ?_
        obtain ⟨M66, s67, a68, w69⟩ := ys_Yd_handleIfThere (d := d + 1) (b := b) (M := M62) (c := c) hb 
        have a68 : yv b M66 = (f_Yd_handleIfThere ((f_Yd_moveToward ((yv b M)) c (cr ((yv b M)) c 6)).2) c).2 := a68.trans (show (f_Yd_handleIfThere ((yv b M62)) c).2 = _ from by first | rfl | simp only [a64])
        have w69 : yf b M M66 := yf_tr w65 w69
        refine wgo (g' := (M66, 102, [some (.inr (3, b)), some (.inl (nI c)), some (.inr (0, b + 3 + 32 * c)), some (.inl (M (b + 3 + 32 * c) 0))], [.inl (M (b + 3 + 32 * c) 0), .inl (M66 (b + 3 + 32 * c) 0)])) [oc (none, M66), oz 0, oz 0, oz 0] rfl ⟨⟨s67, Nat.le_of_ble_eq_true rfl, Nat.le_of_ble_eq_true rfl, ⟨_, rfl⟩⟩, trivial, trivial, trivial, trivial⟩ ?_
        by_cases h70 : (M66 (b + 3 + 32 * c) 0) = (M (b + 3 + 32 * c) 0)
        · have k71 : (cr ((f_Yd_handleIfThere ((f_Yd_moveToward ((yv b M)) c (cr ((yv b M)) c 6)).2) c).2) c 0) = (cr ((yv b M)) c 0) := by
            have q : (cr (yv b M66) c 0) = (cr (yv b M) c 0) := h70
            first | exact q | (simp only [a64, a68] at q; exact q)
          refine wgo (g' := (M66, 110, [some (.inr (3, b)), some (.inl (nI c)), some (.inr (0, b + 3 + 32 * c)), some (.inl (M (b + 3 + 32 * c) 0))], [.inl 1])) [oz 0, oz 0, oz 0] rfl ⟨(fun z => z h70), trivial, trivial, trivial⟩ ?_
          have x72 : f_Yd_passSecondOf (yv b M) c = (1, (f_Yd_handleIfThere ((f_Yd_moveToward ((yv b M)) c (cr ((yv b M)) c 6)).2) c).2) := by
            unfold f_Yd_passSecondOf
            rw [if_pos k2, if_neg k59, if_pos k61, if_pos k71]
          exact wend ⟨_, rfl, rfl⟩ ⟨congrArg some ((show (1 : Int32) = 1 from by first | rfl | simp only [a64, a68]).trans (congrArg Prod.fst x72).symm), a68.trans (congrArg Prod.snd x72).symm, w69⟩
        · have k73 : ¬ ((cr ((f_Yd_handleIfThere ((f_Yd_moveToward ((yv b M)) c (cr ((yv b M)) c 6)).2) c).2) c 0) = (cr ((yv b M)) c 0)) := by
            have q : ¬ ((cr (yv b M66) c 0) = (cr (yv b M) c 0)) := h70
            first | exact q | (simp only [a64, a68] at q; exact q)
          refine wgo (g' := (M66, 110, [some (.inr (3, b)), some (.inl (nI c)), some (.inr (0, b + 3 + 32 * c)), some (.inl (M (b + 3 + 32 * c) 0))], [.inl 0])) [oz 1, oz 0] rfl ⟨h70, trivial, trivial⟩ ?_
          have x74 : f_Yd_passSecondOf (yv b M) c = (0, (f_Yd_handleIfThere ((f_Yd_moveToward ((yv b M)) c (cr ((yv b M)) c 6)).2) c).2) := by
            unfold f_Yd_passSecondOf
            rw [if_pos k2, if_neg k59, if_pos k61, if_neg k73]
          exact wend ⟨_, rfl, rfl⟩ ⟨congrArg some ((show (0 : Int32) = 0 from by first | rfl | simp only [a64, a68]).trans (congrArg Prod.fst x74).symm), a68.trans (congrArg Prod.snd x74).symm, w69⟩
      · have k61 : ¬ ((cr ((yv b M)) c 5) = 1) := by
          have q : ¬ ((cr (yv b M) c 5) = 1) := h60
          exact q
        by_cases h75 : M (b + 3 + 32 * c) 5 = 2
        · have k76 : (cr ((yv b M)) c 5) = 2 := by
            have q : (cr (yv b M) c 5) = 2 := h75
            exact q
          refine wgo (g' := (M, 66, [some (.inr (3, b)), some (.inl (nI c)), some (.inr (0, b + 3 + 32 * c)), none], [.inr (0, b + 3 + 32 * c), .inr (3, b)])) [oz 2, oz 0, oz 0] rfl ⟨(by rw [h75]; decide), trivial, trivial, trivial⟩ ?_
          obtain ⟨M77, s78, a79, w80⟩ := ys_Yd_liftOn (d := d) (b := b) (M := M) (c := c) hb ((hy.2.2.2 _ (Or.inl rfl)).2 (Or.inl h75))
          have a79 : yv b M77 = (f_Yd_liftOn ((yv b M)) c).2 := a79.trans (show (f_Yd_liftOn ((yv b M)) c).2 = _ from by first | rfl | simp only [yv])
          have w80 : yf b M M77 := yf_tr yf_rf w80
          refine wgo (g' := (M77, 70, [some (.inr (3, b)), some (.inl (nI c)), some (.inr (0, b + 3 + 32 * c)), none], [.inl 0])) [oc (none, M77), oz 0] rfl ⟨⟨s78, Nat.le_of_ble_eq_true rfl, Nat.le_of_ble_eq_true rfl, ⟨_, rfl⟩⟩, trivial, trivial⟩ ?_
          have x81 : f_Yd_passSecondOf (yv b M) c = (0, (f_Yd_liftOn ((yv b M)) c).2) := by
            unfold f_Yd_passSecondOf
            rw [if_pos k2, if_neg k59, if_neg k61, if_pos k76]
          exact wend ⟨_, rfl, rfl⟩ ⟨congrArg some ((show (0 : Int32) = 0 from by first | rfl | simp only [a79]).trans (congrArg Prod.fst x81).symm), a79.trans (congrArg Prod.snd x81).symm, w80⟩
        · have k76 : ¬ ((cr ((yv b M)) c 5) = 2) := by
            have q : ¬ ((cr (yv b M) c 5) = 2) := h75
            exact q
          by_cases h82 : M (b + 3 + 32 * c) 5 = 3
          · have k83 : (cr ((yv b M)) c 5) = 3 := by
              have q : (cr (yv b M) c 5) = 3 := h82
              exact q
            refine wgo (g' := (M, 89, [some (.inr (3, b)), some (.inl (nI c)), some (.inr (0, b + 3 + 32 * c)), some (.inl (M (b + 3 + 32 * c) 0))], [.inl (M (b + 3 + 32 * c) 6), .inl (nI c), .inr (3, b)])) [oz 3, oz 0, oz 0, oz 0, oz 0, oz 0, oz 0, oz 0] rfl ⟨(by rw [h82]; decide), trivial, trivial, Nat.le_of_ble_eq_true rfl, trivial, trivial, trivial, trivial, trivial⟩ ?_
            obtain ⟨M84, s85, a86, w87⟩ := ys_Yd_moveToward (d := d) (b := b) (M := M) (c := c) (t := M (b + 3 + 32 * c) 6) hb hc (hy.2.2.2 _ (Or.inl rfl)).1
            have a86 : yv b M84 = (f_Yd_moveToward ((yv b M)) c (cr ((yv b M)) c 6)).2 := a86.trans (show (f_Yd_moveToward ((yv b M)) c (cr (yv b M) c 6)).2 = _ from by first | rfl | simp only [yv])
            have w87 : yf b M M84 := yf_tr yf_rf w87
            refine wgo (g' := (M84, 94, [some (.inr (3, b)), some (.inl (nI c)), some (.inr (0, b + 3 + 32 * c)), some (.inl (M (b + 3 + 32 * c) 0))], [.inr (0, b + 3 + 32 * c), .inr (3, b)])) [oc (none, M84), oz 0, oz 0] rfl ⟨⟨s85, Nat.le_of_ble_eq_true rfl, Nat.le_of_ble_eq_true rfl, ⟨_, rfl⟩⟩, trivial, trivial, trivial⟩ ?_
            obtain ⟨M88, s89, a90, w91⟩ := ys_Yd_handleIfThere (d := d + 1) (b := b) (M := M84) (c := c) hb 
            have a90 : yv b M88 = (f_Yd_handleIfThere ((f_Yd_moveToward ((yv b M)) c (cr ((yv b M)) c 6)).2) c).2 := a90.trans (show (f_Yd_handleIfThere ((yv b M84)) c).2 = _ from by first | rfl | simp only [a86])
            have w91 : yf b M M88 := yf_tr w87 w91
            refine wgo (g' := (M88, 102, [some (.inr (3, b)), some (.inl (nI c)), some (.inr (0, b + 3 + 32 * c)), some (.inl (M (b + 3 + 32 * c) 0))], [.inl (M (b + 3 + 32 * c) 0), .inl (M88 (b + 3 + 32 * c) 0)])) [oc (none, M88), oz 0, oz 0, oz 0] rfl ⟨⟨s89, Nat.le_of_ble_eq_true rfl, Nat.le_of_ble_eq_true rfl, ⟨_, rfl⟩⟩, trivial, trivial, trivial, trivial⟩ ?_
            by_cases h92 : (M88 (b + 3 + 32 * c) 0) = (M (b + 3 + 32 * c) 0)
            · have k93 : (cr ((f_Yd_handleIfThere ((f_Yd_moveToward ((yv b M)) c (cr ((yv b M)) c 6)).2) c).2) c 0) = (cr ((yv b M)) c 0) := by
                have q : (cr (yv b M88) c 0) = (cr (yv b M) c 0) := h92
                first | exact q | (simp only [a86, a90] at q; exact q)
              refine wgo (g' := (M88, 110, [some (.inr (3, b)), some (.inl (nI c)), some (.inr (0, b + 3 + 32 * c)), some (.inl (M (b + 3 + 32 * c) 0))], [.inl 1])) [oz 0, oz 0, oz 0] rfl ⟨(fun z => z h92), trivial, trivial, trivial⟩ ?_
              have x94 : f_Yd_passSecondOf (yv b M) c = (1, (f_Yd_handleIfThere ((f_Yd_moveToward ((yv b M)) c (cr ((yv b M)) c 6)).2) c).2) := by
                unfold f_Yd_passSecondOf
                rw [if_pos k2, if_neg k59, if_neg k61, if_neg k76, if_pos k83, if_pos k93]
              exact wend ⟨_, rfl, rfl⟩ ⟨congrArg some ((show (1 : Int32) = 1 from by first | rfl | simp only [a86, a90]).trans (congrArg Prod.fst x94).symm), a90.trans (congrArg Prod.snd x94).symm, w91⟩
            · have k95 : ¬ ((cr ((f_Yd_handleIfThere ((f_Yd_moveToward ((yv b M)) c (cr ((yv b M)) c 6)).2) c).2) c 0) = (cr ((yv b M)) c 0)) := by
                have q : ¬ ((cr (yv b M88) c 0) = (cr (yv b M) c 0)) := h92
                first | exact q | (simp only [a86, a90] at q; exact q)
              refine wgo (g' := (M88, 110, [some (.inr (3, b)), some (.inl (nI c)), some (.inr (0, b + 3 + 32 * c)), some (.inl (M (b + 3 + 32 * c) 0))], [.inl 0])) [oz 1, oz 0] rfl ⟨h92, trivial, trivial⟩ ?_
              have x96 : f_Yd_passSecondOf (yv b M) c = (0, (f_Yd_handleIfThere ((f_Yd_moveToward ((yv b M)) c (cr ((yv b M)) c 6)).2) c).2) := by
                unfold f_Yd_passSecondOf
                rw [if_pos k2, if_neg k59, if_neg k61, if_neg k76, if_pos k83, if_neg k95]
              exact wend ⟨_, rfl, rfl⟩ ⟨congrArg some ((show (0 : Int32) = 0 from by first | rfl | simp only [a86, a90]).trans (congrArg Prod.fst x96).symm), a90.trans (congrArg Prod.snd x96).symm, w91⟩
          · have k83 : ¬ ((cr ((yv b M)) c 5) = 3) := by
              have q : ¬ ((cr (yv b M) c 5) = 3) := h82
              exact q
            by_cases h97 : M (b + 3 + 32 * c) 5 = 4
            · have k98 : (cr ((yv b M)) c 5) = 4 := by
                have q : (cr (yv b M) c 5) = 4 := h97
                exact q
              refine wgo (g' := (M, 73, [some (.inr (3, b)), some (.inl (nI c)), some (.inr (0, b + 3 + 32 * c)), none], [.inr (0, b + 3 + 32 * c), .inr (3, b)])) [oz 4, oz 0, oz 0] rfl ⟨(by rw [h97]; decide), trivial, trivial, trivial⟩ ?_
              obtain ⟨M99, s100, a101, w102⟩ := ys_Yd_setOn (d := d + 1) (b := b) (M := M) (c := c) hb ((hy.2.2.2 _ (Or.inl rfl)).2 (Or.inr h97))
              have a101 : yv b M99 = (f_Yd_setOn ((yv b M)) c).2 := a101.trans (show (f_Yd_setOn ((yv b M)) c).2 = _ from by first | rfl | simp only [yv])
              have w102 : yf b M M99 := yf_tr yf_rf w102
              refine wgo (g' := (M99, 77, [some (.inr (3, b)), some (.inl (nI c)), some (.inr (0, b + 3 + 32 * c)), none], [.inl 0])) [oc (none, M99), oz 0] rfl ⟨⟨s100, Nat.le_of_ble_eq_true rfl, Nat.le_of_ble_eq_true rfl, ⟨_, rfl⟩⟩, trivial, trivial⟩ ?_
              have x103 : f_Yd_passSecondOf (yv b M) c = (0, (f_Yd_setOn ((yv b M)) c).2) := by
                unfold f_Yd_passSecondOf
                rw [if_pos k2, if_neg k59, if_neg k61, if_neg k76, if_neg k83, if_pos k98]
              exact wend ⟨_, rfl, rfl⟩ ⟨congrArg some ((show (0 : Int32) = 0 from by first | rfl | simp only [a101]).trans (congrArg Prod.fst x103).symm), a101.trans (congrArg Prod.snd x103).symm, w102⟩
            · have k98 : ¬ ((cr ((yv b M)) c 5) = 4) := by
                have q : ¬ ((cr (yv b M) c 5) = 4) := h97
                exact q
              refine wgo (g' := (M, 115, [some (.inr (3, b)), some (.inl (nI c)), some (.inr (0, b + 3 + 32 * c)), none], [.inl (nI c), .inr (3, b), .inl (nI c), .inr (3, b)])) [oz 0, oz 0, oz 0, oz 0, oz 0] rfl ⟨(sw_out (h60) (h75) (h82) (h97)), trivial, trivial, trivial, trivial, trivial⟩ ?_
              have s104 := sm_Yd_placeOutOfTheWay (d := d) (b := b) (M := M) (c := c) hc (hy.2.2.2 _ (Or.inl rfl)).1
              refine wgo (g' := (M, 118, [some (.inr (3, b)), some (.inl (nI c)), some (.inr (0, b + 3 + 32 * c)), none], [.inl (f_Yd_placeOutOfTheWay (yv b M) c), .inl (nI c), .inr (3, b)])) [oc (some (f_Yd_placeOutOfTheWay (yv b M) c), M)] rfl ⟨⟨s104, Nat.le_of_ble_eq_true rfl, Nat.le_of_ble_eq_true rfl, ⟨_, rfl⟩⟩, trivial⟩ ?_
              obtain ⟨M105, s106, a107, w108⟩ := ys_Yd_moveToward (d := d) (b := b) (M := M) (c := c) (t := f_Yd_placeOutOfTheWay (yv b M) c) hb hc (hy.2.2.2 _ (Or.inl rfl)).1
              have a107 : yv b M105 = (f_Yd_moveToward ((yv b M)) c (f_Yd_placeOutOfTheWay ((yv b M)) c)).2 := a107.trans (show (f_Yd_moveToward ((yv b M)) c (f_Yd_placeOutOfTheWay (yv b M) c)).2 = _ from by first | rfl | simp only [yv])
              have w108 : yf b M M105 := yf_tr yf_rf w108
              refine wgo (g' := (M105, 122, [some (.inr (3, b)), some (.inl (nI c)), some (.inr (0, b + 3 + 32 * c)), none], [.inl 2])) [oc (none, M105), oz 0] rfl ⟨⟨s106, Nat.le_of_ble_eq_true rfl, Nat.le_of_ble_eq_true rfl, ⟨_, rfl⟩⟩, trivial, trivial⟩ ?_
              have x109 : f_Yd_passSecondOf (yv b M) c = (2, (f_Yd_moveToward ((yv b M)) c (f_Yd_placeOutOfTheWay ((yv b M)) c)).2) := by
                unfold f_Yd_passSecondOf
                rw [if_pos k2, if_neg k59, if_neg k61, if_neg k76, if_neg k83, if_neg k98]
              exact wend ⟨_, rfl, rfl⟩ ⟨congrArg some ((show (2 : Int32) = 2 from by first | rfl | simp only [a107]).trans (congrArg Prod.fst x109).symm), a107.trans (congrArg Prod.snd x109).symm, w108⟩
  · have k110 : ¬ ((cr ((yv b M)) c 3) = 0) := by
      have q : ¬ ((cr (yv b M) c 3) = 0) := h1
      exact q
    refine wgo (g' := (M, 15, [some (.inr (3, b)), some (.inl (nI c)), some (.inr (0, b + 3 + 32 * c)), none], [.inl 3])) [oz 0, oz 0] rfl ⟨h1, trivial, trivial⟩ ?_
    have x111 : f_Yd_passSecondOf (yv b M) c = (3, (yv b M)) := by
      unfold f_Yd_passSecondOf
      rw [if_neg k110]
    exact wend ⟨_, rfl, rfl⟩ ⟨congrArg some ((show (3 : Int32) = 3 from by first | rfl | simp only [yv]).trans (congrArg Prod.fst x111).symm), (congrArg Prod.snd x111).symm, yf_rf⟩
