def f_Yd_hand (A : ya) (j : Nat) (c : Nat) : Int32 × ya := (0, usc ((f_Cr_queue (ujb (ujb (A) j 3 1) j 4 (nI c)) c (nI j)).2) 8 1)
set_option maxRecDepth 20000 in
set_option maxHeartbeats 1000000 in
theorem ys_Yd_hand {d b : Nat} {M : mm_M} {j : Nat} {c : Nat} (hb : b = 8 ∨ b = 16) (hj : j < 8) (hc : c < 3) (hq : ¬ 8 ≤ cr (yv b M) c 10 → okx 8 (cr (yv b M) c 10)) : YS (d + 2) 18 b M [.inr (3, b), .inl (nI j), .inl (nI c)] (none) (f_Yd_hand (yv b M) j c).2 := by
  refine YS_of (Nat.le_of_ble_eq_true rfl) ?_
  show mm_Wp pg_Yd_hand rt_Yd_hand (ct_Sem (d + 1)) (M, 0, [some (.inr (3, b)), some (.inl (nI j)), some (.inl (nI c))], []) _
  refine wgo (g' := (mm_up M (b + 6 + 32 * j) 3 1, 10, [some (.inr (3, b)), some (.inl (nI j)), some (.inl (nI c))], [])) [oz 0, oz 0, oz 0, oz j, oz 0, oz 0] rfl ⟨trivial, trivial, trivial, ⟨rfl, (show j < 8 from by omega)⟩, trivial, trivial, trivial⟩ ?_
  generalize e2 : mm_up M (b + 6 + 32 * j) 3 1 = M1
  have a3 : yv b M1 = ujb ((yv b M)) j 3 1 := by
    rw [← e2]
    refine yv_jb.trans ?_
    show ujb ((yv b M)) j 3 1 = _
    rfl
  have w4 : yf b M M1 := by rw [← e2]; exact yf_up yf_rf (by unfold yo; omega)
  refine wgo (g' := (mm_up M1 (b + 6 + 32 * j) 4 (nI c), 20, [some (.inr (3, b)), some (.inl (nI j)), some (.inl (nI c))], [])) [oz 0, oz 0, oz 0, oz j, oz 0, oz 0] rfl ⟨trivial, trivial, trivial, ⟨rfl, (show j < 8 from by omega)⟩, trivial, trivial, trivial⟩ ?_
  generalize e6 : mm_up M1 (b + 6 + 32 * j) 4 (nI c) = M5
  have a7 : yv b M5 = ujb (ujb ((yv b M)) j 3 1) j 4 (nI c) := by
    rw [← e6]
    refine yv_jb.trans ?_
    show ujb ((yv b M1)) j 4 (nI c) = _
    first | rfl | simp only [a3]
  have w8 : yf b M M5 := by rw [← e6]; exact yf_up w4 (by unfold yo; omega)
  refine wgo (g' := (M5, 27, [some (.inr (3, b)), some (.inl (nI j)), some (.inl (nI c))], [.inl (nI j), .inr (0, b + 3 + 32 * c)])) [oz 0, oz 0, oz 0, oz c, oz 0] rfl ⟨trivial, trivial, trivial, ⟨rfl, (show c < 3 from by omega)⟩, trivial, trivial⟩ ?_
  obtain ⟨M9, s10, a11, w12⟩ := ys_Cr_queue (d := d) (b := b) (M := M5) (c := c) (x := nI j) hb (by rw [a7]; exact hq)
  have a11 : yv b M9 = (f_Cr_queue (ujb (ujb ((yv b M)) j 3 1) j 4 (nI c)) c (nI j)).2 := a11.trans (show (f_Cr_queue ((yv b M5)) c (nI j)).2 = _ from by first | rfl | simp only [a3, a7])
  have w12 : yf b M M9 := yf_tr w8 w12
  refine wgo (g' := (mm_up M9 b 8 1, 35, [some (.inr (3, b)), some (.inl (nI j)), some (.inl (nI c))], [])) [oc (none, M9), oz 0, oz 0, oz 0] rfl ⟨⟨s10, Nat.le_of_ble_eq_true rfl, Nat.le_of_ble_eq_true rfl, ⟨_, rfl⟩⟩, trivial, trivial, Or.inr rfl, trivial⟩ ?_
  generalize e14 : mm_up M9 b 8 1 = M13
  have a15 : yv b M13 = usc ((f_Cr_queue (ujb (ujb ((yv b M)) j 3 1) j 4 (nI c)) c (nI j)).2) 8 1 := by
    rw [← e14]
    refine yv_sc.trans ?_
    show usc ((yv b M9)) 8 1 = _
    first | rfl | simp only [a3, a7, a11]
  have w16 : yf b M M13 := by rw [← e14]; exact yf_up w12 (by unfold yo; omega)
  have x17 : f_Yd_hand (yv b M) j c = (0, usc ((f_Cr_queue (ujb (ujb ((yv b M)) j 3 1) j 4 (nI c)) c (nI j)).2) 8 1) := by
    unfold f_Yd_hand
    rfl
  exact wend ⟨rfl, rfl⟩ ⟨rfl, a15.trans (congrArg Prod.snd x17).symm, w16⟩
theorem okw {A : ya} {n : Nat} {x : Int32} (hn : ynn A n) (h : ¬ f_Ct_within x 0 (sc A 0 - 1) = 0) : okx 3 x := by
  obtain ⟨h1, h2⟩ := hn
  rw [h1] at h
  unfold f_Ct_within at h
  by_cases q1 : x < 0
  · rw [if_pos q1] at h; exact absurd rfl h
  · rw [if_neg q1] at h
    by_cases q2 : nI n - 1 < x
    · rw [if_pos q2] at h; exact absurd rfl h
    · obtain ⟨j, hj, rfl⟩ := nI_of q1
      rcases n with _ | n
      · exfalso
        apply q2
        have e : nI 0 - 1 = -1 := by decide
        rw [e, Int32.lt_iff_toInt_lt, nI_toInt hj]
        have e2 : (-1 : Int32).toInt = -1 := by decide
        rw [e2]; omega
      · rw [nI_pred] at q2
        have q3 : ¬ n < j := fun z => q2 (nI_lt z hj)
        exact okx_nI (by omega) (by decide)
def wcn (A : ya) : Prop := ∀ c, c < 3 → ∃ m, m ≤ 8 ∧ cr A c 10 = nI m
def f_Yd_free (A : ya) (j : Nat) : Int32 × ya := (if (f_Ct_within (jb (A) j 4) 0 ((sc (A) 0) - 1)) = 0 then (0, ujb (ujb (A) j 3 0) j 4 ((-1))) else (0, ujb (ujb ((f_Cr_unqueue (A) (ix (jb (A) j 4)) (nI j)).2) j 3 0) j 4 ((-1))))
set_option maxRecDepth 20000 in
set_option maxHeartbeats 1000000 in
theorem ys_Yd_free {d b : Nat} {M : mm_M} {j : Nat} (hb : b = 8 ∨ b = 16) {n : Nat} (hj : j < 8) (hn : ynn (yv b M) n) (hw : wcn (yv b M)) : YS (d + 2) 19 b M [.inr (3, b), .inl (nI j)] (none) (f_Yd_free (yv b M) j).2 := by
  refine YS_of (Nat.le_of_ble_eq_true rfl) ?_
  show mm_Wp pg_Yd_free rt_Yd_free (ct_Sem (d + 1)) (M, 0, [some (.inr (3, b)), some (.inl (nI j)), none], []) _
  refine wgo (g' := (M, 18, [some (.inr (3, b)), some (.inl (nI j)), some (.inl (M (b + 6 + 32 * j) 4))], [.inl ((M b 0) - 1), .inl 0, .inl (M (b + 6 + 32 * j) 4)])) [oz 0, oz 0, oz 0, oz j, oz 0, oz 0, oz 0, oz 0, oz 0, oz 0, oz 0, oz 0] rfl ⟨trivial, trivial, trivial, ⟨rfl, (show j < 8 from by omega)⟩, trivial, Nat.le_of_ble_eq_true rfl, trivial, trivial, trivial, trivial, trivial, trivial, trivial⟩ ?_
  have s1 := sm_Ct_within (d := d)  (M := M) (v := M (b + 6 + 32 * j) 4) (a := 0) (e := (M b 0) - 1) 
  refine wgo (g' := (M, 21, [some (.inr (3, b)), some (.inl (nI j)), some (.inl (M (b + 6 + 32 * j) 4))], [.inl (f_Ct_within (M (b + 6 + 32 * j) 4) 0 ((M b 0) - 1))])) [oc (some (f_Ct_within (M (b + 6 + 32 * j) 4) 0 ((M b 0) - 1)), M)] rfl ⟨⟨s1, Nat.le_of_ble_eq_true rfl, Nat.le_of_ble_eq_true rfl, trivial⟩, trivial⟩ ?_
  by_cases h2 : (f_Ct_within (M (b + 6 + 32 * j) 4) 0 ((M b 0) - 1)) = 0
  · have k3 : (f_Ct_within (jb ((yv b M)) j 4) 0 ((sc ((yv b M)) 0) - 1)) = 0 := by
      have q : (f_Ct_within (jb (yv b M) j 4) 0 ((sc (yv b M) 0) - 1)) = 0 := h2
      exact q
    refine wgo (g' := (mm_up M (b + 6 + 32 * j) 3 0, 44, [some (.inr (3, b)), some (.inl (nI j)), some (.inl (M (b + 6 + 32 * j) 4))], [])) [oz 1, oz 0, oz 0, oz 0, oz j, oz 0, oz 0] rfl ⟨h2, trivial, trivial, trivial, ⟨rfl, (show j < 8 from by omega)⟩, trivial, trivial, trivial⟩ ?_
    generalize e5 : mm_up M (b + 6 + 32 * j) 3 0 = M4
    have a6 : yv b M4 = ujb ((yv b M)) j 3 0 := by
      rw [← e5]
      refine yv_jb.trans ?_
      show ujb ((yv b M)) j 3 0 = _
      rfl
    have w7 : yf b M M4 := by rw [← e5]; exact yf_up yf_rf (by unfold yo; omega)
    refine wgo (g' := (mm_up M4 (b + 6 + 32 * j) 4 ((-1)), 54, [some (.inr (3, b)), some (.inl (nI j)), some (.inl (M (b + 6 + 32 * j) 4))], [])) [oz 0, oz 0, oz 0, oz j, oz 0, oz 0] rfl ⟨trivial, trivial, trivial, ⟨rfl, (show j < 8 from by omega)⟩, trivial, trivial, trivial⟩ ?_
    generalize e9 : mm_up M4 (b + 6 + 32 * j) 4 ((-1)) = M8
    have a10 : yv b M8 = ujb (ujb ((yv b M)) j 3 0) j 4 ((-1)) := by
      rw [← e9]
      refine yv_jb.trans ?_
      show ujb ((yv b M4)) j 4 ((-1)) = _
      first | rfl | simp only [a6]
    have w11 : yf b M M8 := by rw [← e9]; exact yf_up w7 (by unfold yo; omega)
    have x12 : f_Yd_free (yv b M) j = (0, ujb (ujb ((yv b M)) j 3 0) j 4 ((-1))) := by
      unfold f_Yd_free
      rw [if_pos k3]
    exact wend ⟨rfl, rfl⟩ ⟨rfl, a10.trans (congrArg Prod.snd x12).symm, w11⟩
  · have k13 : ¬ ((f_Ct_within (jb ((yv b M)) j 4) 0 ((sc ((yv b M)) 0) - 1)) = 0) := by
      have q : ¬ ((f_Ct_within (jb (yv b M) j 4) 0 ((sc (yv b M) 0) - 1)) = 0) := h2
      exact q
    refine wgo (g' := (M, 31, [some (.inr (3, b)), some (.inl (nI j)), some (.inl (M (b + 6 + 32 * j) 4))], [.inl (nI j), .inr (0, b + 3 + 32 * (ix (M (b + 6 + 32 * j) 4)))])) [oz 0, oz 0, oz 0, oz 0, oz (ix (M (b + 6 + 32 * j) 4)), oz 0] rfl ⟨h2, trivial, trivial, trivial, (okw hn k13), trivial, trivial⟩ ?_
    obtain ⟨M14, s15, a16, w17⟩ := ys_Cr_unqueue (d := d) (b := b) (M := M) (c := ix (M (b + 6 + 32 * j) 4)) (x := nI j) hb (hw _ (okw hn k13).2).choose_spec.2 (hw _ (okw hn k13).2).choose_spec.1
    have a16 : yv b M14 = (f_Cr_unqueue ((yv b M)) (ix (jb ((yv b M)) j 4)) (nI j)).2 := a16.trans (show (f_Cr_unqueue ((yv b M)) (ix (jb (yv b M) j 4)) (nI j)).2 = _ from by first | rfl | simp only [yv])
    have w17 : yf b M M14 := yf_tr yf_rf w17
    refine wgo (g' := (mm_up M14 (b + 6 + 32 * j) 3 0, 44, [some (.inr (3, b)), some (.inl (nI j)), some (.inl (M (b + 6 + 32 * j) 4))], [])) [oc (none, M14), oz 0, oz 0, oz 0, oz j, oz 0, oz 0] rfl ⟨⟨s15, Nat.le_of_ble_eq_true rfl, Nat.le_of_ble_eq_true rfl, ⟨_, rfl⟩⟩, trivial, trivial, trivial, ⟨rfl, (show j < 8 from by omega)⟩, trivial, trivial, trivial⟩ ?_
    generalize e19 : mm_up M14 (b + 6 + 32 * j) 3 0 = M18
    have a20 : yv b M18 = ujb ((f_Cr_unqueue ((yv b M)) (ix (jb ((yv b M)) j 4)) (nI j)).2) j 3 0 := by
      rw [← e19]
      refine yv_jb.trans ?_
      show ujb ((yv b M14)) j 3 0 = _
      first | rfl | simp only [a16]
    have w21 : yf b M M18 := by rw [← e19]; exact yf_up w17 (by unfold yo; omega)
    refine wgo (g' := (mm_up M18 (b + 6 + 32 * j) 4 ((-1)), 54, [some (.inr (3, b)), some (.inl (nI j)), some (.inl (M (b + 6 + 32 * j) 4))], [])) [oz 0, oz 0, oz 0, oz j, oz 0, oz 0] rfl ⟨trivial, trivial, trivial, ⟨rfl, (show j < 8 from by omega)⟩, trivial, trivial, trivial⟩ ?_
    generalize e23 : mm_up M18 (b + 6 + 32 * j) 4 ((-1)) = M22
    have a24 : yv b M22 = ujb (ujb ((f_Cr_unqueue ((yv b M)) (ix (jb ((yv b M)) j 4)) (nI j)).2) j 3 0) j 4 ((-1)) := by
      rw [← e23]
      refine yv_jb.trans ?_
      show ujb ((yv b M18)) j 4 ((-1)) = _
      first | rfl | simp only [a16, a20]
    have w25 : yf b M M22 := by rw [← e23]; exact yf_up w21 (by unfold yo; omega)
    have x26 : f_Yd_free (yv b M) j = (0, ujb (ujb ((f_Cr_unqueue ((yv b M)) (ix (jb ((yv b M)) j 4)) (nI j)).2) j 3 0) j 4 ((-1))) := by
      unfold f_Yd_free
      rw [if_neg k13]
    exact wend ⟨rfl, rfl⟩ ⟨rfl, a24.trans (congrArg Prod.snd x26).symm, w25⟩
def f_Yd_liftOn (A : ya) (c : Nat) (j : Nat) : Int32 × ya := (if (cr (ucr (A) c 7 ((cr (A) c 7) - 1)) c 7) = 0 then (0, (f_Yd_handleIfThere (ucr (ucr (ucr (A) c 7 ((cr (A) c 7) - 1)) c 6 (jb (ucr (A) c 7 ((cr (A) c 7) - 1)) j 1)) c 5 3) c).2) else (0, ucr (A) c 7 ((cr (A) c 7) - 1)))
set_option maxRecDepth 20000 in
set_option maxHeartbeats 1000000 in
theorem ys_Yd_liftOn {d b : Nat} {M : mm_M} {c : Nat} {j : Nat} (hb : b = 8 ∨ b = 16)  : YS (d + 2) 28 b M [.inr (3, b), .inr (0, b + 3 + 32 * c), .inr (1, b + 6 + 32 * j)] (none) (f_Yd_liftOn (yv b M) c j).2 := by
  refine YS_of (Nat.le_of_ble_eq_true rfl) ?_
  show mm_Wp pg_Yd_liftOn rt_Yd_liftOn (ct_Sem (d + 1)) (M, 0, [some (.inr (3, b)), some (.inr (0, b + 3 + 32 * c)), some (.inr (1, b + 6 + 32 * j))], []) _
  refine wgo (g' := (mm_up M (b + 3 + 32 * c) 7 ((M (b + 3 + 32 * c) 7) - 1), 10, [some (.inr (3, b)), some (.inr (0, b + 3 + 32 * c)), some (.inr (1, b + 6 + 32 * j))], [])) [oz 0, oz 0, oz 0, oz 0, oz 0, oz 0] rfl ⟨trivial, trivial, trivial, trivial, trivial, trivial, trivial⟩ ?_
  generalize e2 : mm_up M (b + 3 + 32 * c) 7 ((M (b + 3 + 32 * c) 7) - 1) = M1
  have a3 : yv b M1 = ucr ((yv b M)) c 7 ((cr ((yv b M)) c 7) - 1) := by
    rw [← e2]
    refine yv_cr.trans ?_
    show ucr ((yv b M)) c 7 ((cr (yv b M) c 7) - 1) = _
    rfl
  have w4 : yf b M M1 := by rw [← e2]; exact yf_up yf_rf (by unfold yo; omega)
  refine wgo (g' := (M1, 14, [some (.inr (3, b)), some (.inr (0, b + 3 + 32 * c)), some (.inr (1, b + 6 + 32 * j))], [.inl (M1 (b + 3 + 32 * c) 7)])) [oz 0, oz 0] rfl ⟨trivial, trivial, trivial⟩ ?_
  by_cases h5 : (M1 (b + 3 + 32 * c) 7) = 0
  · have k6 : (cr (ucr ((yv b M)) c 7 ((cr ((yv b M)) c 7) - 1)) c 7) = 0 := by
      have q : (cr (yv b M1) c 7) = 0 := h5
      first | exact q | (simp only [a3] at q; exact q)
    refine wgo (g' := (mm_up M1 (b + 3 + 32 * c) 6 (M1 (b + 6 + 32 * j) 1), 25, [some (.inr (3, b)), some (.inr (0, b + 3 + 32 * c)), some (.inr (1, b + 6 + 32 * j))], [])) [oz 0, oz 0, oz 0, oz 0, oz 0] rfl ⟨(fun z => z h5), trivial, trivial, trivial, trivial, trivial⟩ ?_
    generalize e8 : mm_up M1 (b + 3 + 32 * c) 6 (M1 (b + 6 + 32 * j) 1) = M7
    have a9 : yv b M7 = ucr (ucr ((yv b M)) c 7 ((cr ((yv b M)) c 7) - 1)) c 6 (jb (ucr ((yv b M)) c 7 ((cr ((yv b M)) c 7) - 1)) j 1) := by
      rw [← e8]
      refine yv_cr.trans ?_
      show ucr ((yv b M1)) c 6 (jb (yv b M1) j 1) = _
      first | rfl | simp only [a3]
    have w10 : yf b M M7 := by rw [← e8]; exact yf_up w4 (by unfold yo; omega)
    refine wgo (g' := (mm_up M7 (b + 3 + 32 * c) 5 3, 30, [some (.inr (3, b)), some (.inr (0, b + 3 + 32 * c)), some (.inr (1, b + 6 + 32 * j))], [])) [oz 0, oz 0, oz 0] rfl ⟨trivial, trivial, trivial, trivial⟩ ?_
    generalize e12 : mm_up M7 (b + 3 + 32 * c) 5 3 = M11
    have a13 : yv b M11 = ucr (ucr (ucr ((yv b M)) c 7 ((cr ((yv b M)) c 7) - 1)) c 6 (jb (ucr ((yv b M)) c 7 ((cr ((yv b M)) c 7) - 1)) j 1)) c 5 3 := by
      rw [← e12]
      refine yv_cr.trans ?_
      show ucr ((yv b M7)) c 5 3 = _
      first | rfl | simp only [a3, a9]
    have w14 : yf b M M11 := by rw [← e12]; exact yf_up w10 (by unfold yo; omega)
    refine wgo (g' := (M11, 32, [some (.inr (3, b)), some (.inr (0, b + 3 + 32 * c)), some (.inr (1, b + 6 + 32 * j))], [.inr (0, b + 3 + 32 * c), .inr (3, b)])) [oz 0, oz 0] rfl ⟨trivial, trivial, trivial⟩ ?_
    obtain ⟨M15, s16, a17, w18⟩ := ys_Yd_handleIfThere (d := d) (b := b) (M := M11) (c := c) hb 
    have a17 : yv b M15 = (f_Yd_handleIfThere (ucr (ucr (ucr ((yv b M)) c 7 ((cr ((yv b M)) c 7) - 1)) c 6 (jb (ucr ((yv b M)) c 7 ((cr ((yv b M)) c 7) - 1)) j 1)) c 5 3) c).2 := a17.trans (show (f_Yd_handleIfThere ((yv b M11)) c).2 = _ from by first | rfl | simp only [a3, a9, a13])
    have w18 : yf b M M15 := yf_tr w14 w18
    refine wgo (g' := (M15, 35, [some (.inr (3, b)), some (.inr (0, b + 3 + 32 * c)), some (.inr (1, b + 6 + 32 * j))], [])) [oc (none, M15)] rfl ⟨⟨s16, Nat.le_of_ble_eq_true rfl, Nat.le_of_ble_eq_true rfl, ⟨_, rfl⟩⟩, trivial⟩ ?_
    have x19 : f_Yd_liftOn (yv b M) c j = (0, (f_Yd_handleIfThere (ucr (ucr (ucr ((yv b M)) c 7 ((cr ((yv b M)) c 7) - 1)) c 6 (jb (ucr ((yv b M)) c 7 ((cr ((yv b M)) c 7) - 1)) j 1)) c 5 3) c).2) := by
      unfold f_Yd_liftOn
      rw [if_pos k6]
    exact wend ⟨rfl, rfl⟩ ⟨rfl, a17.trans (congrArg Prod.snd x19).symm, w18⟩
  · have k20 : ¬ ((cr (ucr ((yv b M)) c 7 ((cr ((yv b M)) c 7) - 1)) c 7) = 0) := by
      have q : ¬ ((cr (yv b M1) c 7) = 0) := h5
      first | exact q | (simp only [a3] at q; exact q)
    refine wgo (g' := (M1, 35, [some (.inr (3, b)), some (.inr (0, b + 3 + 32 * c)), some (.inr (1, b + 6 + 32 * j))], [])) [oz 1] rfl ⟨h5, trivial⟩ ?_
    have x21 : f_Yd_liftOn (yv b M) c j = (0, ucr ((yv b M)) c 7 ((cr ((yv b M)) c 7) - 1)) := by
      unfold f_Yd_liftOn
      rw [if_neg k20]
    exact wend ⟨rfl, rfl⟩ ⟨rfl, a3.trans (congrArg Prod.snd x21).symm, w4⟩
def f_Yd_setOn (A : ya) (c : Nat) (j : Nat) : Int32 × ya := (if (cr (ucr (A) c 7 ((cr (A) c 7) - 1)) c 7) = 0 then (0, ucr (ucr (usc (ujb (ujb (ucr (A) c 7 ((cr (A) c 7) - 1)) j 3 3) j 5 ((sc (ujb (ucr (A) c 7 ((cr (A) c 7) - 1)) j 3 3) 4) + 1)) 7 ((sc (ujb (ujb (ucr (A) c 7 ((cr (A) c 7) - 1)) j 3 3) j 5 ((sc (ujb (ucr (A) c 7 ((cr (A) c 7) - 1)) j 3 3) 4) + 1)) 7) - 1)) c 4 ((-1))) c 5 0) else (0, ucr (A) c 7 ((cr (A) c 7) - 1)))
set_option maxRecDepth 20000 in
set_option maxHeartbeats 1000000 in
theorem ys_Yd_setOn {d b : Nat} {M : mm_M} {c : Nat} {j : Nat} (hb : b = 8 ∨ b = 16)  : YS (d + 1) 29 b M [.inr (3, b), .inr (0, b + 3 + 32 * c), .inr (1, b + 6 + 32 * j)] (none) (f_Yd_setOn (yv b M) c j).2 := by
  refine YS_of (Nat.le_of_ble_eq_true rfl) ?_
  show mm_Wp pg_Yd_setOn rt_Yd_setOn (ct_Sem (d + 0)) (M, 0, [some (.inr (3, b)), some (.inr (0, b + 3 + 32 * c)), some (.inr (1, b + 6 + 32 * j))], []) _
  refine wgo (g' := (mm_up M (b + 3 + 32 * c) 7 ((M (b + 3 + 32 * c) 7) - 1), 10, [some (.inr (3, b)), some (.inr (0, b + 3 + 32 * c)), some (.inr (1, b + 6 + 32 * j))], [])) [oz 0, oz 0, oz 0, oz 0, oz 0, oz 0] rfl ⟨trivial, trivial, trivial, trivial, trivial, trivial, trivial⟩ ?_
  generalize e2 : mm_up M (b + 3 + 32 * c) 7 ((M (b + 3 + 32 * c) 7) - 1) = M1
  have a3 : yv b M1 = ucr ((yv b M)) c 7 ((cr ((yv b M)) c 7) - 1) := by
    rw [← e2]
    refine yv_cr.trans ?_
    show ucr ((yv b M)) c 7 ((cr (yv b M) c 7) - 1) = _
    rfl
  have w4 : yf b M M1 := by rw [← e2]; exact yf_up yf_rf (by unfold yo; omega)
  refine wgo (g' := (M1, 14, [some (.inr (3, b)), some (.inr (0, b + 3 + 32 * c)), some (.inr (1, b + 6 + 32 * j))], [.inl (M1 (b + 3 + 32 * c) 7)])) [oz 0, oz 0] rfl ⟨trivial, trivial, trivial⟩ ?_
  by_cases h5 : (M1 (b + 3 + 32 * c) 7) = 0
  · have k6 : (cr (ucr ((yv b M)) c 7 ((cr ((yv b M)) c 7) - 1)) c 7) = 0 := by
      have q : (cr (yv b M1) c 7) = 0 := h5
      first | exact q | (simp only [a3] at q; exact q)
    refine wgo (g' := (mm_up M1 (b + 6 + 32 * j) 3 3, 22, [some (.inr (3, b)), some (.inr (0, b + 3 + 32 * c)), some (.inr (1, b + 6 + 32 * j))], [])) [oz 0, oz 0, oz 0, oz 0] rfl ⟨(fun z => z h5), trivial, trivial, trivial, trivial⟩ ?_
    generalize e8 : mm_up M1 (b + 6 + 32 * j) 3 3 = M7
    have a9 : yv b M7 = ujb (ucr ((yv b M)) c 7 ((cr ((yv b M)) c 7) - 1)) j 3 3 := by
      rw [← e8]
      refine yv_jb.trans ?_
      show ujb ((yv b M1)) j 3 3 = _
      first | rfl | simp only [a3]
    have w10 : yf b M M7 := by rw [← e8]; exact yf_up w4 (by unfold yo; omega)
    refine wgo (g' := (mm_up M7 (b + 6 + 32 * j) 5 ((M7 b 4) + 1), 32, [some (.inr (3, b)), some (.inr (0, b + 3 + 32 * c)), some (.inr (1, b + 6 + 32 * j))], [])) [oz 0, oz 0, oz 0, oz 0, oz 0, oz 0] rfl ⟨trivial, trivial, trivial, trivial, trivial, trivial, trivial⟩ ?_
    generalize e12 : mm_up M7 (b + 6 + 32 * j) 5 ((M7 b 4) + 1) = M11
    have a13 : yv b M11 = ujb (ujb (ucr ((yv b M)) c 7 ((cr ((yv b M)) c 7) - 1)) j 3 3) j 5 ((sc (ujb (ucr ((yv b M)) c 7 ((cr ((yv b M)) c 7) - 1)) j 3 3) 4) + 1) := by
      rw [← e12]
      refine yv_jb.trans ?_
      show ujb ((yv b M7)) j 5 ((sc (yv b M7) 4) + 1) = _
      first | rfl | simp only [a3, a9]
    have w14 : yf b M M11 := by rw [← e12]; exact yf_up w10 (by unfold yo; omega)
    refine wgo (g' := (mm_up M11 b 7 ((M11 b 7) - 1), 42, [some (.inr (3, b)), some (.inr (0, b + 3 + 32 * c)), some (.inr (1, b + 6 + 32 * j))], [])) [oz 0, oz 0, oz 0, oz 0, oz 0, oz 0] rfl ⟨trivial, trivial, trivial, trivial, trivial, trivial, trivial⟩ ?_
    generalize e16 : mm_up M11 b 7 ((M11 b 7) - 1) = M15
    have a17 : yv b M15 = usc (ujb (ujb (ucr ((yv b M)) c 7 ((cr ((yv b M)) c 7) - 1)) j 3 3) j 5 ((sc (ujb (ucr ((yv b M)) c 7 ((cr ((yv b M)) c 7) - 1)) j 3 3) 4) + 1)) 7 ((sc (ujb (ujb (ucr ((yv b M)) c 7 ((cr ((yv b M)) c 7) - 1)) j 3 3) j 5 ((sc (ujb (ucr ((yv b M)) c 7 ((cr ((yv b M)) c 7) - 1)) j 3 3) 4) + 1)) 7) - 1) := by
      rw [← e16]
      refine yv_sc.trans ?_
      show usc ((yv b M11)) 7 ((sc (yv b M11) 7) - 1) = _
      first | rfl | simp only [a3, a9, a13]
    have w18 : yf b M M15 := by rw [← e16]; exact yf_up w14 (by unfold yo; omega)
    refine wgo (g' := (mm_up M15 (b + 3 + 32 * c) 4 ((-1)), 47, [some (.inr (3, b)), some (.inr (0, b + 3 + 32 * c)), some (.inr (1, b + 6 + 32 * j))], [])) [oz 0, oz 0, oz 0] rfl ⟨trivial, trivial, trivial, trivial⟩ ?_
    generalize e20 : mm_up M15 (b + 3 + 32 * c) 4 ((-1)) = M19
    have a21 : yv b M19 = ucr (usc (ujb (ujb (ucr ((yv b M)) c 7 ((cr ((yv b M)) c 7) - 1)) j 3 3) j 5 ((sc (ujb (ucr ((yv b M)) c 7 ((cr ((yv b M)) c 7) - 1)) j 3 3) 4) + 1)) 7 ((sc (ujb (ujb (ucr ((yv b M)) c 7 ((cr ((yv b M)) c 7) - 1)) j 3 3) j 5 ((sc (ujb (ucr ((yv b M)) c 7 ((cr ((yv b M)) c 7) - 1)) j 3 3) 4) + 1)) 7) - 1)) c 4 ((-1)) := by
      rw [← e20]
      refine yv_cr.trans ?_
      show ucr ((yv b M15)) c 4 ((-1)) = _
      first | rfl | simp only [a3, a9, a13, a17]
    have w22 : yf b M M19 := by rw [← e20]; exact yf_up w18 (by unfold yo; omega)
    refine wgo (g' := (mm_up M19 (b + 3 + 32 * c) 5 0, 52, [some (.inr (3, b)), some (.inr (0, b + 3 + 32 * c)), some (.inr (1, b + 6 + 32 * j))], [])) [oz 0, oz 0, oz 0] rfl ⟨trivial, trivial, trivial, trivial⟩ ?_
    generalize e24 : mm_up M19 (b + 3 + 32 * c) 5 0 = M23
    have a25 : yv b M23 = ucr (ucr (usc (ujb (ujb (ucr ((yv b M)) c 7 ((cr ((yv b M)) c 7) - 1)) j 3 3) j 5 ((sc (ujb (ucr ((yv b M)) c 7 ((cr ((yv b M)) c 7) - 1)) j 3 3) 4) + 1)) 7 ((sc (ujb (ujb (ucr ((yv b M)) c 7 ((cr ((yv b M)) c 7) - 1)) j 3 3) j 5 ((sc (ujb (ucr ((yv b M)) c 7 ((cr ((yv b M)) c 7) - 1)) j 3 3) 4) + 1)) 7) - 1)) c 4 ((-1))) c 5 0 := by
      rw [← e24]
      refine yv_cr.trans ?_
      show ucr ((yv b M19)) c 5 0 = _
      first | rfl | simp only [a3, a9, a13, a17, a21]
    have w26 : yf b M M23 := by rw [← e24]; exact yf_up w22 (by unfold yo; omega)
    have x27 : f_Yd_setOn (yv b M) c j = (0, ucr (ucr (usc (ujb (ujb (ucr ((yv b M)) c 7 ((cr ((yv b M)) c 7) - 1)) j 3 3) j 5 ((sc (ujb (ucr ((yv b M)) c 7 ((cr ((yv b M)) c 7) - 1)) j 3 3) 4) + 1)) 7 ((sc (ujb (ujb (ucr ((yv b M)) c 7 ((cr ((yv b M)) c 7) - 1)) j 3 3) j 5 ((sc (ujb (ucr ((yv b M)) c 7 ((cr ((yv b M)) c 7) - 1)) j 3 3) 4) + 1)) 7) - 1)) c 4 ((-1))) c 5 0) := by
      unfold f_Yd_setOn
      rw [if_pos k6]
    exact wend ⟨rfl, rfl⟩ ⟨rfl, a25.trans (congrArg Prod.snd x27).symm, w26⟩
  · have k28 : ¬ ((cr (ucr ((yv b M)) c 7 ((cr ((yv b M)) c 7) - 1)) c 7) = 0) := by
      have q : ¬ ((cr (yv b M1) c 7) = 0) := h5
      first | exact q | (simp only [a3] at q; exact q)
    refine wgo (g' := (M1, 52, [some (.inr (3, b)), some (.inr (0, b + 3 + 32 * c)), some (.inr (1, b + 6 + 32 * j))], [])) [oz 1] rfl ⟨h5, trivial⟩ ?_
    have x29 : f_Yd_setOn (yv b M) c j = (0, ucr ((yv b M)) c 7 ((cr ((yv b M)) c 7) - 1)) := by
      unfold f_Yd_setOn
      rw [if_neg k28]
    exact wend ⟨rfl, rfl⟩ ⟨rfl, a3.trans (congrArg Prod.snd x29).symm, w4⟩
def f_Yd_moveToward (A : ya) (c : Nat) (t : Int32) : Int32 × ya := (if t ≤ (cr (A) c 0) then (if (cr (A) c 0) ≤ t then (0, A) else (0, ucr (A) c 0 (if (if t < ((cr (A) c 0) - (sc (A) 2)) then ((cr (A) c 0) - (sc (A) 2)) else t) < (f_Yd_floorOf (A) c) then (f_Yd_floorOf (A) c) else (if t < ((cr (A) c 0) - (sc (A) 2)) then ((cr (A) c 0) - (sc (A) 2)) else t)))) else (0, ucr (A) c 0 (if (f_Yd_ceilingOf (A) c) < (if ((cr (A) c 0) + (sc (A) 2)) < t then ((cr (A) c 0) + (sc (A) 2)) else t) then (f_Yd_ceilingOf (A) c) else (if ((cr (A) c 0) + (sc (A) 2)) < t then ((cr (A) c 0) + (sc (A) 2)) else t))))
set_option maxRecDepth 20000 in
set_option maxHeartbeats 1000000 in
theorem ys_Yd_moveToward {d b : Nat} {M : mm_M} {c : Nat} {t : Int32} (hb : b = 8 ∨ b = 16) {n : Nat} (hc : c < 3) (hn : ynn (yv b M) n) : YS (d + 2) 31 b M [.inr (3, b), .inl (nI c), .inl t] (none) (f_Yd_moveToward (yv b M) c t).2 := by
  refine YS_of (Nat.le_of_ble_eq_true rfl) ?_
  show mm_Wp pg_Yd_moveToward rt_Yd_moveToward (ct_Sem (d + 1)) (M, 0, [some (.inr (3, b)), some (.inl (nI c)), some (.inl t), none], []) _
  refine wgo (g' := (M, 12, [some (.inr (3, b)), some (.inl (nI c)), some (.inl t), some (.inr (0, b + 3 + 32 * c))], [.inl (M (b + 3 + 32 * c) 0), .inl t])) [oz 0, oz 0, oz 0, oz c, oz 0, oz 0, oz 0, oz 0] rfl ⟨trivial, trivial, trivial, ⟨rfl, (show c < 3 from by omega)⟩, Nat.le_of_ble_eq_true rfl, trivial, trivial, trivial, trivial⟩ ?_
  by_cases h1 : t ≤ (M (b + 3 + 32 * c) 0)
  · have k2 : t ≤ (cr ((yv b M)) c 0) := by
      have q : t ≤ (cr (yv b M) c 0) := h1
      exact q
    refine wgo (g' := (M, 48, [some (.inr (3, b)), some (.inl (nI c)), some (.inl t), some (.inr (0, b + 3 + 32 * c))], [.inl (M (b + 3 + 32 * c) 0), .inl t])) [oz 1, oz 0, oz 0, oz 0] rfl ⟨h1, trivial, trivial, trivial, trivial⟩ ?_
    by_cases h3 : (M (b + 3 + 32 * c) 0) ≤ t
    · have k4 : (cr ((yv b M)) c 0) ≤ t := by
        have q : (cr (yv b M) c 0) ≤ t := h3
        exact q
      refine wgo (g' := (M, 76, [some (.inr (3, b)), some (.inl (nI c)), some (.inl t), some (.inr (0, b + 3 + 32 * c))], [])) [oz 1] rfl ⟨h3, trivial⟩ ?_
      have x5 : f_Yd_moveToward (yv b M) c t = (0, (yv b M)) := by
        unfold f_Yd_moveToward
        rw [if_pos k2, if_pos k4]
      exact wend ⟨rfl, rfl⟩ ⟨rfl, (congrArg Prod.snd x5).symm, yf_rf⟩
    · have k6 : ¬ ((cr ((yv b M)) c 0) ≤ t) := by
        have q : ¬ ((cr (yv b M) c 0) ≤ t) := h3
        exact q
      refine wgo (g' := (M, 67, [some (.inr (3, b)), some (.inl (nI c)), some (.inl t), some (.inr (0, b + 3 + 32 * c))], [.inl (nI c), .inr (3, b), .inl (if t < ((M (b + 3 + 32 * c) 0) - (M b 2)) then ((M (b + 3 + 32 * c) 0) - (M b 2)) else t), .inr (0, b + 3 + 32 * c)])) [oz 0, oz 0, oz 0, oz 0, oz 0, oz 0, oz 0, oz 0, oz 0, oz 0, oz 0] rfl ⟨h3, trivial, trivial, trivial, trivial, trivial, trivial, trivial, Nat.le_of_ble_eq_true rfl, trivial, trivial, trivial⟩ ?_
      have s7 := sm_Yd_floorOf (d := d) (b := b) (M := M) (c := c) hc
      refine wgo (g' := (mm_up M (b + 3 + 32 * c) 0 (if (if t < ((M (b + 3 + 32 * c) 0) - (M b 2)) then ((M (b + 3 + 32 * c) 0) - (M b 2)) else t) < (f_Yd_floorOf (yv b M) c) then (f_Yd_floorOf (yv b M) c) else (if t < ((M (b + 3 + 32 * c) 0) - (M b 2)) then ((M (b + 3 + 32 * c) 0) - (M b 2)) else t)), 76, [some (.inr (3, b)), some (.inl (nI c)), some (.inl t), some (.inr (0, b + 3 + 32 * c))], [])) [oc (some (f_Yd_floorOf (yv b M) c), M), oz 0, oz 0] rfl ⟨⟨s7, Nat.le_of_ble_eq_true rfl, Nat.le_of_ble_eq_true rfl, ⟨_, rfl⟩⟩, Nat.le_of_ble_eq_true rfl, trivial, trivial⟩ ?_
      generalize e9 : mm_up M (b + 3 + 32 * c) 0 (if (if t < ((M (b + 3 + 32 * c) 0) - (M b 2)) then ((M (b + 3 + 32 * c) 0) - (M b 2)) else t) < (f_Yd_floorOf (yv b M) c) then (f_Yd_floorOf (yv b M) c) else (if t < ((M (b + 3 + 32 * c) 0) - (M b 2)) then ((M (b + 3 + 32 * c) 0) - (M b 2)) else t)) = M8
      have a10 : yv b M8 = ucr ((yv b M)) c 0 (if (if t < ((cr ((yv b M)) c 0) - (sc ((yv b M)) 2)) then ((cr ((yv b M)) c 0) - (sc ((yv b M)) 2)) else t) < (f_Yd_floorOf ((yv b M)) c) then (f_Yd_floorOf ((yv b M)) c) else (if t < ((cr ((yv b M)) c 0) - (sc ((yv b M)) 2)) then ((cr ((yv b M)) c 0) - (sc ((yv b M)) 2)) else t)) := by
        rw [← e9]
        refine yv_cr.trans ?_
        show ucr ((yv b M)) c 0 (if (if t < ((cr (yv b M) c 0) - (sc (yv b M) 2)) then ((cr (yv b M) c 0) - (sc (yv b M) 2)) else t) < (f_Yd_floorOf (yv b M) c) then (f_Yd_floorOf (yv b M) c) else (if t < ((cr (yv b M) c 0) - (sc (yv b M) 2)) then ((cr (yv b M) c 0) - (sc (yv b M) 2)) else t)) = _
        rfl
      have w11 : yf b M M8 := by rw [← e9]; exact yf_up yf_rf (by unfold yo; omega)
      have x12 : f_Yd_moveToward (yv b M) c t = (0, ucr ((yv b M)) c 0 (if (if t < ((cr ((yv b M)) c 0) - (sc ((yv b M)) 2)) then ((cr ((yv b M)) c 0) - (sc ((yv b M)) 2)) else t) < (f_Yd_floorOf ((yv b M)) c) then (f_Yd_floorOf ((yv b M)) c) else (if t < ((cr ((yv b M)) c 0) - (sc ((yv b M)) 2)) then ((cr ((yv b M)) c 0) - (sc ((yv b M)) 2)) else t))) := by
        unfold f_Yd_moveToward
        rw [if_pos k2, if_neg k6]
      exact wend ⟨rfl, rfl⟩ ⟨rfl, a10.trans (congrArg Prod.snd x12).symm, w11⟩
  · have k13 : ¬ (t ≤ (cr ((yv b M)) c 0)) := by
      have q : ¬ (t ≤ (cr (yv b M) c 0)) := h1
      exact q
    refine wgo (g' := (M, 31, [some (.inr (3, b)), some (.inl (nI c)), some (.inl t), some (.inr (0, b + 3 + 32 * c))], [.inl (nI c), .inr (3, b), .inl (if ((M (b + 3 + 32 * c) 0) + (M b 2)) < t then ((M (b + 3 + 32 * c) 0) + (M b 2)) else t), .inr (0, b + 3 + 32 * c)])) [oz 0, oz 0, oz 0, oz 0, oz 0, oz 0, oz 0, oz 0, oz 0, oz 0, oz 0] rfl ⟨h1, trivial, trivial, trivial, trivial, trivial, trivial, trivial, Nat.le_of_ble_eq_true rfl, trivial, trivial, trivial⟩ ?_
    have s14 := sm_Yd_ceilingOf (d := d) (b := b) (M := M) (c := c) hc hn
    refine wgo (g' := (mm_up M (b + 3 + 32 * c) 0 (if (f_Yd_ceilingOf (yv b M) c) < (if ((M (b + 3 + 32 * c) 0) + (M b 2)) < t then ((M (b + 3 + 32 * c) 0) + (M b 2)) else t) then (f_Yd_ceilingOf (yv b M) c) else (if ((M (b + 3 + 32 * c) 0) + (M b 2)) < t then ((M (b + 3 + 32 * c) 0) + (M b 2)) else t)), 40, [some (.inr (3, b)), some (.inl (nI c)), some (.inl t), some (.inr (0, b + 3 + 32 * c))], [])) [oc (some (f_Yd_ceilingOf (yv b M) c), M), oz 0, oz 0] rfl ⟨⟨s14, Nat.le_of_ble_eq_true rfl, Nat.le_of_ble_eq_true rfl, ⟨_, rfl⟩⟩, Nat.le_of_ble_eq_true rfl, trivial, trivial⟩ ?_
    generalize e16 : mm_up M (b + 3 + 32 * c) 0 (if (f_Yd_ceilingOf (yv b M) c) < (if ((M (b + 3 + 32 * c) 0) + (M b 2)) < t then ((M (b + 3 + 32 * c) 0) + (M b 2)) else t) then (f_Yd_ceilingOf (yv b M) c) else (if ((M (b + 3 + 32 * c) 0) + (M b 2)) < t then ((M (b + 3 + 32 * c) 0) + (M b 2)) else t)) = M15
    have a17 : yv b M15 = ucr ((yv b M)) c 0 (if (f_Yd_ceilingOf ((yv b M)) c) < (if ((cr ((yv b M)) c 0) + (sc ((yv b M)) 2)) < t then ((cr ((yv b M)) c 0) + (sc ((yv b M)) 2)) else t) then (f_Yd_ceilingOf ((yv b M)) c) else (if ((cr ((yv b M)) c 0) + (sc ((yv b M)) 2)) < t then ((cr ((yv b M)) c 0) + (sc ((yv b M)) 2)) else t)) := by
      rw [← e16]
      refine yv_cr.trans ?_
      show ucr ((yv b M)) c 0 (if (f_Yd_ceilingOf (yv b M) c) < (if ((cr (yv b M) c 0) + (sc (yv b M) 2)) < t then ((cr (yv b M) c 0) + (sc (yv b M) 2)) else t) then (f_Yd_ceilingOf (yv b M) c) else (if ((cr (yv b M) c 0) + (sc (yv b M) 2)) < t then ((cr (yv b M) c 0) + (sc (yv b M) 2)) else t)) = _
      rfl
    have w18 : yf b M M15 := by rw [← e16]; exact yf_up yf_rf (by unfold yo; omega)
    refine wgo (g' := (M15, 76, [some (.inr (3, b)), some (.inl (nI c)), some (.inl t), some (.inr (0, b + 3 + 32 * c))], [])) [oz 0] rfl ⟨trivial, trivial⟩ ?_
    have x19 : f_Yd_moveToward (yv b M) c t = (0, ucr ((yv b M)) c 0 (if (f_Yd_ceilingOf ((yv b M)) c) < (if ((cr ((yv b M)) c 0) + (sc ((yv b M)) 2)) < t then ((cr ((yv b M)) c 0) + (sc ((yv b M)) 2)) else t) then (f_Yd_ceilingOf ((yv b M)) c) else (if ((cr ((yv b M)) c 0) + (sc ((yv b M)) 2)) < t then ((cr ((yv b M)) c 0) + (sc ((yv b M)) 2)) else t))) := by
      unfold f_Yd_moveToward
      rw [if_neg k13]
    exact wend ⟨rfl, rfl⟩ ⟨rfl, a17.trans (congrArg Prod.snd x19).symm, w18⟩
