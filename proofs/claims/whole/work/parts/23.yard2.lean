def f_Cr_stand (A : ya) (c : Nat) (p : Int32) (l : Int32) (g : Int32) : Int32 × ya := (0, ucr (ucr (ucr (A) c 0 p) c 1 l) c 2 g)
set_option maxRecDepth 20000 in
set_option maxHeartbeats 1000000 in
theorem ys_Cr_stand {d b : Nat} {M : mm_M} {c : Nat} {p : Int32} {l : Int32} {g : Int32} (hb : b = 8 ∨ b = 16)  : YS (d + 1) 2 b M [.inr (0, b + 3 + 32 * c), .inl p, .inl l, .inl g] (none) (f_Cr_stand (yv b M) c p l g).2 := by
  refine YS_of (Nat.le_of_ble_eq_true rfl) ?_
  show mm_Wp pg_Cr_stand rt_Cr_stand (ct_Sem (d + 0)) (M, 0, [some (.inr (0, b + 3 + 32 * c)), some (.inl p), some (.inl l), some (.inl g)], []) _
  refine wgo (g' := (mm_up M (b + 3 + 32 * c) 0 p, 5, [some (.inr (0, b + 3 + 32 * c)), some (.inl p), some (.inl l), some (.inl g)], [])) [oz 0, oz 0, oz 0] rfl ⟨trivial, trivial, trivial, trivial⟩ ?_
  generalize e2 : mm_up M (b + 3 + 32 * c) 0 p = M1
  have a3 : yv b M1 = ucr ((yv b M)) c 0 p := by
    rw [← e2]
    refine yv_cr.trans ?_
    show ucr ((yv b M)) c 0 p = _
    rfl
  have w4 : yf b M M1 := by rw [← e2]; exact yf_up yf_rf (by unfold yo; omega)
  refine wgo (g' := (mm_up M1 (b + 3 + 32 * c) 1 l, 10, [some (.inr (0, b + 3 + 32 * c)), some (.inl p), some (.inl l), some (.inl g)], [])) [oz 0, oz 0, oz 0] rfl ⟨trivial, trivial, trivial, trivial⟩ ?_
  generalize e6 : mm_up M1 (b + 3 + 32 * c) 1 l = M5
  have a7 : yv b M5 = ucr (ucr ((yv b M)) c 0 p) c 1 l := by
    rw [← e6]
    refine yv_cr.trans ?_
    show ucr ((yv b M1)) c 1 l = _
    first | rfl | simp only [a3]
  have w8 : yf b M M5 := by rw [← e6]; exact yf_up w4 (by unfold yo; omega)
  refine wgo (g' := (mm_up M5 (b + 3 + 32 * c) 2 g, 15, [some (.inr (0, b + 3 + 32 * c)), some (.inl p), some (.inl l), some (.inl g)], [])) [oz 0, oz 0, oz 0] rfl ⟨trivial, trivial, trivial, trivial⟩ ?_
  generalize e10 : mm_up M5 (b + 3 + 32 * c) 2 g = M9
  have a11 : yv b M9 = ucr (ucr (ucr ((yv b M)) c 0 p) c 1 l) c 2 g := by
    rw [← e10]
    refine yv_cr.trans ?_
    show ucr ((yv b M5)) c 2 g = _
    first | rfl | simp only [a3, a7]
  have w12 : yf b M M9 := by rw [← e10]; exact yf_up w8 (by unfold yo; omega)
  have x13 : f_Cr_stand (yv b M) c p l g = (0, ucr (ucr (ucr ((yv b M)) c 0 p) c 1 l) c 2 g) := by
    unfold f_Cr_stand
    rfl
  exact wend ⟨rfl, rfl⟩ ⟨rfl, a11.trans (congrArg Prod.snd x13).symm, w12⟩
def f_Cr_queue (A : ya) (c : Nat) (x : Int32) : Int32 × ya := (if 8 ≤ (cr (A) c 10) then (0, A) else (0, ucr (uwa (A) c (ix (cr (A) c 10)) x) c 10 ((cr (uwa (A) c (ix (cr (A) c 10)) x) c 10) + 1)))
set_option maxRecDepth 20000 in
set_option maxHeartbeats 1000000 in
theorem ys_Cr_queue {d b : Nat} {M : mm_M} {c : Nat} {x : Int32} (hb : b = 8 ∨ b = 16) (hq : ¬ 8 ≤ cr (yv b M) c 10 → okx 8 (cr (yv b M) c 10)) : YS (d + 1) 5 b M [.inr (0, b + 3 + 32 * c), .inl x] (none) (f_Cr_queue (yv b M) c x).2 := by
  refine YS_of (Nat.le_of_ble_eq_true rfl) ?_
  show mm_Wp pg_Cr_queue rt_Cr_queue (ct_Sem (d + 0)) (M, 0, [some (.inr (0, b + 3 + 32 * c)), some (.inl x)], []) _
  refine wgo (g' := (M, 6, [some (.inr (0, b + 3 + 32 * c)), some (.inl x)], [.inl 8, .inl (M (b + 3 + 32 * c) 10)])) [oz 0, oz 0, oz 0] rfl ⟨trivial, trivial, trivial, trivial⟩ ?_
  by_cases h1 : 8 ≤ (M (b + 3 + 32 * c) 10)
  · have k2 : 8 ≤ (cr ((yv b M)) c 10) := by
      have q : 8 ≤ (cr (yv b M) c 10) := h1
      exact q
    refine wgo (g' := (M, 29, [some (.inr (0, b + 3 + 32 * c)), some (.inl x)], [])) [oz 1] rfl ⟨h1, trivial⟩ ?_
    have x3 : f_Cr_queue (yv b M) c x = (0, (yv b M)) := by
      unfold f_Cr_queue
      rw [if_pos k2]
    exact wend ⟨rfl, rfl⟩ ⟨rfl, (congrArg Prod.snd x3).symm, yf_rf⟩
  · have k4 : ¬ (8 ≤ (cr ((yv b M)) c 10)) := by
      have q : ¬ (8 ≤ (cr (yv b M) c 10)) := h1
      exact q
    refine wgo (g' := (mm_up M (b + 3 + 32 * c + 2) (ix (M (b + 3 + 32 * c) 10)) x, 19, [some (.inr (0, b + 3 + 32 * c)), some (.inl x)], [])) [oz 0, oz 0, oz 0, oz 0, oz 0, oz 0, oz (ix (M (b + 3 + 32 * c) 10))] rfl ⟨h1, trivial, trivial, trivial, trivial, trivial, hq k4, trivial⟩ ?_
    generalize e6 : mm_up M (b + 3 + 32 * c + 2) (ix (M (b + 3 + 32 * c) 10)) x = M5
    have a7 : yv b M5 = uwa ((yv b M)) c (ix (cr ((yv b M)) c 10)) x := by
      rw [← e6]
      refine yv_wa.trans ?_
      show uwa ((yv b M)) c (ix (cr (yv b M) c 10)) x = _
      rfl
    have w8 : yf b M M5 := by rw [← e6]; exact yf_up yf_rf (by unfold yo; omega)
    refine wgo (g' := (mm_up M5 (b + 3 + 32 * c) 10 ((M5 (b + 3 + 32 * c) 10) + 1), 29, [some (.inr (0, b + 3 + 32 * c)), some (.inl x)], [])) [oz 0, oz 0, oz 0, oz 0, oz 0, oz 0] rfl ⟨trivial, trivial, trivial, trivial, trivial, trivial, trivial⟩ ?_
    generalize e10 : mm_up M5 (b + 3 + 32 * c) 10 ((M5 (b + 3 + 32 * c) 10) + 1) = M9
    have a11 : yv b M9 = ucr (uwa ((yv b M)) c (ix (cr ((yv b M)) c 10)) x) c 10 ((cr (uwa ((yv b M)) c (ix (cr ((yv b M)) c 10)) x) c 10) + 1) := by
      rw [← e10]
      refine yv_cr.trans ?_
      show ucr ((yv b M5)) c 10 ((cr (yv b M5) c 10) + 1) = _
      first | rfl | simp only [a7]
    have w12 : yf b M M9 := by rw [← e10]; exact yf_up w8 (by unfold yo; omega)
    have x13 : f_Cr_queue (yv b M) c x = (0, ucr (uwa ((yv b M)) c (ix (cr ((yv b M)) c 10)) x) c 10 ((cr (uwa ((yv b M)) c (ix (cr ((yv b M)) c 10)) x) c 10) + 1)) := by
      unfold f_Cr_queue
      rw [if_neg k4]
    exact wend ⟨rfl, rfl⟩ ⟨rfl, a11.trans (congrArg Prod.snd x13).symm, w12⟩
def f_Yd_handleIfThere (A : ya) (c : Nat) : Int32 × ya := (if (cr (A) c 0) = (cr (A) c 6) then (if (cr (A) c 5) = 1 then (0, ucr (ucr (A) c 5 2) c 7 (sc (ucr (A) c 5 2) 3)) else (0, ucr (ucr (A) c 5 4) c 7 (sc (ucr (A) c 5 4) 3))) else (0, A))
set_option maxRecDepth 20000 in
set_option maxHeartbeats 1000000 in
theorem ys_Yd_handleIfThere {d b : Nat} {M : mm_M} {c : Nat} (hb : b = 8 ∨ b = 16)  : YS (d + 1) 27 b M [.inr (3, b), .inr (0, b + 3 + 32 * c)] (none) (f_Yd_handleIfThere (yv b M) c).2 := by
  refine YS_of (Nat.le_of_ble_eq_true rfl) ?_
  show mm_Wp pg_Yd_handleIfThere rt_Yd_handleIfThere (ct_Sem (d + 0)) (M, 0, [some (.inr (3, b)), some (.inr (0, b + 3 + 32 * c))], []) _
  refine wgo (g' := (M, 8, [some (.inr (3, b)), some (.inr (0, b + 3 + 32 * c))], [.inl (M (b + 3 + 32 * c) 6), .inl (M (b + 3 + 32 * c) 0)])) [oz 0, oz 0, oz 0, oz 0] rfl ⟨trivial, trivial, trivial, trivial, trivial⟩ ?_
  by_cases h1 : (M (b + 3 + 32 * c) 0) = (M (b + 3 + 32 * c) 6)
  · have k2 : (cr ((yv b M)) c 0) = (cr ((yv b M)) c 6) := by
      have q : (cr (yv b M) c 0) = (cr (yv b M) c 6) := h1
      exact q
    refine wgo (g' := (M, 17, [some (.inr (3, b)), some (.inr (0, b + 3 + 32 * c))], [.inl 1, .inl (M (b + 3 + 32 * c) 5), .inr (0, b + 3 + 32 * c)])) [oz 0, oz 0, oz 0, oz 0, oz 0] rfl ⟨(fun z => z h1), trivial, trivial, trivial, trivial, trivial⟩ ?_
    by_cases h3 : (M (b + 3 + 32 * c) 5) = 1
    · have k4 : (cr ((yv b M)) c 5) = 1 := by
        have q : (cr (yv b M) c 5) = 1 := h3
        exact q
      refine wgo (g' := (mm_up M (b + 3 + 32 * c) 5 2, 28, [some (.inr (3, b)), some (.inr (0, b + 3 + 32 * c))], [])) [oz 0, oz 0, oz 0, oz 0] rfl ⟨(fun z => z h3), trivial, trivial, trivial, trivial⟩ ?_
      generalize e6 : mm_up M (b + 3 + 32 * c) 5 2 = M5
      have a7 : yv b M5 = ucr ((yv b M)) c 5 2 := by
        rw [← e6]
        refine yv_cr.trans ?_
        show ucr ((yv b M)) c 5 2 = _
        rfl
      have w8 : yf b M M5 := by rw [← e6]; exact yf_up yf_rf (by unfold yo; omega)
      refine wgo (g' := (mm_up M5 (b + 3 + 32 * c) 7 (M5 b 3), 36, [some (.inr (3, b)), some (.inr (0, b + 3 + 32 * c))], [])) [oz 0, oz 0, oz 0, oz 0] rfl ⟨trivial, trivial, trivial, trivial, trivial⟩ ?_
      generalize e10 : mm_up M5 (b + 3 + 32 * c) 7 (M5 b 3) = M9
      have a11 : yv b M9 = ucr (ucr ((yv b M)) c 5 2) c 7 (sc (ucr ((yv b M)) c 5 2) 3) := by
        rw [← e10]
        refine yv_cr.trans ?_
        show ucr ((yv b M5)) c 7 (sc (yv b M5) 3) = _
        first | rfl | simp only [a7]
      have w12 : yf b M M9 := by rw [← e10]; exact yf_up w8 (by unfold yo; omega)
      have x13 : f_Yd_handleIfThere (yv b M) c = (0, ucr (ucr ((yv b M)) c 5 2) c 7 (sc (ucr ((yv b M)) c 5 2) 3)) := by
        unfold f_Yd_handleIfThere
        rw [if_pos k2, if_pos k4]
      exact wend ⟨rfl, rfl⟩ ⟨rfl, a11.trans (congrArg Prod.snd x13).symm, w12⟩
    · have k14 : ¬ ((cr ((yv b M)) c 5) = 1) := by
        have q : ¬ ((cr (yv b M) c 5) = 1) := h3
        exact q
      refine wgo (g' := (mm_up M (b + 3 + 32 * c) 5 4, 28, [some (.inr (3, b)), some (.inr (0, b + 3 + 32 * c))], [])) [oz 1, oz 0, oz 0] rfl ⟨h3, trivial, trivial, trivial⟩ ?_
      generalize e16 : mm_up M (b + 3 + 32 * c) 5 4 = M15
      have a17 : yv b M15 = ucr ((yv b M)) c 5 4 := by
        rw [← e16]
        refine yv_cr.trans ?_
        show ucr ((yv b M)) c 5 4 = _
        rfl
      have w18 : yf b M M15 := by rw [← e16]; exact yf_up yf_rf (by unfold yo; omega)
      refine wgo (g' := (mm_up M15 (b + 3 + 32 * c) 7 (M15 b 3), 36, [some (.inr (3, b)), some (.inr (0, b + 3 + 32 * c))], [])) [oz 0, oz 0, oz 0, oz 0] rfl ⟨trivial, trivial, trivial, trivial, trivial⟩ ?_
      generalize e20 : mm_up M15 (b + 3 + 32 * c) 7 (M15 b 3) = M19
      have a21 : yv b M19 = ucr (ucr ((yv b M)) c 5 4) c 7 (sc (ucr ((yv b M)) c 5 4) 3) := by
        rw [← e20]
        refine yv_cr.trans ?_
        show ucr ((yv b M15)) c 7 (sc (yv b M15) 3) = _
        first | rfl | simp only [a17]
      have w22 : yf b M M19 := by rw [← e20]; exact yf_up w18 (by unfold yo; omega)
      have x23 : f_Yd_handleIfThere (yv b M) c = (0, ucr (ucr ((yv b M)) c 5 4) c 7 (sc (ucr ((yv b M)) c 5 4) 3)) := by
        unfold f_Yd_handleIfThere
        rw [if_pos k2, if_neg k14]
      exact wend ⟨rfl, rfl⟩ ⟨rfl, a21.trans (congrArg Prod.snd x23).symm, w22⟩
  · have k24 : ¬ ((cr ((yv b M)) c 0) = (cr ((yv b M)) c 6)) := by
      have q : ¬ ((cr (yv b M) c 0) = (cr (yv b M) c 6)) := h1
      exact q
    refine wgo (g' := (M, 36, [some (.inr (3, b)), some (.inr (0, b + 3 + 32 * c))], [])) [oz 1] rfl ⟨h1, trivial⟩ ?_
    have x25 : f_Yd_handleIfThere (yv b M) c = (0, (yv b M)) := by
      unfold f_Yd_handleIfThere
      rw [if_neg k24]
    exact wend ⟨rfl, rfl⟩ ⟨rfl, (congrArg Prod.snd x25).symm, yf_rf⟩
def f_Yd_addJob (A : ya) (x : Int32) (y : Int32) (r : Int32) : Int32 × ya := (sc (A) 6, usc (usc (ujb (ujb (ujb (A) (ix (sc (A) 6)) 0 x) (ix (sc (A) 6)) 1 y) (ix (sc (A) 6)) 2 r) 6 ((sc (ujb (ujb (ujb (A) (ix (sc (A) 6)) 0 x) (ix (sc (A) 6)) 1 y) (ix (sc (A) 6)) 2 r) 6) + 1)) 7 ((sc (usc (ujb (ujb (ujb (A) (ix (sc (A) 6)) 0 x) (ix (sc (A) 6)) 1 y) (ix (sc (A) 6)) 2 r) 6 ((sc (ujb (ujb (ujb (A) (ix (sc (A) 6)) 0 x) (ix (sc (A) 6)) 1 y) (ix (sc (A) 6)) 2 r) 6) + 1)) 7) + 1))
set_option maxRecDepth 20000 in
set_option maxHeartbeats 1000000 in
theorem ys_Yd_addJob {d b : Nat} {M : mm_M} {x : Int32} {y : Int32} {r : Int32} (hb : b = 8 ∨ b = 16) (hj : okx 8 (sc (yv b M) 6)) : YS (d + 1) 17 b M [.inr (3, b), .inl x, .inl y, .inl r] (some (f_Yd_addJob (yv b M) x y r).1) (f_Yd_addJob (yv b M) x y r).2 := by
  refine YS_of (Nat.le_of_ble_eq_true rfl) ?_
  show mm_Wp pg_Yd_addJob rt_Yd_addJob (ct_Sem (d + 0)) (M, 0, [some (.inr (3, b)), some (.inl x), some (.inl y), some (.inl r), none], []) _
  refine wgo (g' := (mm_up M (b + 6 + 32 * (ix (M b 6))) 0 x, 17, [some (.inr (3, b)), some (.inl x), some (.inl y), some (.inl r), some (.inl (M b 6))], [])) [oz 0, oz 0, oz 0, oz 0, oz 0, oz 0, oz (ix (M b 6)), oz 0, oz 0] rfl ⟨trivial, trivial, Nat.le_of_ble_eq_true rfl, trivial, trivial, trivial, hj, trivial, trivial, trivial⟩ ?_
  generalize e2 : mm_up M (b + 6 + 32 * (ix (M b 6))) 0 x = M1
  have a3 : yv b M1 = ujb ((yv b M)) (ix (sc ((yv b M)) 6)) 0 x := by
    rw [← e2]
    refine yv_jb.trans ?_
    show ujb ((yv b M)) (ix (sc (yv b M) 6)) 0 x = _
    rfl
  have w4 : yf b M M1 := by rw [← e2]; exact yf_up yf_rf (by unfold yo; omega)
  refine wgo (g' := (mm_up M1 (b + 6 + 32 * (ix (M b 6))) 1 y, 28, [some (.inr (3, b)), some (.inl x), some (.inl y), some (.inl r), some (.inl (M b 6))], [])) [oz 0, oz 0, oz 0, oz (ix (M b 6)), oz 0, oz 0] rfl ⟨trivial, trivial, trivial, hj, trivial, trivial, trivial⟩ ?_
  generalize e6 : mm_up M1 (b + 6 + 32 * (ix (M b 6))) 1 y = M5
  have a7 : yv b M5 = ujb (ujb ((yv b M)) (ix (sc ((yv b M)) 6)) 0 x) (ix (sc ((yv b M)) 6)) 1 y := by
    rw [← e6]
    refine yv_jb.trans ?_
    show ujb ((yv b M1)) (ix (sc (yv b M) 6)) 1 y = _
    first | rfl | simp only [a3]
  have w8 : yf b M M5 := by rw [← e6]; exact yf_up w4 (by unfold yo; omega)
  refine wgo (g' := (mm_up M5 (b + 6 + 32 * (ix (M b 6))) 2 r, 39, [some (.inr (3, b)), some (.inl x), some (.inl y), some (.inl r), some (.inl (M b 6))], [])) [oz 0, oz 0, oz 0, oz (ix (M b 6)), oz 0, oz 0] rfl ⟨trivial, trivial, trivial, hj, trivial, trivial, trivial⟩ ?_
  generalize e10 : mm_up M5 (b + 6 + 32 * (ix (M b 6))) 2 r = M9
  have a11 : yv b M9 = ujb (ujb (ujb ((yv b M)) (ix (sc ((yv b M)) 6)) 0 x) (ix (sc ((yv b M)) 6)) 1 y) (ix (sc ((yv b M)) 6)) 2 r := by
    rw [← e10]
    refine yv_jb.trans ?_
    show ujb ((yv b M5)) (ix (sc (yv b M) 6)) 2 r = _
    first | rfl | simp only [a3, a7]
  have w12 : yf b M M9 := by rw [← e10]; exact yf_up w8 (by unfold yo; omega)
  refine wgo (g' := (mm_up M9 b 6 ((M9 b 6) + 1), 49, [some (.inr (3, b)), some (.inl x), some (.inl y), some (.inl r), some (.inl (M b 6))], [])) [oz 0, oz 0, oz 0, oz 0, oz 0, oz 0] rfl ⟨trivial, trivial, trivial, trivial, trivial, trivial, trivial⟩ ?_
  generalize e14 : mm_up M9 b 6 ((M9 b 6) + 1) = M13
  have a15 : yv b M13 = usc (ujb (ujb (ujb ((yv b M)) (ix (sc ((yv b M)) 6)) 0 x) (ix (sc ((yv b M)) 6)) 1 y) (ix (sc ((yv b M)) 6)) 2 r) 6 ((sc (ujb (ujb (ujb ((yv b M)) (ix (sc ((yv b M)) 6)) 0 x) (ix (sc ((yv b M)) 6)) 1 y) (ix (sc ((yv b M)) 6)) 2 r) 6) + 1) := by
    rw [← e14]
    refine yv_sc.trans ?_
    show usc ((yv b M9)) 6 ((sc (yv b M9) 6) + 1) = _
    first | rfl | simp only [a3, a7, a11]
  have w16 : yf b M M13 := by rw [← e14]; exact yf_up w12 (by unfold yo; omega)
  refine wgo (g' := (mm_up M13 b 7 ((M13 b 7) + 1), 59, [some (.inr (3, b)), some (.inl x), some (.inl y), some (.inl r), some (.inl (M b 6))], [])) [oz 0, oz 0, oz 0, oz 0, oz 0, oz 0] rfl ⟨trivial, trivial, trivial, trivial, trivial, trivial, trivial⟩ ?_
  generalize e18 : mm_up M13 b 7 ((M13 b 7) + 1) = M17
  have a19 : yv b M17 = usc (usc (ujb (ujb (ujb ((yv b M)) (ix (sc ((yv b M)) 6)) 0 x) (ix (sc ((yv b M)) 6)) 1 y) (ix (sc ((yv b M)) 6)) 2 r) 6 ((sc (ujb (ujb (ujb ((yv b M)) (ix (sc ((yv b M)) 6)) 0 x) (ix (sc ((yv b M)) 6)) 1 y) (ix (sc ((yv b M)) 6)) 2 r) 6) + 1)) 7 ((sc (usc (ujb (ujb (ujb ((yv b M)) (ix (sc ((yv b M)) 6)) 0 x) (ix (sc ((yv b M)) 6)) 1 y) (ix (sc ((yv b M)) 6)) 2 r) 6 ((sc (ujb (ujb (ujb ((yv b M)) (ix (sc ((yv b M)) 6)) 0 x) (ix (sc ((yv b M)) 6)) 1 y) (ix (sc ((yv b M)) 6)) 2 r) 6) + 1)) 7) + 1) := by
    rw [← e18]
    refine yv_sc.trans ?_
    show usc ((yv b M13)) 7 ((sc (yv b M13) 7) + 1) = _
    first | rfl | simp only [a3, a7, a11, a15]
  have w20 : yf b M M17 := by rw [← e18]; exact yf_up w16 (by unfold yo; omega)
  refine wgo (g' := (M17, 61, [some (.inr (3, b)), some (.inl x), some (.inl y), some (.inl r), some (.inl (M b 6))], [.inl (M b 6)])) [oz 0] rfl ⟨trivial, trivial⟩ ?_
  have x21 : f_Yd_addJob (yv b M) x y r = (sc ((yv b M)) 6, usc (usc (ujb (ujb (ujb ((yv b M)) (ix (sc ((yv b M)) 6)) 0 x) (ix (sc ((yv b M)) 6)) 1 y) (ix (sc ((yv b M)) 6)) 2 r) 6 ((sc (ujb (ujb (ujb ((yv b M)) (ix (sc ((yv b M)) 6)) 0 x) (ix (sc ((yv b M)) 6)) 1 y) (ix (sc ((yv b M)) 6)) 2 r) 6) + 1)) 7 ((sc (usc (ujb (ujb (ujb ((yv b M)) (ix (sc ((yv b M)) 6)) 0 x) (ix (sc ((yv b M)) 6)) 1 y) (ix (sc ((yv b M)) 6)) 2 r) 6 ((sc (ujb (ujb (ujb ((yv b M)) (ix (sc ((yv b M)) 6)) 0 x) (ix (sc ((yv b M)) 6)) 1 y) (ix (sc ((yv b M)) 6)) 2 r) 6) + 1)) 7) + 1)) := by
    unfold f_Yd_addJob
    rfl
  exact wend ⟨_, rfl, rfl⟩ ⟨congrArg some ((show (sc (yv b M) 6 : Int32) = sc ((yv b M)) 6 from by first | rfl | simp only [a3, a7, a11, a15, a19]).trans (congrArg Prod.fst x21).symm), a19.trans (congrArg Prod.snd x21).symm, w20⟩
