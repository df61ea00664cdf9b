theorem tw_end {α : Type} {P : Nat → α → Prop} {i m : Nat} {X : α} {x : Int32} (h : P i X) (hx : x = nI m) (hc : x ≤ nI i) (hi : i ≤ m) (hm : m < 2 ^ 31 := by omega) : P m X := by
  subst hx
  have e : i = m := by
    have := (nI_leI hm (by omega)).mp hc
    omega
  rw [← e]; exact h
def f_tw2 : Nat → (mm_M × ya) → ya → Nat → Int32 × (mm_M × ya)
  | 0, A, _, _ => (0, A)
  | r + 1, A, B, i => (if (sc (A).2 7) ≤ 0 then (if (sc (A).2 7) = 0 then (if ((A).1 0 8) < (nI i) then (0, A) else (0, ((f_Pl_keepWay (A).1 (nI i)).2, (A).2))) else (0, A)) else (if ((A).1 0 8) ≤ (nI i) then (if (sc (A).2 7) = 0 then (if ((A).1 0 8) < (nI i) then (0, A) else (0, ((f_Pl_keepWay (A).1 (nI i)).2, (A).2))) else (0, A)) else (f_tw2 r (((A).1, (f_Yd_passSecond (A).2 ).2)) B (i + 1))))
set_option maxRecDepth 20000 in
set_option maxHeartbeats 1000000 in
theorem lp_tw2 {d : Nat} {M : mm_M}    {n m : Nat} {I : ya → Prop} (hn3 : n ≤ 3) (hm4 : m ≤ 4) (hI0 : ∀ A, I A → ynn A n) (hI1 : ∀ A i, I A → i < n → yone A n i) (hI2 : ∀ A i, I A → i < n → I (f_tick A i)) (hI3 : ∀ A, I A → I (f_Yd_passSecond A).2) : ∀ (r : Nat) (A : (mm_M × ya)) (Mz : mm_M) (i : Nat), cv Mz = A → cf M Mz → (I A.2) → (A.1 0 5 = nI m) → (A.1 0 8 ≤ 300) → (i ≤ 300) → (300 < i + r) → mm_Wp pg_Pl_tryWay rt_Pl_tryWay (ct_Sem (d + 4)) (Mz, 45, [some (.inr (2, 1)), some (.inr (3, 8)), some (.inl (nI i))], []) (cQ M (none) (f_tw2 r A (yv 8 M) i).2) := by
  intro r
  induction r with
  | zero =>
    intro A Mz i hA hf hI hm hl hi hr
    exfalso; omega
  | succ r ih =>
    intro A Mz i hA hf hI hm hl hi hr
    have b1 : yv 8 Mz = yv 8 M := cv_fr hf
    refine wgo (g' := (Mz, 52, [some (.inr (2, 1)), some (.inr (3, 8)), some (.inl (nI i))], [.inl (Mz 16 7)])) [oz 0, oz 0, oz 0] rfl ⟨trivial, trivial, trivial, trivial⟩ ?_
    by_cases h2 : (Mz 16 7) ≤ 0
    · have k3 : (sc (A).2 7) ≤ 0 := by
        have q : (sc (cv Mz).2 7) ≤ 0 := h2
        first | exact q | (simp only [hA, b1] at q; exact q)
      refine wgo (g' := (Mz, 83, [some (.inr (2, 1)), some (.inr (3, 8)), some (.inl (nI i))], [.inl (Mz 16 7)])) [oz 1, oz 0, oz 0, oz 0] rfl ⟨h2, trivial, trivial, trivial, trivial⟩ ?_
      by_cases h4 : (Mz 16 7) = 0
      · have k5 : (sc (A).2 7) = 0 := by
          have q : (sc (cv Mz).2 7) = 0 := h4
          first | exact q | (simp only [hA, b1] at q; exact q)
        refine wgo (g' := (Mz, 91, [some (.inr (2, 1)), some (.inr (3, 8)), some (.inl (nI i))], [.inl (Mz 1 8), .inl (nI i)])) [oz 0, oz 0, oz 0, oz 0] rfl ⟨(fun z => z h4), trivial, trivial, trivial, trivial⟩ ?_
        by_cases h6 : (Mz 1 8) < (nI i)
        · have k7 : ((A).1 0 8) < (nI i) := by
            have q : ((cv Mz).1 0 8) < (nI i) := h6
            first | exact q | (simp only [hA, b1] at q; exact q)
          refine wgo (g' := (Mz, 99, [some (.inr (2, 1)), some (.inr (3, 8)), some (.inl (nI i))], [])) [oz 1] rfl ⟨h6, trivial⟩ ?_
          have x8 : f_tw2 (r + 1) A (yv 8 M) i = (0, A) := by
            rw [f_tw2]
            rw [if_pos k3, if_pos k5, if_pos k7]
          exact wend ⟨rfl, rfl⟩ ⟨rfl, hA.trans (congrArg Prod.snd x8).symm, hf⟩
        · have k9 : ¬ (((A).1 0 8) < (nI i)) := by
            have q : ¬ (((cv Mz).1 0 8) < (nI i)) := h6
            first | exact q | (simp only [hA, b1] at q; exact q)
          refine wgo (g' := (Mz, 96, [some (.inr (2, 1)), some (.inr (3, 8)), some (.inl (nI i))], [.inl (nI i), .inr (2, 1)])) [oz 0, oz 0, oz 0] rfl ⟨h6, trivial, trivial, trivial⟩ ?_
          obtain ⟨M10, s11, a12, w13⟩ := ps_Pl_keepWay (d := d + 3) (M := Mz) (x := nI i) (show (cv Mz).1 0 5 = nI m from by rw [hA]; exact hm) hm4
          have a12 : cv M10 = ((f_Pl_keepWay (A).1 (nI i)).2, (A).2) := (cv_p w13 a12).trans (show ((f_Pl_keepWay ((cv Mz)).1 (nI i)).2, ((cv Mz)).2) = _ from by first | rfl | simp only [hA, b1])
          have w13 : cf M M10 := cf_tr hf (cf_p w13)
          have b14 : yv 8 M10 = yv 8 M := cv_fr w13
          refine wgo (g' := (M10, 99, [some (.inr (2, 1)), some (.inr (3, 8)), some (.inl (nI i))], [])) [oc (none, M10)] rfl ⟨⟨s11, Nat.le_of_ble_eq_true rfl, Nat.le_of_ble_eq_true rfl, ⟨_, rfl⟩⟩, trivial⟩ ?_
          have x15 : f_tw2 (r + 1) A (yv 8 M) i = (0, ((f_Pl_keepWay (A).1 (nI i)).2, (A).2)) := by
            rw [f_tw2]
            rw [if_pos k3, if_pos k5, if_neg k9]
          exact wend ⟨rfl, rfl⟩ ⟨rfl, a12.trans (congrArg Prod.snd x15).symm, w13⟩
      · have k16 : ¬ ((sc (A).2 7) = 0) := by
          have q : ¬ ((sc (cv Mz).2 7) = 0) := h4
          first | exact q | (simp only [hA, b1] at q; exact q)
        refine wgo (g' := (Mz, 99, [some (.inr (2, 1)), some (.inr (3, 8)), some (.inl (nI i))], [])) [oz 1] rfl ⟨h4, trivial⟩ ?_
        have x17 : f_tw2 (r + 1) A (yv 8 M) i = (0, A) := by
          rw [f_tw2]
          rw [if_pos k3, if_neg k16]
        exact wend ⟨rfl, rfl⟩ ⟨rfl, hA.trans (congrArg Prod.snd x17).symm, hf⟩
    · have k18 : ¬ ((sc (A).2 7) ≤ 0) := by
        have q : ¬ ((sc (cv Mz).2 7) ≤ 0) := h2
        first | exact q | (simp only [hA, b1] at q; exact q)
      refine wgo (g' := (Mz, 60, [some (.inr (2, 1)), some (.inr (3, 8)), some (.inl (nI i))], [.inl (Mz 1 8), .inl (nI i)])) [oz 0, oz 0, oz 0, oz 0] rfl ⟨h2, trivial, trivial, trivial, trivial⟩ ?_
      by_cases h19 : (Mz 1 8) ≤ (nI i)
      · have k20 : ((A).1 0 8) ≤ (nI i) := by
          have q : ((cv Mz).1 0 8) ≤ (nI i) := h19
          first | exact q | (simp only [hA, b1] at q; exact q)
        refine wgo (g' := (Mz, 83, [some (.inr (2, 1)), some (.inr (3, 8)), some (.inl (nI i))], [.inl (Mz 16 7)])) [oz 1, oz 0, oz 0, oz 0] rfl ⟨h19, trivial, trivial, trivial, trivial⟩ ?_
        by_cases h21 : (Mz 16 7) = 0
        · have k22 : (sc (A).2 7) = 0 := by
            have q : (sc (cv Mz).2 7) = 0 := h21
            first | exact q | (simp only [hA, b1] at q; exact q)
          refine wgo (g' := (Mz, 91, [some (.inr (2, 1)), some (.inr (3, 8)), some (.inl (nI i))], [.inl (Mz 1 8), .inl (nI i)])) [oz 0, oz 0, oz 0, oz 0] rfl ⟨(fun z => z h21), trivial, trivial, trivial, trivial⟩ ?_
          by_cases h23 : (Mz 1 8) < (nI i)
          · have k24 : ((A).1 0 8) < (nI i) := by
              have q : ((cv Mz).1 0 8) < (nI i) := h23
              first | exact q | (simp only [hA, b1] at q; exact q)
            refine wgo (g' := (Mz, 99, [some (.inr (2, 1)), some (.inr (3, 8)), some (.inl (nI i))], [])) [oz 1] rfl ⟨h23, trivial⟩ ?_
            have x25 : f_tw2 (r + 1) A (yv 8 M) i = (0, A) := by
              rw [f_tw2]
              rw [if_neg k18, if_pos k20, if_pos k22, if_pos k24]
            exact wend ⟨rfl, rfl⟩ ⟨rfl, hA.trans (congrArg Prod.snd x25).symm, hf⟩
          · have k26 : ¬ (((A).1 0 8) < (nI i)) := by
              have q : ¬ (((cv Mz).1 0 8) < (nI i)) := h23
              first | exact q | (simp only [hA, b1] at q; exact q)
            refine wgo (g' := (Mz, 96, [some (.inr (2, 1)), some (.inr (3, 8)), some (.inl (nI i))], [.inl (nI i), .inr (2, 1)])) [oz 0, oz 0, oz 0] rfl ⟨h23, trivial, trivial, trivial⟩ ?_
            obtain ⟨M27, s28, a29, w30⟩ := ps_Pl_keepWay (d := d + 3) (M := Mz) (x := nI i) (show (cv Mz).1 0 5 = nI m from by rw [hA]; exact hm) hm4
            have a29 : cv M27 = ((f_Pl_keepWay (A).1 (nI i)).2, (A).2) := (cv_p w30 a29).trans (show ((f_Pl_keepWay ((cv Mz)).1 (nI i)).2, ((cv Mz)).2) = _ from by first | rfl | simp only [hA, b1])
            have w30 : cf M M27 := cf_tr hf (cf_p w30)
            have b31 : yv 8 M27 = yv 8 M := cv_fr w30
            refine wgo (g' := (M27, 99, [some (.inr (2, 1)), some (.inr (3, 8)), some (.inl (nI i))], [])) [oc (none, M27)] rfl ⟨⟨s28, Nat.le_of_ble_eq_true rfl, Nat.le_of_ble_eq_true rfl, ⟨_, rfl⟩⟩, trivial⟩ ?_
            have x32 : f_tw2 (r + 1) A (yv 8 M) i = (0, ((f_Pl_keepWay (A).1 (nI i)).2, (A).2)) := by
              rw [f_tw2]
              rw [if_neg k18, if_pos k20, if_pos k22, if_neg k26]
            exact wend ⟨rfl, rfl⟩ ⟨rfl, a29.trans (congrArg Prod.snd x32).symm, w30⟩
        · have k33 : ¬ ((sc (A).2 7) = 0) := by
            have q : ¬ ((sc (cv Mz).2 7) = 0) := h21
            first | exact q | (simp only [hA, b1] at q; exact q)
          refine wgo (g' := (Mz, 99, [some (.inr (2, 1)), some (.inr (3, 8)), some (.inl (nI i))], [])) [oz 1] rfl ⟨h21, trivial⟩ ?_
          have x34 : f_tw2 (r + 1) A (yv 8 M) i = (0, A) := by
            rw [f_tw2]
            rw [if_neg k18, if_pos k20, if_neg k33]
          exact wend ⟨rfl, rfl⟩ ⟨rfl, hA.trans (congrArg Prod.snd x34).symm, hf⟩
      · have k35 : ¬ (((A).1 0 8) ≤ (nI i)) := by
          have q : ¬ (((cv Mz).1 0 8) ≤ (nI i)) := h19
          first | exact q | (simp only [hA, b1] at q; exact q)
        refine wgo (g' := (Mz, 67, [some (.inr (2, 1)), some (.inr (3, 8)), some (.inl (nI i))], [.inr (3, 16)])) [oz 0, oz 0, oz 0] rfl ⟨h19, trivial, trivial, trivial⟩ ?_
        obtain ⟨M36, s37, a38, w39⟩ := ys_Yd_passSecond (d := d) (b := 16) (M := Mz)  (Or.inr rfl)  hn3 hI0 hI1 hI2 (show I (cv Mz).2 from by rw [hA]; exact hI)
        have a38 : cv M36 = ((A).1, (f_Yd_passSecond (A).2 ).2) := (cv_y w39 a38).trans (show (((cv Mz)).1, (f_Yd_passSecond ((cv Mz)).2 ).2) = _ from by first | rfl | simp only [hA, b1])
        have w39 : cf M M36 := cf_tr hf (cf_y w39)
        have b40 : yv 8 M36 = yv 8 M := cv_fr w39
        refine wgo (g' := (M36, 45, [some (.inr (2, 1)), some (.inr (3, 8)), some (.inl ((nI i) + 1))], [])) [oc (none, M36), oz 0, oz 0] rfl ⟨⟨s37, Nat.le_of_ble_eq_true rfl, Nat.le_of_ble_eq_true rfl, ⟨_, rfl⟩⟩, trivial, trivial, trivial⟩ ?_
        rw [nI_1 i]
        have x41 : f_tw2 (r + 1) A (yv 8 M) i = f_tw2 r (((A).1, (f_Yd_passSecond (A).2 ).2)) (yv 8 M) (i + 1) := by
          rw [f_tw2]
          rw [if_neg k18, if_neg k35]
        rw [x41]
        exact ih _ M36 (i + 1) a38 w39 (hI3 _ hI) hm hl (lim_lt hl hi k35) (by omega)
def f_tw1 : Nat → (mm_M × ya) → ya → Nat → Int32 × (mm_M × ya)
  | 0, A, _, _ => (0, A)
  | r + 1, A, B, i => (if ((A).1 0 5) ≤ (nI i) then (f_tw2 301 (A) B 0) else (f_tw1 r (((A).1, (f_Yd_hand (A).2 (ix ((A).1 2 i)) (ix ((A).1 3 i))).2)) B (i + 1)))
set_option maxRecDepth 20000 in
set_option maxHeartbeats 1000000 in
theorem lp_tw1 {d : Nat} {M : mm_M}    {n m : Nat} {I : ya → Prop} (hn3 : n ≤ 3) (hm4 : m ≤ 4) (hI0 : ∀ A, I A → ynn A n) (hI1 : ∀ A i, I A → i < n → yone A n i) (hI2 : ∀ A i, I A → i < n → I (f_tick A i)) (hI3 : ∀ A, I A → I (f_Yd_passSecond A).2){P : Nat → mm_M × ya → Prop} (hP2 : ∀ i A, P i A → i < m → P (i + 1) (A.1, (f_Yd_hand A.2 (ix (A.1 2 i)) (ix (A.1 3 i))).2)) (hP3 : ∀ A, P m A → I A.2 ∧ A.1 0 8 ≤ 300) (hP4 : ∀ i A, P i A → A.1 0 5 = nI m) (hP5 : ∀ i A, P i A → i < m → okx 8 (A.1 2 i) ∧ okx 3 (A.1 3 i) ∧ (¬ 8 ≤ cr A.2 (ix (A.1 3 i)) 10 → okx 8 (cr A.2 (ix (A.1 3 i)) 10))) : ∀ (r : Nat) (A : (mm_M × ya)) (Mz : mm_M) (i : Nat), cv Mz = A → cf M Mz → (P i A) → (i ≤ m) → (m < i + r) → mm_Wp pg_Pl_tryWay rt_Pl_tryWay (ct_Sem (d + 4)) (Mz, 10, [some (.inr (2, 1)), some (.inr (3, 8)), some (.inl (nI i))], []) (cQ M (none) (f_tw1 r A (yv 8 M) i).2) := by
  intro r
  induction r with
  | zero =>
    intro A Mz i hA hf hP hi hr
    exfalso; omega
  | succ r ih =>
    intro A Mz i hA hf hP hi hr
    have b1 : yv 8 Mz = yv 8 M := cv_fr hf
    refine wgo (g' := (Mz, 15, [some (.inr (2, 1)), some (.inr (3, 8)), some (.inl (nI i))], [.inl (Mz 1 5), .inl (nI i)])) [oz 0, oz 0, oz 0] rfl ⟨trivial, trivial, trivial, trivial⟩ ?_
    by_cases h2 : (Mz 1 5) ≤ (nI i)
    · have k3 : ((A).1 0 5) ≤ (nI i) := by
        have q : ((cv Mz).1 0 5) ≤ (nI i) := h2
        first | exact q | (simp only [hA, b1] at q; exact q)
      refine wgo (g' := (Mz, 45, [some (.inr (2, 1)), some (.inr (3, 8)), some (.inl 0)], [])) [oz 1, oz 0, oz 0] rfl ⟨h2, trivial, Nat.le_of_ble_eq_true rfl, trivial⟩ ?_
      have x4 : f_tw1 (r + 1) A (yv 8 M) i = f_tw2 301 (A) (yv 8 M) 0 := by
        rw [f_tw1]
        rw [if_pos k3]
      rw [x4]
      exact lp_tw2 (d := d)  (M := M)   hn3 hm4 hI0 hI1 hI2 hI3 301 _ Mz 0  hA hf (hP3 _ (tw_end hP (hP4 _ _ hP) k3 hi)).1 (hP4 _ _ hP) (hP3 _ (tw_end hP (hP4 _ _ hP) k3 hi)).2 (Nat.zero_le _) (by omega)
    · have k5 : ¬ (((A).1 0 5) ≤ (nI i)) := by
        have q : ¬ (((cv Mz).1 0 5) ≤ (nI i)) := h2
        first | exact q | (simp only [hA, b1] at q; exact q)
      refine wgo (g' := (Mz, 34, [some (.inr (2, 1)), some (.inr (3, 8)), some (.inl (nI i))], [.inl (Mz 4 i), .inl (Mz 3 i), .inr (3, 16)])) [oz 0, oz 0, oz 0, oz 0, oz 0, oz 0, oz i, oz 0, oz 0, oz 0, oz i] rfl ⟨h2, trivial, trivial, trivial, trivial, trivial, ⟨rfl, Nat.lt_of_lt_of_le (nI_sl (hP4 _ _ hP) (by omega) hi k5) hm4⟩, trivial, trivial, trivial, ⟨rfl, Nat.lt_of_lt_of_le (nI_sl (hP4 _ _ hP) (by omega) hi k5) hm4⟩, trivial⟩ ?_
      obtain ⟨M6, s7, a8, w9⟩ := ys_Yd_hand (d := d + 2) (b := 16) (M := Mz) (j := ix (Mz 3 i)) (c := ix (Mz 4 i)) (Or.inr rfl)  (show okx 8 (Mz 3 i) from (show okx 8 ((cv Mz).1 2 i) from by rw [hA]; exact (hP5 _ _ hP (nI_sl (hP4 _ _ hP) (by omega) hi k5)).1)).2 (show okx 3 (Mz 4 i) from (show okx 3 ((cv Mz).1 3 i) from by rw [hA]; exact (hP5 _ _ hP (nI_sl (hP4 _ _ hP) (by omega) hi k5)).2.1)).2 (show ¬ 8 ≤ cr (cv Mz).2 (ix ((cv Mz).1 3 i)) 10 → okx 8 (cr (cv Mz).2 (ix ((cv Mz).1 3 i)) 10) from by rw [hA]; exact (hP5 _ _ hP (nI_sl (hP4 _ _ hP) (by omega) hi k5)).2.2)
      rw [← ((show okx 8 (Mz 3 i) from (show okx 8 ((cv Mz).1 2 i) from by rw [hA]; exact (hP5 _ _ hP (nI_sl (hP4 _ _ hP) (by omega) hi k5)).1))).1] at s7
      rw [← ((show okx 3 (Mz 4 i) from (show okx 3 ((cv Mz).1 3 i) from by rw [hA]; exact (hP5 _ _ hP (nI_sl (hP4 _ _ hP) (by omega) hi k5)).2.1))).1] at s7
      have a8 : cv M6 = ((A).1, (f_Yd_hand (A).2 (ix ((A).1 2 i)) (ix ((A).1 3 i))).2) := (cv_y w9 a8).trans (show (((cv Mz)).1, (f_Yd_hand ((cv Mz)).2 (ix ((cv Mz).1 2 i)) (ix ((cv Mz).1 3 i))).2) = _ from by first | rfl | simp only [hA, b1])
      have w9 : cf M M6 := cf_tr hf (cf_y w9)
      have b10 : yv 8 M6 = yv 8 M := cv_fr w9
      refine wgo (g' := (M6, 10, [some (.inr (2, 1)), some (.inr (3, 8)), some (.inl ((nI i) + 1))], [])) [oc (none, M6), oz 0, oz 0] rfl ⟨⟨s7, Nat.le_of_ble_eq_true rfl, Nat.le_of_ble_eq_true rfl, ⟨_, rfl⟩⟩, trivial, trivial, trivial⟩ ?_
      rw [nI_1 i]
      have x11 : f_tw1 (r + 1) A (yv 8 M) i = f_tw1 r (((A).1, (f_Yd_hand (A).2 (ix ((A).1 2 i)) (ix ((A).1 3 i))).2)) (yv 8 M) (i + 1) := by
        rw [f_tw1]
        rw [if_neg k5]
      rw [x11]
      exact ih _ M6 (i + 1) a8 w9 (hP2 _ _ hP (nI_sl (hP4 _ _ hP) (by omega) hi k5)) (nI_sl (hP4 _ _ hP) (by omega) hi k5) (by omega)
def f_Pl_tryWay (A : (mm_M × ya)) (B : ya)  : Int32 × (mm_M × ya) := (f_tw1 5 (((A).1, (f_Yd_copyOf (A).2 B ).2)) B 0)
set_option maxRecDepth 20000 in
set_option maxHeartbeats 1000000 in
theorem cs_Pl_tryWay {d : Nat} {M : mm_M}   {n m j : Nat} {I : ya → Prop} (hn3 : n ≤ 3) (hm4 : m ≤ 4) (hI0 : ∀ A, I A → ynn A n) (hI1 : ∀ A i, I A → i < n → yone A n i) (hI2 : ∀ A i, I A → i < n → I (f_tick A i)) (hI3 : ∀ A, I A → I (f_Yd_passSecond A).2){P : Nat → mm_M × ya → Prop} (hP2 : ∀ i A, P i A → i < m → P (i + 1) (A.1, (f_Yd_hand A.2 (ix (A.1 2 i)) (ix (A.1 3 i))).2)) (hP3 : ∀ A, P m A → I A.2 ∧ A.1 0 8 ≤ 300) (hP4 : ∀ i A, P i A → A.1 0 5 = nI m) (hP5 : ∀ i A, P i A → i < m → okx 8 (A.1 2 i) ∧ okx 3 (A.1 3 i) ∧ (¬ 8 ≤ cr A.2 (ix (A.1 3 i)) 10 → okx 8 (cr A.2 (ix (A.1 3 i)) 10)))(hm8 : j ≤ 8) (hn : sc (yv 8 M) 0 = nI n) (hj : sc (yv 8 M) 6 = nI j) (hz : ∀ c, c < 3 → cr (yv 8 M) c 3 = 0 ∨ cr (yv 8 M) c 3 = 1) (hz8 : sc (yv 8 M) 8 = 0 ∨ sc (yv 8 M) 8 = 1) (hP : P 0 ((cv M).1, (f_Yd_copyOf (cv M).2 (yv 8 M)).2)) : CS (d + 5) 13  M [.inr (2, 1), .inr (3, 8)] (none) (f_Pl_tryWay (cv M) (yv 8 M) ).2 := by
  refine CS_of (Nat.le_of_ble_eq_true rfl) ?_
  show mm_Wp pg_Pl_tryWay rt_Pl_tryWay (ct_Sem (d + 4)) (M, 0, [some (.inr (2, 1)), some (.inr (3, 8)), none], []) _
  refine wgo (g' := (M, 5, [some (.inr (2, 1)), some (.inr (3, 8)), none], [.inr (3, 8), .inr (3, 16)])) [oz 0, oz 0, oz 0] rfl ⟨trivial, trivial, trivial, trivial⟩ ?_
  obtain ⟨M1, s2, a3, w4⟩ := ys_Yd_copyOf (d := d + 1) (b := 16) (M := M)  (Or.inr rfl) (e := 8) (Or.inl rfl) (by decide) hn3 hm8 hn hj hz hz8
  have a3 : cv M1 = (((cv M)).1, (f_Yd_copyOf ((cv M)).2 (yv 8 M) ).2) := (cv_y w4 a3).trans (show (((cv M)).1, (f_Yd_copyOf ((cv M)).2 (yv 8 M) ).2) = _ from by first | rfl | simp only [cv])
  have w4 : cf M M1 := cf_tr cf_rf (cf_y w4)
  have b5 : yv 8 M1 = yv 8 M := cv_fr w4
  refine wgo (g' := (M1, 10, [some (.inr (2, 1)), some (.inr (3, 8)), some (.inl 0)], [])) [oc (none, M1), oz 0, oz 0] rfl ⟨⟨s2, Nat.le_of_ble_eq_true rfl, Nat.le_of_ble_eq_true rfl, ⟨_, rfl⟩⟩, trivial, Nat.le_of_ble_eq_true rfl, trivial⟩ ?_
  have x6 : f_Pl_tryWay (cv M) (yv 8 M) = f_tw1 5 ((((cv M)).1, (f_Yd_copyOf ((cv M)).2 (yv 8 M) ).2)) (yv 8 M) 0 := by
    unfold f_Pl_tryWay
    rfl
  rw [x6]
  exact lp_tw1 (d := d)  (M := M)   hn3 hm4 hI0 hI1 hI2 hI3 hP2 hP3 hP4 hP5 5 _ M1 0  a3 w4 hP (Nat.zero_le _) (by omega)
