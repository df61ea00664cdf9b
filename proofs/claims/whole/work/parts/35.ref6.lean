theorem dv10 {x : Int32} (h : okx 80 x) : x / 10 = nI (ix x / 10) := by
  have e := h.1
  rw [e, show (10 : Int32) = nI 10 from rfl, pk_div (by have := h.2; omega) (by decide) (by decide), ix_nI (by have := h.2; omega)]
theorem rm10 {x : Int32} (h : okx 80 x) : x - x / 10 * 10 = nI (ix x % 10) := by
  have e := h.1
  rw [e, show (10 : Int32) = nI 10 from rfl, pk_rem (by have := h.2; omega) (by decide) (by decide), ix_nI (by have := h.2; omega)]
theorem nI_sr {x y : Int32} {n i : Nat} (hx : x = nI n) (hn : n ≤ 3) (hy : y = nI (i % 10)) (h : ¬ x ≤ y) : i % 10 < n := by
  subst hx hy
  rcases Nat.lt_or_ge (i % 10) n with q | q
  · exact q
  · exact absurd (nI_le q (by omega)) h
def f_Mo_may (A : mm_M) (k : Nat) : Int32 := (if ((A) 0 1) ≤ (((A) 5 k) - ((A) 5 k) / 10 * 10) then 0 else (if (f_Mo_ofJob (A) (ix ((A) 5 k) / 10) 3) = 0 then (if (f_Mo_isInWay (A) k) = 0 then (if (f_Mo_reaches (A) (ix ((A) 5 k) % 10) (ix ((A) 5 k) / 10)) = 0 then 0 else 1) else 0) else 0))
set_option maxRecDepth 20000 in
set_option maxHeartbeats 1000000 in
theorem sm_Mo_may {d : Nat} {M : mm_M} {k : Nat} {n : Nat} (hk : k < 5) (hw : okx 80 (rv M 5 k)) (hn : rnn (rv M) n) : ct_Sem (d + 3) 67 M [.inr (5, 24), .inl (nI k)] (some (f_Mo_may (rv M) k), M) := by
  refine SM_of (Nat.le_of_ble_eq_true rfl) ?_
  show mm_Wp pg_Mo_may rt_Mo_may (ct_Sem (d + 2)) (M, 0, [some (.inr (5, 24)), some (.inl (nI k)), none, none], []) _
  refine wgo (g' := (M, 25, [some (.inr (5, 24)), some (.inl (nI k)), some (.inl ((M 29 k) / 10)), some (.inl ((M 29 k) - (M 29 k) / 10 * 10))], [.inl (M 24 1), .inl ((M 29 k) - (M 29 k) / 10 * 10)])) [oz 0, oz 0, oz 0, oz k, oz 0, oz 0, oz 0, oz 0, oz 0, oz 0, oz k, oz 0, oz 0, oz 0, oz 0, oz 0, oz 0] rfl ⟨trivial, trivial, trivial, ⟨rfl, (show k < 5 from by omega)⟩, trivial, (by decide), Nat.le_of_ble_eq_true rfl, trivial, trivial, trivial, ⟨rfl, (show k < 5 from by omega)⟩, trivial, (by decide), Nat.le_of_ble_eq_true rfl, trivial, trivial, trivial, trivial⟩ ?_
  by_cases h1 : (M 24 1) ≤ ((M 29 k) - (M 29 k) / 10 * 10)
  · have k2 : (((rv M)) 0 1) ≤ ((((rv M)) 5 k) - (((rv M)) 5 k) / 10 * 10) := by
      have q : ((rv M) 0 1) ≤ (((rv M) 5 k) - ((rv M) 5 k) / 10 * 10) := h1
      exact q
    refine wgo (g' := (M, 59, [some (.inr (5, 24)), some (.inl (nI k)), some (.inl ((M 29 k) / 10)), some (.inl ((M 29 k) - (M 29 k) / 10 * 10))], [.inl 0])) [oz 1, oz 0] rfl ⟨h1, trivial, trivial⟩ ?_
    have x3 : f_Mo_may (rv M) k = 0 := by
      unfold f_Mo_may
      rw [if_pos k2]
    exact wend ⟨_, rfl, rfl, Or.inl rfl⟩ (congrArg (fun q => (some q, M)) x3.symm)
  · have k4 : ¬ ((((rv M)) 0 1) ≤ ((((rv M)) 5 k) - (((rv M)) 5 k) / 10 * 10)) := by
      have q : ¬ (((rv M) 0 1) ≤ (((rv M) 5 k) - ((rv M) 5 k) / 10 * 10)) := h1
      exact q
    refine wgo (g' := (M, 31, [some (.inr (5, 24)), some (.inl (nI k)), some (.inl ((M 29 k) / 10)), some (.inl ((M 29 k) - (M 29 k) / 10 * 10))], [.inl 3, .inl ((M 29 k) / 10), .inr (5, 24)])) [oz 0, oz 0, oz 0, oz 0] rfl ⟨h1, trivial, trivial, trivial, trivial⟩ ?_
    have s5 := sm_Mo_ofJob (d := d + 1)  (M := M) (j := ix (M 29 k) / 10) (w := 3) (by have q : ix (M 29 k) < 80 := hw.2; omega)
    rw [← (dv10 (show okx 80 (M 29 k) from hw))] at s5
    refine wgo (g' := (M, 34, [some (.inr (5, 24)), some (.inl (nI k)), some (.inl ((M 29 k) / 10)), some (.inl ((M 29 k) - (M 29 k) / 10 * 10))], [.inl (f_Mo_ofJob (rv M) (ix (M 29 k) / 10) 3)])) [oc (some (f_Mo_ofJob (rv M) (ix (M 29 k) / 10) 3), M)] rfl ⟨⟨s5, Nat.le_of_ble_eq_true rfl, Nat.le_of_ble_eq_true rfl, ⟨_, rfl⟩⟩, trivial⟩ ?_
    by_cases h6 : (f_Mo_ofJob (rv M) (ix (M 29 k) / 10) 3) = 0
    · have k7 : (f_Mo_ofJob ((rv M)) (ix (((rv M)) 5 k) / 10) 3) = 0 := by
        have q : (f_Mo_ofJob (rv M) (ix ((rv M) 5 k) / 10) 3) = 0 := h6
        exact q
      refine wgo (g' := (M, 39, [some (.inr (5, 24)), some (.inl (nI k)), some (.inl ((M 29 k) / 10)), some (.inl ((M 29 k) - (M 29 k) / 10 * 10))], [.inl (nI k), .inr (5, 24)])) [oz 0, oz 0, oz 0] rfl ⟨(fun z => z h6), trivial, trivial, trivial⟩ ?_
      have s8 := sm_Mo_isInWay (d := d + 1)  (M := M) (k := k) hk
      refine wgo (g' := (M, 42, [some (.inr (5, 24)), some (.inl (nI k)), some (.inl ((M 29 k) / 10)), some (.inl ((M 29 k) - (M 29 k) / 10 * 10))], [.inl (f_Mo_isInWay (rv M) k)])) [oc (some (f_Mo_isInWay (rv M) k), M)] rfl ⟨⟨s8, Nat.le_of_ble_eq_true rfl, Nat.le_of_ble_eq_true rfl, ⟨_, rfl⟩⟩, trivial⟩ ?_
      by_cases h9 : (f_Mo_isInWay (rv M) k) = 0
      · have k10 : (f_Mo_isInWay ((rv M)) k) = 0 := by
          have q : (f_Mo_isInWay (rv M) k) = 0 := h9
          exact q
        refine wgo (g' := (M, 48, [some (.inr (5, 24)), some (.inl (nI k)), some (.inl ((M 29 k) / 10)), some (.inl ((M 29 k) - (M 29 k) / 10 * 10))], [.inl ((M 29 k) / 10), .inl ((M 29 k) - (M 29 k) / 10 * 10), .inr (5, 24)])) [oz 0, oz 0, oz 0, oz 0] rfl ⟨(fun z => z h9), trivial, trivial, trivial, trivial⟩ ?_
        have s11 := sm_Mo_reaches (d := d)  (M := M) (c := ix (M 29 k) % 10) (j := ix (M 29 k) / 10) (Nat.lt_of_lt_of_le (nI_sr hn.1 hn.2 (rm10 hw) k4) hn.2) (by have q : ix (M 29 k) < 80 := hw.2; omega)
        rw [← (rm10 (show okx 80 (M 29 k) from hw))] at s11
        rw [← (dv10 (show okx 80 (M 29 k) from hw))] at s11
        refine wgo (g' := (M, 51, [some (.inr (5, 24)), some (.inl (nI k)), some (.inl ((M 29 k) / 10)), some (.inl ((M 29 k) - (M 29 k) / 10 * 10))], [.inl (f_Mo_reaches (rv M) (ix (M 29 k) % 10) (ix (M 29 k) / 10))])) [oc (some (f_Mo_reaches (rv M) (ix (M 29 k) % 10) (ix (M 29 k) / 10)), M)] rfl ⟨⟨s11, Nat.le_of_ble_eq_true rfl, Nat.le_of_ble_eq_true rfl, ⟨_, rfl⟩⟩, trivial⟩ ?_
        by_cases h12 : (f_Mo_reaches (rv M) (ix (M 29 k) % 10) (ix (M 29 k) / 10)) = 0
        · have k13 : (f_Mo_reaches ((rv M)) (ix (((rv M)) 5 k) % 10) (ix (((rv M)) 5 k) / 10)) = 0 := by
            have q : (f_Mo_reaches (rv M) (ix ((rv M) 5 k) % 10) (ix ((rv M) 5 k) / 10)) = 0 := h12
            exact q
          refine wgo (g' := (M, 59, [some (.inr (5, 24)), some (.inl (nI k)), some (.inl ((M 29 k) / 10)), some (.inl ((M 29 k) - (M 29 k) / 10 * 10))], [.inl 0])) [oz 1, oz 0] rfl ⟨h12, trivial, trivial⟩ ?_
          have x14 : f_Mo_may (rv M) k = 0 := by
            unfold f_Mo_may
            rw [if_neg k4, if_pos k7, if_pos k10, if_pos k13]
          exact wend ⟨_, rfl, rfl, Or.inl rfl⟩ (congrArg (fun q => (some q, M)) x14.symm)
        · have k15 : ¬ ((f_Mo_reaches ((rv M)) (ix (((rv M)) 5 k) % 10) (ix (((rv M)) 5 k) / 10)) = 0) := by
            have q : ¬ ((f_Mo_reaches (rv M) (ix ((rv M) 5 k) % 10) (ix ((rv M) 5 k) / 10)) = 0) := h12
            exact q
          refine wgo (g' := (M, 59, [some (.inr (5, 24)), some (.inl (nI k)), some (.inl ((M 29 k) / 10)), some (.inl ((M 29 k) - (M 29 k) / 10 * 10))], [.inl 1])) [oz 0, oz 0, oz 0] rfl ⟨h12, trivial, trivial, trivial⟩ ?_
          have x16 : f_Mo_may (rv M) k = 1 := by
            unfold f_Mo_may
            rw [if_neg k4, if_pos k7, if_pos k10, if_neg k15]
          exact wend ⟨_, rfl, rfl, Or.inr rfl⟩ (congrArg (fun q => (some q, M)) x16.symm)
      · have k17 : ¬ ((f_Mo_isInWay ((rv M)) k) = 0) := by
          have q : ¬ ((f_Mo_isInWay (rv M) k) = 0) := h9
          exact q
        refine wgo (g' := (M, 59, [some (.inr (5, 24)), some (.inl (nI k)), some (.inl ((M 29 k) / 10)), some (.inl ((M 29 k) - (M 29 k) / 10 * 10))], [.inl 0])) [oz 1, oz 0] rfl ⟨h9, trivial, trivial⟩ ?_
        have x18 : f_Mo_may (rv M) k = 0 := by
          unfold f_Mo_may
          rw [if_neg k4, if_pos k7, if_neg k17]
        exact wend ⟨_, rfl, rfl, Or.inl rfl⟩ (congrArg (fun q => (some q, M)) x18.symm)
    · have k19 : ¬ ((f_Mo_ofJob ((rv M)) (ix (((rv M)) 5 k) / 10) 3) = 0) := by
        have q : ¬ ((f_Mo_ofJob (rv M) (ix ((rv M) 5 k) / 10) 3) = 0) := h6
        exact q
      refine wgo (g' := (M, 59, [some (.inr (5, 24)), some (.inl (nI k)), some (.inl ((M 29 k) / 10)), some (.inl ((M 29 k) - (M 29 k) / 10 * 10))], [.inl 0])) [oz 1, oz 0] rfl ⟨h6, trivial, trivial⟩ ?_
      have x20 : f_Mo_may (rv M) k = 0 := by
        unfold f_Mo_may
        rw [if_neg k4, if_neg k19]
      exact wend ⟨_, rfl, rfl, Or.inl rfl⟩ (congrArg (fun q => (some q, M)) x20.symm)
def f_so4 : Nat → mm_M → Int32 → Int32 → Int32 → Int32 → Nat → Int32 × mm_M
  | 0, A, _, _, _, _, _ => (0, A)
  | r + 1, A, m, t, x, y, i => (if 110 ≤ (nI i) then (if y = 0 then ((-1), A) else (x, A)) else (f_so4 r (mm_up (A) 3 i ((A) 4 i)) m t x y (i + 1)))
set_option maxRecDepth 20000 in
set_option maxHeartbeats 1000000 in
theorem lp_so4 {d : Nat} {M : mm_M} {m : Int32} {t : Int32} {x : Int32} {y : Int32}    : ∀ (r : Nat) (A : mm_M) (Mz : mm_M) (i : Nat), rv Mz = A → rf M Mz → (i ≤ 110) → (110 < i + r) → mm_Wp pg_Mo_secondsOf rt_Mo_secondsOf (ct_Sem (d + 0)) (Mz, 94, [some (.inr (5, 24)), some (.inl m), some (.inl t), some (.inl x), some (.inl y), some (.inl (nI i))], []) (rQ M (some (f_so4 r A m t x y i).1) (f_so4 r A m t x y i).2) := by
  intro r
  induction r with
  | zero =>
    intro A Mz i hA hf hi hr
    exfalso; omega
  | succ r ih =>
    intro A Mz i hA hf hi hr
    refine wgo (g' := (Mz, 98, [some (.inr (5, 24)), some (.inl m), some (.inl t), some (.inl x), some (.inl y), some (.inl (nI i))], [.inl 110, .inl (nI i)])) [oz 0, oz 0] rfl ⟨trivial, trivial, trivial⟩ ?_
    by_cases h1 : 110 ≤ (nI i)
    · have k2 : 110 ≤ (nI i) := by
        have q : 110 ≤ (nI i) := h1
        first | exact q | (simp only [hA] at q; exact q)
      refine wgo (g' := (Mz, 123, [some (.inr (5, 24)), some (.inl m), some (.inl t), some (.inl x), some (.inl y), some (.inl (nI i))], [.inl y])) [oz 1, oz 0] rfl ⟨h1, trivial, trivial⟩ ?_
      by_cases h3 : y = 0
      · have k4 : y = 0 := by
          have q : y = 0 := h3
          first | exact q | (simp only [hA] at q; exact q)
        refine wgo (g' := (Mz, 131, [some (.inr (5, 24)), some (.inl m), some (.inl t), some (.inl x), some (.inl y), some (.inl (nI i))], [.inl ((-1))])) [oz 1, oz 0] rfl ⟨h3, trivial, trivial⟩ ?_
        have x5 : f_so4 (r + 1) A m t x y i = ((-1), A) := by
          rw [f_so4]
          rw [if_pos k2, if_pos k4]
        exact wend ⟨_, rfl, rfl⟩ ⟨congrArg some ((show ((-1) : Int32) = (-1) from by first | rfl | simp only [hA]).trans (congrArg Prod.fst x5).symm), hA.trans (congrArg Prod.snd x5).symm, hf⟩
      · have k6 : ¬ (y = 0) := by
          have q : ¬ (y = 0) := h3
          first | exact q | (simp only [hA] at q; exact q)
        refine wgo (g' := (Mz, 131, [some (.inr (5, 24)), some (.inl m), some (.inl t), some (.inl x), some (.inl y), some (.inl (nI i))], [.inl x])) [oz 0, oz 0, oz 0] rfl ⟨h3, trivial, trivial, trivial⟩ ?_
        have x7 : f_so4 (r + 1) A m t x y i = (x, A) := by
          rw [f_so4]
          rw [if_pos k2, if_neg k6]
        exact wend ⟨_, rfl, rfl⟩ ⟨congrArg some ((show (x : Int32) = x from by first | rfl | simp only [hA]).trans (congrArg Prod.fst x7).symm), hA.trans (congrArg Prod.snd x7).symm, hf⟩
    · have k8 : ¬ (110 ≤ (nI i)) := by
        have q : ¬ (110 ≤ (nI i)) := h1
        first | exact q | (simp only [hA] at q; exact q)
      refine wgo (g' := (mm_up Mz 27 i (Mz 28 i), 115, [some (.inr (5, 24)), some (.inl m), some (.inl t), some (.inl x), some (.inl y), some (.inl (nI i))], [])) [oz 0, oz 0, oz 0, oz 0, oz 0, oz 0, oz 0, oz i, oz i] rfl ⟨h1, trivial, trivial, trivial, trivial, trivial, trivial, ⟨rfl, nI_sl (n := 110) rfl (by decide) hi k8⟩, ⟨rfl, nI_sl (n := 110) rfl (by decide) hi k8⟩, trivial⟩ ?_
      generalize e10 : mm_up Mz 27 i (Mz 28 i) = M9
      have a11 : rv M9 = mm_up (A) 3 i ((A) 4 i) := by
        rw [← e10]
        refine (rv_up 3).trans ?_
        show mm_up ((rv Mz)) 3 i ((rv Mz) 4 i) = _
        first | rfl | simp only [hA]
      have w12 : rf M M9 := by rw [← e10]; exact rf_up hf (by decide)
      refine wgo (g' := (M9, 94, [some (.inr (5, 24)), some (.inl m), some (.inl t), some (.inl x), some (.inl y), some (.inl ((nI i) + 1))], [])) [oz 0, oz 0] rfl ⟨trivial, trivial, trivial⟩ ?_
      rw [nI_1 i]
      have x13 : f_so4 (r + 1) A m t x y i = f_so4 r (mm_up (A) 3 i ((A) 4 i)) m t x y (i + 1) := by
        rw [f_so4]
        rw [if_neg k8]
      rw [x13]
      exact ih _ M9 (i + 1) a11 w12 (nI_sl (n := 110) rfl (by decide) hi k8) (by omega)
def f_so3 : Nat → mm_M → Int32 → Nat → Nat → Int32 × mm_M
  | 0, A, _, _, _ => (0, A)
  | r + 1, A, m, t, i => (if (nI t) ≤ (nI i) then (f_so4 111 (A) m (nI t) (nI i) (f_Mo_isAllDone (A) ) 0) else (if (f_Mo_isAllDone (A) ) = 0 then (f_so3 r ((f_Mo_secondOfAll (A) ).2) m t (i + 1)) else (f_so4 111 (A) m (nI t) (nI i) (f_Mo_isAllDone (A) ) 0)))
set_option maxRecDepth 20000 in
set_option maxHeartbeats 1000000 in
theorem lp_so3 {d : Nat} {M : mm_M} {m : Int32} {t : Nat}   {n : Nat} {I : mm_M → Prop} {j : Nat} (hn3 : n ≤ 3) (hI0 : ∀ X, I X → X 0 1 = nI n) (hI1 : ∀ X i, I X → i < n → rone X n i) (hI2 : ∀ X i, I X → i < n → I (f_Mo_second X i).2) (hI3 : ∀ X, I X → I (f_Mo_secondOfAll X).2) (hI4 : ∀ X, I X → X 0 5 = nI j) (hj8 : j ≤ 8) : ∀ (r : Nat) (A : mm_M) (Mz : mm_M) (i : Nat), rv Mz = A → rf M Mz → (I A) → (i ≤ t) → (t ≤ 300) → (t < i + r) → mm_Wp pg_Mo_secondsOf rt_Mo_secondsOf (ct_Sem (d + 5)) (Mz, 63, [some (.inr (5, 24)), some (.inl m), some (.inl (nI t)), some (.inl (nI i)), none, none], []) (rQ M (some (f_so3 r A m t i).1) (f_so3 r A m t i).2) := by
  intro r
  induction r with
  | zero =>
    intro A Mz i hA hf hI hi ht hr
    exfalso; omega
  | succ r ih =>
    intro A Mz i hA hf hI hi ht hr
    refine wgo (g' := (Mz, 65, [some (.inr (5, 24)), some (.inl m), some (.inl (nI t)), some (.inl (nI i)), none, none], [.inl (nI t), .inl (nI i)])) [oz 0, oz 0] rfl ⟨trivial, trivial, trivial⟩ ?_
    by_cases h1 : (nI t) ≤ (nI i)
    · have k2 : (nI t) ≤ (nI i) := by
        have q : (nI t) ≤ (nI i) := h1
        first | exact q | (simp only [hA] at q; exact q)
      refine wgo (g' := (Mz, 86, [some (.inr (5, 24)), some (.inl m), some (.inl (nI t)), some (.inl (nI i)), none, none], [.inr (5, 24)])) [oz 1, oz 0] rfl ⟨h1, trivial, trivial⟩ ?_
      have s3 := sm_Mo_isAllDone (d := d + 3)  (M := Mz)  (by rw [hA]; exact hI4 _ hI) hj8
      refine wgo (g' := (Mz, 94, [some (.inr (5, 24)), some (.inl m), some (.inl (nI t)), some (.inl (nI i)), some (.inl (f_Mo_isAllDone (rv Mz) )), some (.inl 0)], [])) [oc (some (f_Mo_isAllDone (rv Mz) ), Mz), oz 0, oz 0, oz 0] rfl ⟨⟨s3, Nat.le_of_ble_eq_true rfl, Nat.le_of_ble_eq_true rfl, ⟨_, rfl⟩⟩, Nat.le_of_ble_eq_true rfl, trivial, Nat.le_of_ble_eq_true rfl, trivial⟩ ?_
      have x4 : f_so3 (r + 1) A m t i = f_so4 111 (A) m (nI t) (nI i) (f_Mo_isAllDone (A) ) 0 := by
        rw [f_so3]
        rw [if_pos k2]
      rw [x4]
      have q5 := lp_so4 (d := d + 5)  (M := M) (m := m) (t := nI t) (x := nI i) (y := f_Mo_isAllDone (rv Mz) )   111 _ Mz 0  hA hf (Nat.zero_le _) (by omega)
      have z6 : f_so4 111 (A) m (nI t) (nI i) (f_Mo_isAllDone (rv Mz) ) 0 = f_so4 111 (A) m (nI t) (nI i) (f_Mo_isAllDone (A) ) 0 := by simp only [hA]
      rw [z6] at q5
      exact q5
    · have k7 : ¬ ((nI t) ≤ (nI i)) := by
        have q : ¬ ((nI t) ≤ (nI i)) := h1
        first | exact q | (simp only [hA] at q; exact q)
      refine wgo (g' := (Mz, 69, [some (.inr (5, 24)), some (.inl m), some (.inl (nI t)), some (.inl (nI i)), none, none], [.inr (5, 24)])) [oz 0, oz 0] rfl ⟨h1, trivial, trivial⟩ ?_
      have s8 := sm_Mo_isAllDone (d := d + 3)  (M := Mz)  (by rw [hA]; exact hI4 _ hI) hj8
      refine wgo (g' := (Mz, 72, [some (.inr (5, 24)), some (.inl m), some (.inl (nI t)), some (.inl (nI i)), none, none], [.inl (f_Mo_isAllDone (rv Mz) )])) [oc (some (f_Mo_isAllDone (rv Mz) ), Mz)] rfl ⟨⟨s8, Nat.le_of_ble_eq_true rfl, Nat.le_of_ble_eq_true rfl, ⟨_, rfl⟩⟩, trivial⟩ ?_
      by_cases h9 : (f_Mo_isAllDone (rv Mz) ) = 0
      · have k10 : (f_Mo_isAllDone (A) ) = 0 := by
          have q : (f_Mo_isAllDone (rv Mz) ) = 0 := h9
          first | exact q | (simp only [hA] at q; exact q)
        refine wgo (g' := (Mz, 76, [some (.inr (5, 24)), some (.inl m), some (.inl (nI t)), some (.inl (nI i)), none, none], [.inr (5, 24)])) [oz 0, oz 0] rfl ⟨(fun z => z h9), trivial, trivial⟩ ?_
        obtain ⟨M11, s12, a13, w14⟩ := rs_Mo_secondOfAll (d := d)  (M := Mz)   hn3 hI0 hI1 hI2 (by rw [hA]; exact hI)
        have a13 : rv M11 = (f_Mo_secondOfAll (A) ).2 := a13.trans (show (f_Mo_secondOfAll ((rv Mz)) ).2 = _ from by first | rfl | simp only [hA])
        have w14 : rf M M11 := rf_tr hf w14
        refine wgo (g' := (M11, 63, [some (.inr (5, 24)), some (.inl m), some (.inl (nI t)), some (.inl ((nI i) + 1)), none, none], [])) [oc (none, M11), oz 0, oz 0] rfl ⟨⟨s12, Nat.le_of_ble_eq_true rfl, Nat.le_of_ble_eq_true rfl, ⟨_, rfl⟩⟩, trivial, trivial, trivial⟩ ?_
        rw [nI_1 i]
        have x15 : f_so3 (r + 1) A m t i = f_so3 r ((f_Mo_secondOfAll (A) ).2) m t (i + 1) := by
          rw [f_so3]
          rw [if_neg k7, if_pos k10]
        rw [x15]
        exact ih _ M11 (i + 1) a13 w14 (hI3 _ hI) (nI_sl rfl (by omega) hi k7) ht (by omega)
      · have k16 : ¬ ((f_Mo_isAllDone (A) ) = 0) := by
          have q : ¬ ((f_Mo_isAllDone (rv Mz) ) = 0) := h9
          first | exact q | (simp only [hA] at q; exact q)
        refine wgo (g' := (Mz, 86, [some (.inr (5, 24)), some (.inl m), some (.inl (nI t)), some (.inl (nI i)), none, none], [.inr (5, 24)])) [oz 1, oz 0] rfl ⟨h9, trivial, trivial⟩ ?_
        have s17 := sm_Mo_isAllDone (d := d + 3)  (M := Mz)  (by rw [hA]; exact hI4 _ hI) hj8
        refine wgo (g' := (Mz, 94, [some (.inr (5, 24)), some (.inl m), some (.inl (nI t)), some (.inl (nI i)), some (.inl (f_Mo_isAllDone (rv Mz) )), some (.inl 0)], [])) [oc (some (f_Mo_isAllDone (rv Mz) ), Mz), oz 0, oz 0, oz 0] rfl ⟨⟨s17, Nat.le_of_ble_eq_true rfl, Nat.le_of_ble_eq_true rfl, ⟨_, rfl⟩⟩, Nat.le_of_ble_eq_true rfl, trivial, Nat.le_of_ble_eq_true rfl, trivial⟩ ?_
        have x18 : f_so3 (r + 1) A m t i = f_so4 111 (A) m (nI t) (nI i) (f_Mo_isAllDone (A) ) 0 := by
          rw [f_so3]
          rw [if_neg k7, if_neg k16]
        rw [x18]
        have q19 := lp_so4 (d := d + 5)  (M := M) (m := m) (t := nI t) (x := nI i) (y := f_Mo_isAllDone (rv Mz) )   111 _ Mz 0  hA hf (Nat.zero_le _) (by omega)
        have z20 : f_so4 111 (A) m (nI t) (nI i) (f_Mo_isAllDone (rv Mz) ) 0 = f_so4 111 (A) m (nI t) (nI i) (f_Mo_isAllDone (A) ) 0 := by simp only [hA]
        rw [z20] at q19
        exact q19
