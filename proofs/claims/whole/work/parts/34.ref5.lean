/-- what the reference's second of crane c needs -/
def rone (X : mm_M) (n c : Nat) : Prop := (∃ m, m ≤ 8 ∧ X 0 5 = nI m) ∧ (0 ≤ f_Mo_ofCrane X c 2 → rtwo X n c) ∧ rtwo (f_Mo_takesJob X c).2 n c
def f_ra2 : Nat → mm_M → Nat → Int32 × mm_M
  | 0, A, _ => (0, A)
  | r + 1, A, i => (if ((A) 0 1) ≤ (nI i) then (0, A) else (if ((A) 3 1) ≤ ((f_Mo_ofCrane (A) i 0) - (f_Mo_ofCrane (A) (i - 1) 0)) then (f_ra2 r (mm_up (A) 3 1 ((A) 3 1)) (i + 1)) else (f_ra2 r (mm_up (A) 3 1 ((f_Mo_ofCrane (A) i 0) - (f_Mo_ofCrane (A) (i - 1) 0))) (i + 1))))
set_option maxRecDepth 20000 in
set_option maxHeartbeats 1000000 in
theorem lp_ra2 {d : Nat} {M : mm_M}    {n : Nat} (hn3 : n ≤ 3) : ∀ (r : Nat) (A : mm_M) (Mz : mm_M) (i : Nat) (o2 : Option mm_V), rv Mz = A → rf M Mz → (A 0 1 = nI n) → (1 ≤ i) → (i ≤ n ∨ i = 1) → (n + 1 < i + r) → mm_Wp pg_Mo_secondOfAll rt_Mo_secondOfAll (ct_Sem (d + 1)) (Mz, 33, [some (.inr (5, 24)), some (.inl (nI i)), o2], []) (rQ M (none) (f_ra2 r A i).2) := by
  intro r
  induction r with
  | zero =>
    intro A Mz i o2 hA hf hn h1i hi hr
    exfalso; omega
  | succ r ih =>
    intro A Mz i o2 hA hf hn h1i hi hr
    refine wgo (g' := (Mz, 38, [some (.inr (5, 24)), some (.inl (nI i)), o2], [.inl (Mz 24 1), .inl (nI i)])) [oz 0, oz 0, oz 0] rfl ⟨trivial, trivial, trivial, trivial⟩ ?_
    by_cases h1 : (Mz 24 1) ≤ (nI i)
    · have k2 : ((A) 0 1) ≤ (nI i) := by
        have q : ((rv Mz) 0 1) ≤ (nI i) := h1
        first | exact q | (simp only [hA] at q; exact q)
      refine wgo (g' := (Mz, 89, [some (.inr (5, 24)), some (.inl (nI i)), o2], [])) [oz 1] rfl ⟨h1, trivial⟩ ?_
      have x3 : f_ra2 (r + 1) A i = (0, A) := by
        rw [f_ra2]
        rw [if_pos k2]
      exact wend ⟨rfl, rfl⟩ ⟨rfl, hA.trans (congrArg Prod.snd x3).symm, hf⟩
    · have k4 : ¬ (((A) 0 1) ≤ (nI i)) := by
        have q : ¬ (((rv Mz) 0 1) ≤ (nI i)) := h1
        first | exact q | (simp only [hA] at q; exact q)
      refine wgo (g' := (Mz, 44, [some (.inr (5, 24)), some (.inl (nI i)), o2], [.inl 0, .inl (nI i), .inr (5, 24)])) [oz 0, oz 0, oz 0, oz 0] rfl ⟨h1, trivial, trivial, trivial, trivial⟩ ?_
      have s5 := sm_Mo_ofCrane (d := d)  (M := Mz) (c := i) (w := 0) (by have q := (nI_sm hn hn3 hi k4); omega)
      refine wgo (g' := (Mz, 52, [some (.inr (5, 24)), some (.inl (nI i)), o2], [.inl 0, .inl ((nI i) - 1), .inr (5, 24), .inl (f_Mo_ofCrane (rv Mz) i 0)])) [oc (some (f_Mo_ofCrane (rv Mz) i 0), Mz), oz 0, oz 0, oz 0, oz 0, oz 0] rfl ⟨⟨s5, Nat.le_of_ble_eq_true rfl, Nat.le_of_ble_eq_true rfl, ⟨_, rfl⟩⟩, trivial, trivial, trivial, trivial, trivial, trivial⟩ ?_
      have s6 := sm_Mo_ofCrane (d := d)  (M := Mz) (c := i - 1) (w := 0) (by have q := (nI_sm hn hn3 hi k4); omega)
      rw [← (nI_m1 (by omega : 0 < i))] at s6
      refine wgo (g' := (Mz, 69, [some (.inr (5, 24)), some (.inl (nI i)), some (.inl ((f_Mo_ofCrane (rv Mz) i 0) - (f_Mo_ofCrane (rv Mz) (i - 1) 0)))], [.inl (Mz 27 1), .inl ((f_Mo_ofCrane (rv Mz) i 0) - (f_Mo_ofCrane (rv Mz) (i - 1) 0)), .inl 1, .inr (13, 27)])) [oc (some (f_Mo_ofCrane (rv Mz) (i - 1) 0), Mz), oz 0, oz 0, oz 0, oz 0, oz 0, oz 0, oz 0, oz 0, oz 0, oz 1] rfl ⟨⟨s6, Nat.le_of_ble_eq_true rfl, Nat.le_of_ble_eq_true rfl, ⟨_, rfl⟩⟩, trivial, Nat.le_of_ble_eq_true rfl, trivial, trivial, trivial, trivial, trivial, trivial, trivial, ⟨rfl, by decide⟩, trivial⟩ ?_
      by_cases h7 : (Mz 27 1) ≤ ((f_Mo_ofCrane (rv Mz) i 0) - (f_Mo_ofCrane (rv Mz) (i - 1) 0))
      · have k8 : ((A) 3 1) ≤ ((f_Mo_ofCrane (A) i 0) - (f_Mo_ofCrane (A) (i - 1) 0)) := by
          have q : ((rv Mz) 3 1) ≤ ((f_Mo_ofCrane (rv Mz) i 0) - (f_Mo_ofCrane (rv Mz) (i - 1) 0)) := h7
          first | exact q | (simp only [hA] at q; exact q)
        refine wgo (g' := (mm_up Mz 27 1 (Mz 27 1), 83, [some (.inr (5, 24)), some (.inl (nI i)), some (.inl ((f_Mo_ofCrane (rv Mz) i 0) - (f_Mo_ofCrane (rv Mz) (i - 1) 0)))], [])) [oz 1, oz 0, oz 0, oz 0, oz 1, oz 1] rfl ⟨h7, trivial, trivial, trivial, ⟨rfl, by decide⟩, ⟨rfl, by decide⟩, trivial⟩ ?_
        generalize e10 : mm_up Mz 27 1 (Mz 27 1) = M9
        have a11 : rv M9 = mm_up (A) 3 1 ((A) 3 1) := by
          rw [← e10]
          refine (rv_up 3).trans ?_
          show mm_up ((rv Mz)) 3 1 ((rv Mz) 3 1) = _
          first | rfl | simp only [hA]
        have w12 : rf M M9 := by rw [← e10]; exact rf_up hf (by decide)
        refine wgo (g' := (M9, 33, [some (.inr (5, 24)), some (.inl ((nI i) + 1)), some (.inl ((f_Mo_ofCrane (rv Mz) i 0) - (f_Mo_ofCrane (rv Mz) (i - 1) 0)))], [])) [oz 0, oz 0] rfl ⟨trivial, trivial, trivial⟩ ?_
        rw [nI_1 i]
        have x13 : f_ra2 (r + 1) A i = f_ra2 r (mm_up (A) 3 1 ((A) 3 1)) (i + 1) := by
          rw [f_ra2]
          rw [if_neg k4, if_pos k8]
        rw [x13]
        exact ih _ M9 (i + 1) (some (.inl ((f_Mo_ofCrane (rv Mz) i 0) - (f_Mo_ofCrane (rv Mz) (i - 1) 0)))) a11 w12 hn (by omega) (Or.inl (nI_sm hn hn3 hi k4)) (by omega)
      · have k14 : ¬ (((A) 3 1) ≤ ((f_Mo_ofCrane (A) i 0) - (f_Mo_ofCrane (A) (i - 1) 0))) := by
          have q : ¬ (((rv Mz) 3 1) ≤ ((f_Mo_ofCrane (rv Mz) i 0) - (f_Mo_ofCrane (rv Mz) (i - 1) 0))) := h7
          first | exact q | (simp only [hA] at q; exact q)
        refine wgo (g' := (mm_up Mz 27 1 ((f_Mo_ofCrane (rv Mz) i 0) - (f_Mo_ofCrane (rv Mz) (i - 1) 0)), 83, [some (.inr (5, 24)), some (.inl (nI i)), some (.inl ((f_Mo_ofCrane (rv Mz) i 0) - (f_Mo_ofCrane (rv Mz) (i - 1) 0)))], [])) [oz 0, oz 0, oz 0, oz 1] rfl ⟨h7, trivial, trivial, ⟨rfl, by decide⟩, trivial⟩ ?_
        generalize e16 : mm_up Mz 27 1 ((f_Mo_ofCrane (rv Mz) i 0) - (f_Mo_ofCrane (rv Mz) (i - 1) 0)) = M15
        have a17 : rv M15 = mm_up (A) 3 1 ((f_Mo_ofCrane (A) i 0) - (f_Mo_ofCrane (A) (i - 1) 0)) := by
          rw [← e16]
          refine (rv_up 3).trans ?_
          show mm_up ((rv Mz)) 3 1 ((f_Mo_ofCrane (rv Mz) i 0) - (f_Mo_ofCrane (rv Mz) (i - 1) 0)) = _
          first | rfl | simp only [hA]
        have w18 : rf M M15 := by rw [← e16]; exact rf_up hf (by decide)
        refine wgo (g' := (M15, 33, [some (.inr (5, 24)), some (.inl ((nI i) + 1)), some (.inl ((f_Mo_ofCrane (rv Mz) i 0) - (f_Mo_ofCrane (rv Mz) (i - 1) 0)))], [])) [oz 0, oz 0] rfl ⟨trivial, trivial, trivial⟩ ?_
        rw [nI_1 i]
        have x19 : f_ra2 (r + 1) A i = f_ra2 r (mm_up (A) 3 1 ((f_Mo_ofCrane (A) i 0) - (f_Mo_ofCrane (A) (i - 1) 0))) (i + 1) := by
          rw [f_ra2]
          rw [if_neg k4, if_neg k14]
        rw [x19]
        exact ih _ M15 (i + 1) (some (.inl ((f_Mo_ofCrane (rv Mz) i 0) - (f_Mo_ofCrane (rv Mz) (i - 1) 0)))) a17 w18 hn (by omega) (Or.inl (nI_sm hn hn3 hi k4)) (by omega)
def f_ra1 : Nat → mm_M → Nat → Int32 × mm_M
  | 0, A, _ => (0, A)
  | r + 1, A, i => (if ((A) 0 1) ≤ (nI i) then (f_ra2 4 (mm_up (A) 3 0 (((A) 3 0) + 1)) 1) else (f_ra1 r ((f_Mo_second (A) i).2) (i + 1)))
set_option maxRecDepth 20000 in
set_option maxHeartbeats 1000000 in
theorem lp_ra1 {d : Nat} {M : mm_M}    {n : Nat} {I : mm_M → Prop} (hn3 : n ≤ 3) (hI0 : ∀ X, I X → X 0 1 = nI n) (hI1 : ∀ X i, I X → i < n → rone X n i) (hI2 : ∀ X i, I X → i < n → I (f_Mo_second X i).2) : ∀ (r : Nat) (A : mm_M) (Mz : mm_M) (i : Nat), rv Mz = A → rf M Mz → (I A) → (i ≤ n) → (n < i + r) → mm_Wp pg_Mo_secondOfAll rt_Mo_secondOfAll (ct_Sem (d + 4)) (Mz, 2, [some (.inr (5, 24)), some (.inl (nI i)), none], []) (rQ M (none) (f_ra1 r A i).2) := by
  intro r
  induction r with
  | zero =>
    intro A Mz i hA hf hI hi hr
    exfalso; omega
  | succ r ih =>
    intro A Mz i hA hf hI hi hr
    refine wgo (g' := (Mz, 7, [some (.inr (5, 24)), some (.inl (nI i)), none], [.inl (Mz 24 1), .inl (nI i)])) [oz 0, oz 0, oz 0] rfl ⟨trivial, trivial, trivial, trivial⟩ ?_
    by_cases h1 : (Mz 24 1) ≤ (nI i)
    · have k2 : ((A) 0 1) ≤ (nI i) := by
        have q : ((rv Mz) 0 1) ≤ (nI i) := h1
        first | exact q | (simp only [hA] at q; exact q)
      refine wgo (g' := (mm_up Mz 27 0 ((Mz 27 0) + 1), 31, [some (.inr (5, 24)), some (.inl (nI i)), none], [])) [oz 1, oz 0, oz 0, oz 0, oz 0, oz 0, oz 0, oz 0, oz 0] rfl ⟨h1, trivial, trivial, trivial, trivial, ⟨rfl, by decide⟩, trivial, trivial, ⟨rfl, by decide⟩, trivial⟩ ?_
      generalize e4 : mm_up Mz 27 0 ((Mz 27 0) + 1) = M3
      have a5 : rv M3 = mm_up (A) 3 0 (((A) 3 0) + 1) := by
        rw [← e4]
        refine (rv_up 3).trans ?_
        show mm_up ((rv Mz)) 3 0 (((rv Mz) 3 0) + 1) = _
        first | rfl | simp only [hA]
      have w6 : rf M M3 := by rw [← e4]; exact rf_up hf (by decide)
      refine wgo (g' := (M3, 33, [some (.inr (5, 24)), some (.inl 1), none], [])) [oz 0, oz 0] rfl ⟨trivial, Nat.le_of_ble_eq_true rfl, trivial⟩ ?_
      have x7 : f_ra1 (r + 1) A i = f_ra2 4 (mm_up (A) 3 0 (((A) 3 0) + 1)) 1 := by
        rw [f_ra1]
        rw [if_pos k2]
      rw [x7]
      exact lp_ra2 (d := d + 3)  (M := M)   hn3 4 _ M3 1 (none) a5 w6 (hI0 A hI) (Nat.le_refl 1) (Or.inr rfl) (by omega)
    · have k8 : ¬ (((A) 0 1) ≤ (nI i)) := by
        have q : ¬ (((rv Mz) 0 1) ≤ (nI i)) := h1
        first | exact q | (simp only [hA] at q; exact q)
      refine wgo (g' := (Mz, 12, [some (.inr (5, 24)), some (.inl (nI i)), none], [.inl (nI i), .inr (5, 24)])) [oz 0, oz 0, oz 0] rfl ⟨h1, trivial, trivial, trivial⟩ ?_
      obtain ⟨M9, s10, a11, w12⟩ := rs_Mo_second (d := d)  (M := Mz) (c := i)  (Nat.lt_of_lt_of_le (nI_sl (hI0 _ hI) (by omega) hi k8) hn3) (by rw [hA]; exact (hI1 _ _ hI (nI_sl (hI0 _ hI) (by omega) hi k8)).1.choose_spec.2) (hI1 _ _ hI (nI_sl (hI0 _ hI) (by omega) hi k8)).1.choose_spec.1 (by rw [hA]; exact (hI1 _ _ hI (nI_sl (hI0 _ hI) (by omega) hi k8)).2.1) (by rw [hA]; exact (hI1 _ _ hI (nI_sl (hI0 _ hI) (by omega) hi k8)).2.2)
      have a11 : rv M9 = (f_Mo_second (A) i).2 := a11.trans (show (f_Mo_second ((rv Mz)) i).2 = _ from by first | rfl | simp only [hA])
      have w12 : rf M M9 := rf_tr hf w12
      refine wgo (g' := (M9, 2, [some (.inr (5, 24)), some (.inl ((nI i) + 1)), none], [])) [oc (none, M9), oz 0, oz 0] rfl ⟨⟨s10, Nat.le_of_ble_eq_true rfl, Nat.le_of_ble_eq_true rfl, ⟨_, rfl⟩⟩, trivial, trivial, trivial⟩ ?_
      rw [nI_1 i]
      have x13 : f_ra1 (r + 1) A i = f_ra1 r ((f_Mo_second (A) i).2) (i + 1) := by
        rw [f_ra1]
        rw [if_neg k8]
      rw [x13]
      exact ih _ M9 (i + 1) a11 w12 (hI2 _ _ hI (nI_sl (hI0 _ hI) (by omega) hi k8)) (nI_sl (hI0 _ hI) (by omega) hi k8) (by omega)
def f_Mo_secondOfAll (A : mm_M)  : Int32 × mm_M := (f_ra1 4 (A) 0)
set_option maxRecDepth 20000 in
set_option maxHeartbeats 1000000 in
theorem rs_Mo_secondOfAll {d : Nat} {M : mm_M}   {n : Nat} {I : mm_M → Prop} (hn3 : n ≤ 3) (hI0 : ∀ X, I X → X 0 1 = nI n) (hI1 : ∀ X i, I X → i < n → rone X n i) (hI2 : ∀ X i, I X → i < n → I (f_Mo_second X i).2) (hI : I (rv M)) : RS (d + 5) 59  M [.inr (5, 24)] (none) (f_Mo_secondOfAll (rv M) ).2 := by
  refine RS_of (Nat.le_of_ble_eq_true rfl) ?_
  show mm_Wp pg_Mo_secondOfAll rt_Mo_secondOfAll (ct_Sem (d + 4)) (M, 0, [some (.inr (5, 24)), none, none], []) _
  refine wgo (g' := (M, 2, [some (.inr (5, 24)), some (.inl 0), none], [])) [oz 0, oz 0] rfl ⟨trivial, Nat.le_of_ble_eq_true rfl, trivial⟩ ?_
  have x1 : f_Mo_secondOfAll (rv M) = f_ra1 4 ((rv M)) 0 := by
    unfold f_Mo_secondOfAll
    rfl
  rw [x1]
  exact lp_ra1 (d := d)  (M := M)   hn3 hI0 hI1 hI2 4 _ M 0  rfl rf_rf hI (Nat.zero_le _) (by omega)
def f_dn : Nat → mm_M → Int32 → Nat → Int32
  | 0, _, _, _ => 0
  | r + 1, A, x, i => (if ((A) 0 5) ≤ (nI i) then x else (if x = 0 then (f_dn r (A) 0 (i + 1)) else (if (f_Mo_ofJob (A) i 3) = 3 then (f_dn r (A) 1 (i + 1)) else (f_dn r (A) 0 (i + 1)))))
set_option maxRecDepth 20000 in
set_option maxHeartbeats 1000000 in
theorem lp_dn {d : Nat} {M : mm_M}   {n : Nat} (hn : rv M 0 5 = nI n) (hn8 : n ≤ 8) : ∀ (r : Nat) (x : Int32) (i : Nat), (x = 0 ∨ x = 1) → (i ≤ n) → (n < i + r) → mm_Wp pg_Mo_isAllDone rt_Mo_isAllDone (ct_Sem (d + 1)) (M, 4, [some (.inr (5, 24)), some (.inl x), some (.inl (nI i))], []) (fun res => res = (some (f_dn r (rv M) x i), M)) := by
  intro r
  induction r with
  | zero =>
    intro x i hx hi hr
    exfalso; omega
  | succ r ih =>
    intro x i hx hi hr
    refine wgo (g' := (M, 9, [some (.inr (5, 24)), some (.inl x), some (.inl (nI i))], [.inl (M 24 5), .inl (nI i)])) [oz 0, oz 0, oz 0] rfl ⟨trivial, trivial, trivial, trivial⟩ ?_
    by_cases h1 : (M 24 5) ≤ (nI i)
    · have k2 : (((rv M)) 0 5) ≤ (nI i) := by
        have q : ((rv M) 0 5) ≤ (nI i) := h1
        exact q
      refine wgo (g' := (M, 39, [some (.inr (5, 24)), some (.inl x), some (.inl (nI i))], [.inl x])) [oz 1, oz 0] rfl ⟨h1, trivial, trivial⟩ ?_
      have x3 : f_dn (r + 1) (rv M) x i = x := by
        rw [f_dn]
        rw [if_pos k2]
      exact wend ⟨_, rfl, rfl, hx⟩ (congrArg (fun q => (some q, M)) x3.symm)
    · have k4 : ¬ ((((rv M)) 0 5) ≤ (nI i)) := by
        have q : ¬ (((rv M) 0 5) ≤ (nI i)) := h1
        exact q
      refine wgo (g' := (M, 13, [some (.inr (5, 24)), some (.inl x), some (.inl (nI i))], [.inl x])) [oz 0, oz 0] rfl ⟨h1, trivial, trivial⟩ ?_
      by_cases h5 : x = 0
      · have k6 : x = 0 := by
          have q : x = 0 := h5
          exact q
        refine wgo (g' := (M, 4, [some (.inr (5, 24)), some (.inl 0), some (.inl ((nI i) + 1))], [])) [oz 1, oz 0, oz 0, oz 0, oz 0] rfl ⟨h5, trivial, Nat.le_of_ble_eq_true rfl, trivial, trivial, trivial⟩ ?_
        rw [nI_1 i]
        have x7 : f_dn (r + 1) (rv M) x i = f_dn r ((rv M)) 0 (i + 1) := by
          rw [f_dn]
          rw [if_neg k4, if_pos k6]
        rw [x7]
        exact ih 0 (i + 1) (Or.inl rfl) (nI_sl hn (by omega) hi k4) (by omega)
      · have k8 : ¬ (x = 0) := by
          have q : ¬ (x = 0) := h5
          exact q
        refine wgo (g' := (M, 19, [some (.inr (5, 24)), some (.inl x), some (.inl (nI i))], [.inl 3, .inl (nI i), .inr (5, 24)])) [oz 0, oz 0, oz 0, oz 0] rfl ⟨h5, trivial, trivial, trivial, trivial⟩ ?_
        have s9 := sm_Mo_ofJob (d := d)  (M := M) (j := i) (w := 3) (by have q := (nI_sl hn (by omega) hi k4); omega)
        refine wgo (g' := (M, 23, [some (.inr (5, 24)), some (.inl x), some (.inl (nI i))], [.inl 3, .inl (f_Mo_ofJob (rv M) i 3)])) [oc (some (f_Mo_ofJob (rv M) i 3), M), oz 0] rfl ⟨⟨s9, Nat.le_of_ble_eq_true rfl, Nat.le_of_ble_eq_true rfl, ⟨_, rfl⟩⟩, trivial, trivial⟩ ?_
        by_cases h10 : (f_Mo_ofJob (rv M) i 3) = 3
        · have k11 : (f_Mo_ofJob ((rv M)) i 3) = 3 := by
            have q : (f_Mo_ofJob (rv M) i 3) = 3 := h10
            exact q
          refine wgo (g' := (M, 4, [some (.inr (5, 24)), some (.inl 1), some (.inl ((nI i) + 1))], [])) [oz 0, oz 0, oz 0, oz 0, oz 0, oz 0] rfl ⟨(fun z => z h10), trivial, trivial, Nat.le_of_ble_eq_true rfl, trivial, trivial, trivial⟩ ?_
          rw [nI_1 i]
          have x12 : f_dn (r + 1) (rv M) x i = f_dn r ((rv M)) 1 (i + 1) := by
            rw [f_dn]
            rw [if_neg k4, if_neg k8, if_pos k11]
          rw [x12]
          exact ih 1 (i + 1) (Or.inr rfl) (nI_sl hn (by omega) hi k4) (by omega)
        · have k13 : ¬ ((f_Mo_ofJob ((rv M)) i 3) = 3) := by
            have q : ¬ ((f_Mo_ofJob (rv M) i 3) = 3) := h10
            exact q
          refine wgo (g' := (M, 4, [some (.inr (5, 24)), some (.inl 0), some (.inl ((nI i) + 1))], [])) [oz 1, oz 0, oz 0, oz 0, oz 0] rfl ⟨h10, trivial, Nat.le_of_ble_eq_true rfl, trivial, trivial, trivial⟩ ?_
          rw [nI_1 i]
          have x14 : f_dn (r + 1) (rv M) x i = f_dn r ((rv M)) 0 (i + 1) := by
            rw [f_dn]
            rw [if_neg k4, if_neg k8, if_neg k13]
          rw [x14]
          exact ih 0 (i + 1) (Or.inl rfl) (nI_sl hn (by omega) hi k4) (by omega)
def f_Mo_isAllDone (A : mm_M)  : Int32 := (f_dn 9 (A) 1 0)
set_option maxRecDepth 20000 in
set_option maxHeartbeats 1000000 in
theorem sm_Mo_isAllDone {d : Nat} {M : mm_M}  {n : Nat} (hn : rv M 0 5 = nI n) (hn8 : n ≤ 8) : ct_Sem (d + 2) 64 M [.inr (5, 24)] (some (f_Mo_isAllDone (rv M) ), M) := by
  refine SM_of (Nat.le_of_ble_eq_true rfl) ?_
  show mm_Wp pg_Mo_isAllDone rt_Mo_isAllDone (ct_Sem (d + 1)) (M, 0, [some (.inr (5, 24)), none, none], []) _
  refine wgo (g' := (M, 4, [some (.inr (5, 24)), some (.inl 1), some (.inl 0)], [])) [oz 0, oz 0, oz 0, oz 0] rfl ⟨trivial, Nat.le_of_ble_eq_true rfl, trivial, Nat.le_of_ble_eq_true rfl, trivial⟩ ?_
  have x1 : f_Mo_isAllDone (rv M) = f_dn 9 ((rv M)) 1 0 := by
    unfold f_Mo_isAllDone
    rfl
  rw [x1]
  exact lp_dn (d := d)  (M := M) hn hn8 9 1 0  (Or.inr rfl) (Nat.zero_le _) (by omega)
def f_iw : Nat → mm_M → Nat → Int32 → Nat → Int32
  | 0, _, _, _, _ => 0
  | r + 1, A, k, x, i => (if (nI k) ≤ (nI i) then x else (if x = 0 then (if (((A) 5 i) / 10) = (((A) 5 k) / 10) then (f_iw r (A) k 1 (i + 1)) else (f_iw r (A) k 0 (i + 1))) else (f_iw r (A) k 1 (i + 1))))
set_option maxRecDepth 20000 in
set_option maxHeartbeats 1000000 in
theorem lp_iw {d : Nat} {M : mm_M} {k : Nat}  (hk : k < 5) : ∀ (r : Nat) (x : Int32) (i : Nat), (x = 0 ∨ x = 1) → (i ≤ k) → (k < i + r) → mm_Wp pg_Mo_isInWay rt_Mo_isInWay (ct_Sem (d + 0)) (M, 4, [some (.inr (5, 24)), some (.inl (nI k)), some (.inl x), some (.inl (nI i))], []) (fun res => res = (some (f_iw r (rv M) k x i), M)) := by
  intro r
  induction r with
  | zero =>
    intro x i hx hi hr
    exfalso; omega
  | succ r ih =>
    intro x i hx hi hr
    refine wgo (g' := (M, 6, [some (.inr (5, 24)), some (.inl (nI k)), some (.inl x), some (.inl (nI i))], [.inl (nI k), .inl (nI i)])) [oz 0, oz 0] rfl ⟨trivial, trivial, trivial⟩ ?_
    by_cases h1 : (nI k) ≤ (nI i)
    · have k2 : (nI k) ≤ (nI i) := by
        have q : (nI k) ≤ (nI i) := h1
        exact q
      refine wgo (g' := (M, 47, [some (.inr (5, 24)), some (.inl (nI k)), some (.inl x), some (.inl (nI i))], [.inl x])) [oz 1, oz 0] rfl ⟨h1, trivial, trivial⟩ ?_
      have x3 : f_iw (r + 1) (rv M) k x i = x := by
        rw [f_iw]
        rw [if_pos k2]
      exact wend ⟨_, rfl, rfl, hx⟩ (congrArg (fun q => (some q, M)) x3.symm)
    · have k4 : ¬ ((nI k) ≤ (nI i)) := by
        have q : ¬ ((nI k) ≤ (nI i)) := h1
        exact q
      refine wgo (g' := (M, 10, [some (.inr (5, 24)), some (.inl (nI k)), some (.inl x), some (.inl (nI i))], [.inl x])) [oz 0, oz 0] rfl ⟨h1, trivial, trivial⟩ ?_
      by_cases h5 : x = 0
      · have k6 : x = 0 := by
          have q : x = 0 := h5
          exact q
        refine wgo (g' := (M, 31, [some (.inr (5, 24)), some (.inl (nI k)), some (.inl x), some (.inl (nI i))], [.inl ((M 29 k) / 10), .inl ((M 29 i) / 10)])) [oz 0, oz 0, oz 0, oz 0, oz i, oz 0, oz 0, oz 0, oz 0, oz 0, oz k, oz 0, oz 0] rfl ⟨(fun z => z h5), trivial, trivial, trivial, ⟨rfl, Nat.lt_of_lt_of_le (nI_sl rfl (by omega) hi k4) (Nat.le_of_lt hk)⟩, trivial, (by decide), trivial, trivial, trivial, ⟨rfl, hk⟩, trivial, (by decide), trivial⟩ ?_
        by_cases h7 : ((M 29 i) / 10) = ((M 29 k) / 10)
        · have k8 : ((((rv M)) 5 i) / 10) = ((((rv M)) 5 k) / 10) := by
            have q : (((rv M) 5 i) / 10) = (((rv M) 5 k) / 10) := h7
            exact q
          refine wgo (g' := (M, 4, [some (.inr (5, 24)), some (.inl (nI k)), some (.inl 1), some (.inl ((nI i) + 1))], [])) [oz 0, oz 0, oz 0, oz 0, oz 0, oz 0] rfl ⟨(fun z => z h7), trivial, trivial, Nat.le_of_ble_eq_true rfl, trivial, trivial, trivial⟩ ?_
          rw [nI_1 i]
          have x9 : f_iw (r + 1) (rv M) k x i = f_iw r ((rv M)) k 1 (i + 1) := by
            rw [f_iw]
            rw [if_neg k4, if_pos k6, if_pos k8]
          rw [x9]
          exact ih 1 (i + 1) (Or.inr rfl) (nI_sl rfl (by omega) hi k4) (by omega)
        · have k10 : ¬ (((((rv M)) 5 i) / 10) = ((((rv M)) 5 k) / 10)) := by
            have q : ¬ ((((rv M) 5 i) / 10) = (((rv M) 5 k) / 10)) := h7
            exact q
          refine wgo (g' := (M, 4, [some (.inr (5, 24)), some (.inl (nI k)), some (.inl 0), some (.inl ((nI i) + 1))], [])) [oz 1, oz 0, oz 0, oz 0, oz 0] rfl ⟨h7, trivial, Nat.le_of_ble_eq_true rfl, trivial, trivial, trivial⟩ ?_
          rw [nI_1 i]
          have x11 : f_iw (r + 1) (rv M) k x i = f_iw r ((rv M)) k 0 (i + 1) := by
            rw [f_iw]
            rw [if_neg k4, if_pos k6, if_neg k10]
          rw [x11]
          exact ih 0 (i + 1) (Or.inl rfl) (nI_sl rfl (by omega) hi k4) (by omega)
      · have k12 : ¬ (x = 0) := by
          have q : ¬ (x = 0) := h5
          exact q
        refine wgo (g' := (M, 4, [some (.inr (5, 24)), some (.inl (nI k)), some (.inl 1), some (.inl ((nI i) + 1))], [])) [oz 1, oz 0, oz 0, oz 0, oz 0, oz 0] rfl ⟨h5, trivial, trivial, Nat.le_of_ble_eq_true rfl, trivial, trivial, trivial⟩ ?_
        rw [nI_1 i]
        have x13 : f_iw (r + 1) (rv M) k x i = f_iw r ((rv M)) k 1 (i + 1) := by
          rw [f_iw]
          rw [if_neg k4, if_neg k12]
        rw [x13]
        exact ih 1 (i + 1) (Or.inr rfl) (nI_sl rfl (by omega) hi k4) (by omega)
def f_Mo_isInWay (A : mm_M) (k : Nat) : Int32 := (f_iw 6 (A) k 0 0)
set_option maxRecDepth 20000 in
set_option maxHeartbeats 1000000 in
theorem sm_Mo_isInWay {d : Nat} {M : mm_M} {k : Nat} (hk : k < 5) : ct_Sem (d + 1) 66 M [.inr (5, 24), .inl (nI k)] (some (f_Mo_isInWay (rv M) k), M) := by
  refine SM_of (Nat.le_of_ble_eq_true rfl) ?_
  show mm_Wp pg_Mo_isInWay rt_Mo_isInWay (ct_Sem (d + 0)) (M, 0, [some (.inr (5, 24)), some (.inl (nI k)), none, none], []) _
  refine wgo (g' := (M, 4, [some (.inr (5, 24)), some (.inl (nI k)), some (.inl 0), some (.inl 0)], [])) [oz 0, oz 0, oz 0, oz 0] rfl ⟨trivial, Nat.le_of_ble_eq_true rfl, trivial, Nat.le_of_ble_eq_true rfl, trivial⟩ ?_
  have x1 : f_Mo_isInWay (rv M) k = f_iw 6 ((rv M)) k 0 0 := by
    unfold f_Mo_isInWay
    rfl
  rw [x1]
  exact lp_iw (d := d)  (M := M) hk 6 0 0  (Or.inl rfl) (Nat.zero_le _) (by omega)
