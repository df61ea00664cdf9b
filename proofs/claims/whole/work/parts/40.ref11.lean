theorem ok43 {x : Int32} (h : okx 8 x) (h2 : ¬ x ≤ 2) : 4 + x - 3 = nI (ix x + 1) := by
  have e := h.1
  conv => lhs; rw [e]
  rw [show (4 : Int32) = nI 4 from rfl, show (3 : Int32) = nI 3 from rfl, nI_add, pk_sub (by omega)]
  congr 1
  omega
theorem okx_le {k : Nat} {x : Int32} (h : x = nI (ix x) ∧ ix x ≤ k) : okx (k + 1) x := ⟨h.1, Nat.lt_succ_of_le h.2⟩
def f_at : Nat → mm_M → Int32 → Int32 → Nat → Nat → Int32 × mm_M
  | 0, A, _, _, _, _ => (0, A)
  | r + 1, A, x, w, k, i => (if ((A) 0 5) ≤ (nI i) then (nI k, A) else (if (f_Mo_ofJob (A) i 3) = 1 then (if (f_Mo_ofJob (A) i 4) = x then (f_at r (A) x w (k + 1) (i + 1)) else (f_at r (A) x w k (i + 1))) else (f_at r (A) x w k (i + 1))))
set_option maxRecDepth 20000 in
set_option maxHeartbeats 1000000 in
theorem lp_at {d : Nat} {M : mm_M} {x : Int32} {w : Int32}   {j : Nat} (hj8 : j ≤ 8) : ∀ (r : Nat) (A : mm_M) (Mz : mm_M) (k : Nat) (i : Nat), rv Mz = A → rf M Mz → (A 0 5 = nI j) → (i ≤ j) → (j < i + r) → mm_Wp pg_Mo_at rt_Mo_at (ct_Sem (d + 1)) (Mz, 94, [some (.inr (5, 24)), some (.inl x), some (.inl w), some (.inl (nI k)), some (.inl (nI i))], []) (rQ M (some (f_at r A x w k i).1) (f_at r A x w k i).2) := by
  intro r
  induction r with
  | zero =>
    intro A Mz k i hA hf hj hi hr
    exfalso; omega
  | succ r ih =>
    intro A Mz k i hA hf hj hi hr
    refine wgo (g' := (Mz, 100, [some (.inr (5, 24)), some (.inl x), some (.inl w), some (.inl (nI k)), some (.inl (nI i))], [.inl (Mz 24 5), .inl (nI i)])) [oz 0, oz 0, oz 0] rfl ⟨trivial, trivial, trivial, trivial⟩ ?_
    by_cases h1 : (Mz 24 5) ≤ (nI i)
    · have k2 : ((A) 0 5) ≤ (nI i) := by
        have q : ((rv Mz) 0 5) ≤ (nI i) := h1
        first | exact q | (simp only [hA] at q; exact q)
      refine wgo (g' := (Mz, 140, [some (.inr (5, 24)), some (.inl x), some (.inl w), some (.inl (nI k)), some (.inl (nI i))], [.inl (nI k)])) [oz 1, oz 0] rfl ⟨h1, trivial, trivial⟩ ?_
      have x3 : f_at (r + 1) A x w k i = (nI k, A) := by
        rw [f_at]
        rw [if_pos k2]
      exact wend ⟨_, rfl, rfl⟩ ⟨congrArg some ((show (nI k : Int32) = nI k from by first | rfl | simp only [hA]).trans (congrArg Prod.fst x3).symm), hA.trans (congrArg Prod.snd x3).symm, hf⟩
    · have k4 : ¬ (((A) 0 5) ≤ (nI i)) := by
        have q : ¬ (((rv Mz) 0 5) ≤ (nI i)) := h1
        first | exact q | (simp only [hA] at q; exact q)
      refine wgo (g' := (Mz, 108, [some (.inr (5, 24)), some (.inl x), some (.inl w), some (.inl (nI k)), some (.inl (nI i))], [.inl 3, .inl (nI i), .inr (5, 24), .inl (nI k)])) [oz 0, oz 0, oz 0, oz 0, oz 0] rfl ⟨h1, trivial, trivial, trivial, trivial, trivial⟩ ?_
      have s5 := sm_Mo_ofJob (d := d)  (M := Mz) (j := i) (w := 3) (by have q := (nI_sl hj (by omega) hi k4); omega)
      refine wgo (g' := (Mz, 112, [some (.inr (5, 24)), some (.inl x), some (.inl w), some (.inl (nI k)), some (.inl (nI i))], [.inl 1, .inl (f_Mo_ofJob (rv Mz) i 3), .inl (nI k)])) [oc (some (f_Mo_ofJob (rv Mz) i 3), Mz), oz 0] rfl ⟨⟨s5, Nat.le_of_ble_eq_true rfl, Nat.le_of_ble_eq_true rfl, ⟨_, rfl⟩⟩, trivial, trivial⟩ ?_
      by_cases h6 : (f_Mo_ofJob (rv Mz) i 3) = 1
      · have k7 : (f_Mo_ofJob (A) i 3) = 1 := by
          have q : (f_Mo_ofJob (rv Mz) i 3) = 1 := h6
          first | exact q | (simp only [hA] at q; exact q)
        refine wgo (g' := (Mz, 119, [some (.inr (5, 24)), some (.inl x), some (.inl w), some (.inl (nI k)), some (.inl (nI i))], [.inl 4, .inl (nI i), .inr (5, 24), .inl (nI k)])) [oz 0, oz 0, oz 0, oz 0] rfl ⟨(fun z => z h6), trivial, trivial, trivial, trivial⟩ ?_
        have s8 := sm_Mo_ofJob (d := d)  (M := Mz) (j := i) (w := 4) (by have q := (nI_sl hj (by omega) hi k4); omega)
        refine wgo (g' := (Mz, 123, [some (.inr (5, 24)), some (.inl x), some (.inl w), some (.inl (nI k)), some (.inl (nI i))], [.inl x, .inl (f_Mo_ofJob (rv Mz) i 4), .inl (nI k)])) [oc (some (f_Mo_ofJob (rv Mz) i 4), Mz), oz 0] rfl ⟨⟨s8, Nat.le_of_ble_eq_true rfl, Nat.le_of_ble_eq_true rfl, ⟨_, rfl⟩⟩, trivial, trivial⟩ ?_
        by_cases h9 : (f_Mo_ofJob (rv Mz) i 4) = x
        · have k10 : (f_Mo_ofJob (A) i 4) = x := by
            have q : (f_Mo_ofJob (rv Mz) i 4) = x := h9
            first | exact q | (simp only [hA] at q; exact q)
          refine wgo (g' := (Mz, 94, [some (.inr (5, 24)), some (.inl x), some (.inl w), some (.inl ((nI k) + 1)), some (.inl ((nI i) + 1))], [])) [oz 0, oz 0, oz 0, oz 0, oz 0, oz 0, oz 0] rfl ⟨(fun z => z h9), trivial, trivial, trivial, Nat.le_of_ble_eq_true rfl, trivial, trivial, trivial⟩ ?_
          rw [nI_1 k]
          rw [nI_1 i]
          have x11 : f_at (r + 1) A x w k i = f_at r (A) x w (k + 1) (i + 1) := by
            rw [f_at]
            rw [if_neg k4, if_pos k7, if_pos k10]
          rw [x11]
          exact ih _ Mz (k + 1) (i + 1) hA hf hj (nI_sl hj (by omega) hi k4) (by omega)
        · have k12 : ¬ ((f_Mo_ofJob (A) i 4) = x) := by
            have q : ¬ ((f_Mo_ofJob (rv Mz) i 4) = x) := h9
            first | exact q | (simp only [hA] at q; exact q)
          refine wgo (g' := (Mz, 94, [some (.inr (5, 24)), some (.inl x), some (.inl w), some (.inl ((nI k) + 0)), some (.inl ((nI i) + 1))], [])) [oz 1, oz 0, oz 0, oz 0, oz 0, oz 0] rfl ⟨h9, trivial, trivial, Nat.le_of_ble_eq_true rfl, trivial, trivial, trivial⟩ ?_
          rw [nI_p0 k]
          rw [nI_1 i]
          have x13 : f_at (r + 1) A x w k i = f_at r (A) x w k (i + 1) := by
            rw [f_at]
            rw [if_neg k4, if_pos k7, if_neg k12]
          rw [x13]
          exact ih _ Mz k (i + 1) hA hf hj (nI_sl hj (by omega) hi k4) (by omega)
      · have k14 : ¬ ((f_Mo_ofJob (A) i 3) = 1) := by
          have q : ¬ ((f_Mo_ofJob (rv Mz) i 3) = 1) := h6
          first | exact q | (simp only [hA] at q; exact q)
        refine wgo (g' := (Mz, 94, [some (.inr (5, 24)), some (.inl x), some (.inl w), some (.inl ((nI k) + 0)), some (.inl ((nI i) + 1))], [])) [oz 1, oz 0, oz 0, oz 0, oz 0, oz 0] rfl ⟨h6, trivial, trivial, Nat.le_of_ble_eq_true rfl, trivial, trivial, trivial⟩ ?_
        rw [nI_p0 k]
        rw [nI_1 i]
        have x15 : f_at (r + 1) A x w k i = f_at r (A) x w k (i + 1) := by
          rw [f_at]
          rw [if_neg k4, if_neg k14]
        rw [x15]
        exact ih _ Mz k (i + 1) hA hf hj (nI_sl hj (by omega) hi k4) (by omega)
def f_at24 (A : mm_M) (x : Int32) (w : Int32) (p1 : Int32) : Int32 × mm_M := (if ((f_Mo_throwing (A) p1 0 0 0).1) = 0 then (if 2 ≤ w then (if w = 7 then (f_Mo_ofCrane ((f_Mo_throwing (A) p1 0 0 0).2) (ix x) 1, (f_Mo_throwing (A) p1 0 0 0).2) else (if w ≤ 2 then (f_at 9 ((f_Mo_throwing (A) p1 0 0 0).2) x w 0 0) else (f_Mo_ofCrane ((f_Mo_throwing (A) p1 0 0 0).2) (ix x) (ix w + 1), (f_Mo_throwing (A) p1 0 0 0).2))) else (if w = 0 then (f_Mo_ofCrane ((f_Mo_throwing (A) p1 0 0 0).2) (ix x) 0, (f_Mo_throwing (A) p1 0 0 0).2) else (f_Mo_ofCrane ((f_Mo_throwing (A) p1 0 0 0).2) (ix x) 2, (f_Mo_throwing (A) p1 0 0 0).2))) else (0, (f_Mo_throwing (A) p1 0 0 0).2))
set_option maxRecDepth 20000 in
set_option maxHeartbeats 1000000 in
theorem sg_at24 {d : Nat} {M : mm_M} {A : mm_M} {Mz : mm_M} {x : Int32} {w : Int32} {p1 : Int32}  (hA : rv Mz = A) (hf : rf M Mz) {j : Nat} (hj8 : j ≤ 8) (hj : A 0 5 = nI j) (hp : p1 = 0 → okx 3 x ∧ okx 8 w) : mm_Wp pg_Mo_at rt_Mo_at (ct_Sem (d + 1)) (Mz, 24, [some (.inr (5, 24)), some (.inl x), some (.inl w), none, none], [.inl p1, .inr (5, 24)]) (rQ M (some (f_at24 A x w p1).1) (f_at24 A x w p1).2) := by
  refine wgo (g' := (Mz, 27, [some (.inr (5, 24)), some (.inl x), some (.inl w), none, none], [.inl 0, .inl 0, .inl 0, .inl p1, .inr (5, 24)])) [oz 0, oz 0, oz 0] rfl ⟨trivial, trivial, trivial, trivial⟩ ?_
  obtain ⟨M1, s2, a3, w4⟩ := rs_Mo_throwing (d := d)  (M := Mz) (p1 := p1) (p2 := 0) (p3 := 0) (p4 := 0)  
  have a3 : rv M1 = (f_Mo_throwing (A) p1 0 0 0).2 := a3.trans (show (f_Mo_throwing ((rv Mz)) p1 0 0 0).2 = _ from by first | rfl | simp only [hA])
  have w4 : rf M M1 := rf_tr hf w4
  refine wgo (g' := (M1, 30, [some (.inr (5, 24)), some (.inl x), some (.inl w), none, none], [.inl ((f_Mo_throwing ((rv Mz)) p1 0 0 0).1)])) [oc (some ((f_Mo_throwing ((rv Mz)) p1 0 0 0).1), M1)] rfl ⟨⟨s2, Nat.le_of_ble_eq_true rfl, Nat.le_of_ble_eq_true rfl, ⟨_, rfl⟩⟩, trivial⟩ ?_
  by_cases h5 : ((f_Mo_throwing ((rv Mz)) p1 0 0 0).1) = 0
  · have k6 : ((f_Mo_throwing (A) p1 0 0 0).1) = 0 := by
      have q : ((f_Mo_throwing ((rv Mz)) p1 0 0 0).1) = 0 := h5
      first | exact q | (simp only [hA, a3] at q; exact q)
    refine wgo (g' := (M1, 37, [some (.inr (5, 24)), some (.inl x), some (.inl w), none, none], [.inl 2, .inl w])) [oz 1, oz 0, oz 0] rfl ⟨h5, trivial, trivial, trivial⟩ ?_
    by_cases h7 : 2 ≤ w
    · have k8 : 2 ≤ w := by
        have q : 2 ≤ w := h7
        first | exact q | (simp only [hA, a3] at q; exact q)
      refine wgo (g' := (M1, 63, [some (.inr (5, 24)), some (.inl x), some (.inl w), none, none], [.inl 7, .inl w])) [oz 1, oz 0, oz 0] rfl ⟨h7, trivial, trivial, trivial⟩ ?_
      by_cases h9 : w = 7
      · have k10 : w = 7 := by
          have q : w = 7 := h9
          first | exact q | (simp only [hA, a3] at q; exact q)
        refine wgo (g' := (M1, 69, [some (.inr (5, 24)), some (.inl x), some (.inl w), none, none], [.inl 1, .inl x, .inr (5, 24)])) [oz 0, oz 0, oz 0, oz 0] rfl ⟨(fun z => z h9), trivial, trivial, trivial, trivial⟩ ?_
        have s11 := sm_Mo_ofCrane (d := d)  (M := M1) (c := ix x) (w := 1) (by have q := (hp (thr0 k6).1).1.2; omega)
        rw [← ((hp (thr0 k6).1).1).1] at s11
        refine wgo (g' := (M1, 72, [some (.inr (5, 24)), some (.inl x), some (.inl w), none, none], [.inl (f_Mo_ofCrane (rv M1) (ix x) 1)])) [oc (some (f_Mo_ofCrane (rv M1) (ix x) 1), M1)] rfl ⟨⟨s11, Nat.le_of_ble_eq_true rfl, Nat.le_of_ble_eq_true rfl, ⟨_, rfl⟩⟩, trivial⟩ ?_
        have x12 : f_at24 A x w p1 = (f_Mo_ofCrane ((f_Mo_throwing (A) p1 0 0 0).2) (ix x) 1, (f_Mo_throwing (A) p1 0 0 0).2) := by
          unfold f_at24
          rw [if_pos k6, if_pos k8, if_pos k10]
        exact wend ⟨_, rfl, rfl⟩ ⟨congrArg some ((show (f_Mo_ofCrane (rv M1) (ix x) 1 : Int32) = f_Mo_ofCrane ((f_Mo_throwing (A) p1 0 0 0).2) (ix x) 1 from by first | rfl | simp only [hA, a3]).trans (congrArg Prod.fst x12).symm), a3.trans (congrArg Prod.snd x12).symm, w4⟩
      · have k13 : ¬ (w = 7) := by
          have q : ¬ (w = 7) := h9
          first | exact q | (simp only [hA, a3] at q; exact q)
        refine wgo (g' := (M1, 75, [some (.inr (5, 24)), some (.inl x), some (.inl w), none, none], [.inl 2, .inl w])) [oz 1, oz 0, oz 0] rfl ⟨h9, trivial, trivial, trivial⟩ ?_
        by_cases h14 : w ≤ 2
        · have k15 : w ≤ 2 := by
            have q : w ≤ 2 := h14
            first | exact q | (simp only [hA, a3] at q; exact q)
          refine wgo (g' := (M1, 94, [some (.inr (5, 24)), some (.inl x), some (.inl w), some (.inl 0), some (.inl 0)], [])) [oz 1, oz 0, oz 0, oz 0, oz 0] rfl ⟨h14, trivial, Nat.le_of_ble_eq_true rfl, trivial, Nat.le_of_ble_eq_true rfl, trivial⟩ ?_
          have x16 : f_at24 A x w p1 = f_at 9 ((f_Mo_throwing (A) p1 0 0 0).2) x w 0 0 := by
            unfold f_at24
            rw [if_pos k6, if_pos k8, if_neg k13, if_pos k15]
          rw [x16]
          exact lp_at (d := d)  (M := M) (x := x) (w := w)  hj8 9 _ M1 0 0  a3 w4 (by rw [thr_row (by decide)]; exact hj) (Nat.zero_le _) (by omega)
        · have k17 : ¬ (w ≤ 2) := by
            have q : ¬ (w ≤ 2) := h14
            first | exact q | (simp only [hA, a3] at q; exact q)
          refine wgo (g' := (M1, 85, [some (.inr (5, 24)), some (.inl x), some (.inl w), none, none], [.inl ((4 + w) - 3), .inl x, .inr (5, 24)])) [oz 0, oz 0, oz 0, oz 0, oz 0, oz 0, oz 0, oz 0] rfl ⟨h14, trivial, trivial, trivial, trivial, trivial, trivial, trivial, trivial⟩ ?_
          have s18 := sm_Mo_ofCrane (d := d)  (M := M1) (c := ix x) (w := ix w + 1) (by have q := (hp (thr0 k6).1).1.2; have q2 := (hp (thr0 k6).1).2.2; omega)
          rw [← ((hp (thr0 k6).1).1).1] at s18
          rw [← (ok43 (hp (thr0 k6).1).2 k17)] at s18
          refine wgo (g' := (M1, 88, [some (.inr (5, 24)), some (.inl x), some (.inl w), none, none], [.inl (f_Mo_ofCrane (rv M1) (ix x) (ix w + 1))])) [oc (some (f_Mo_ofCrane (rv M1) (ix x) (ix w + 1)), M1)] rfl ⟨⟨s18, Nat.le_of_ble_eq_true rfl, Nat.le_of_ble_eq_true rfl, ⟨_, rfl⟩⟩, trivial⟩ ?_
          have x19 : f_at24 A x w p1 = (f_Mo_ofCrane ((f_Mo_throwing (A) p1 0 0 0).2) (ix x) (ix w + 1), (f_Mo_throwing (A) p1 0 0 0).2) := by
            unfold f_at24
            rw [if_pos k6, if_pos k8, if_neg k13, if_neg k17]
          exact wend ⟨_, rfl, rfl⟩ ⟨congrArg some ((show (f_Mo_ofCrane (rv M1) (ix x) (ix w + 1) : Int32) = f_Mo_ofCrane ((f_Mo_throwing (A) p1 0 0 0).2) (ix x) (ix w + 1) from by first | rfl | simp only [hA, a3]).trans (congrArg Prod.fst x19).symm), a3.trans (congrArg Prod.snd x19).symm, w4⟩
    · have k20 : ¬ (2 ≤ w) := by
        have q : ¬ (2 ≤ w) := h7
        first | exact q | (simp only [hA, a3] at q; exact q)
      refine wgo (g' := (M1, 41, [some (.inr (5, 24)), some (.inl x), some (.inl w), none, none], [.inl w])) [oz 0, oz 0] rfl ⟨h7, trivial, trivial⟩ ?_
      by_cases h21 : w = 0
      · have k22 : w = 0 := by
          have q : w = 0 := h21
          first | exact q | (simp only [hA, a3] at q; exact q)
        refine wgo (g' := (M1, 47, [some (.inr (5, 24)), some (.inl x), some (.inl w), none, none], [.inl 0, .inl x, .inr (5, 24)])) [oz 0, oz 0, oz 0, oz 0] rfl ⟨(fun z => z h21), trivial, trivial, trivial, trivial⟩ ?_
        have s23 := sm_Mo_ofCrane (d := d)  (M := M1) (c := ix x) (w := 0) (by have q := (hp (thr0 k6).1).1.2; omega)
        rw [← ((hp (thr0 k6).1).1).1] at s23
        refine wgo (g' := (M1, 59, [some (.inr (5, 24)), some (.inl x), some (.inl w), none, none], [.inl (f_Mo_ofCrane (rv M1) (ix x) 0)])) [oc (some (f_Mo_ofCrane (rv M1) (ix x) 0), M1), oz 0] rfl ⟨⟨s23, Nat.le_of_ble_eq_true rfl, Nat.le_of_ble_eq_true rfl, ⟨_, rfl⟩⟩, trivial, trivial⟩ ?_
        have x24 : f_at24 A x w p1 = (f_Mo_ofCrane ((f_Mo_throwing (A) p1 0 0 0).2) (ix x) 0, (f_Mo_throwing (A) p1 0 0 0).2) := by
          unfold f_at24
          rw [if_pos k6, if_neg k20, if_pos k22]
        exact wend ⟨_, rfl, rfl⟩ ⟨congrArg some ((show (f_Mo_ofCrane (rv M1) (ix x) 0 : Int32) = f_Mo_ofCrane ((f_Mo_throwing (A) p1 0 0 0).2) (ix x) 0 from by first | rfl | simp only [hA, a3]).trans (congrArg Prod.fst x24).symm), a3.trans (congrArg Prod.snd x24).symm, w4⟩
      · have k25 : ¬ (w = 0) := by
          have q : ¬ (w = 0) := h21
          first | exact q | (simp only [hA, a3] at q; exact q)
        refine wgo (g' := (M1, 56, [some (.inr (5, 24)), some (.inl x), some (.inl w), none, none], [.inl 2, .inl x, .inr (5, 24)])) [oz 1, oz 0, oz 0, oz 0] rfl ⟨h21, trivial, trivial, trivial, trivial⟩ ?_
        have s26 := sm_Mo_ofCrane (d := d)  (M := M1) (c := ix x) (w := 2) (by have q := (hp (thr0 k6).1).1.2; omega)
        rw [← ((hp (thr0 k6).1).1).1] at s26
        refine wgo (g' := (M1, 59, [some (.inr (5, 24)), some (.inl x), some (.inl w), none, none], [.inl (f_Mo_ofCrane (rv M1) (ix x) 2)])) [oc (some (f_Mo_ofCrane (rv M1) (ix x) 2), M1)] rfl ⟨⟨s26, Nat.le_of_ble_eq_true rfl, Nat.le_of_ble_eq_true rfl, ⟨_, rfl⟩⟩, trivial⟩ ?_
        have x27 : f_at24 A x w p1 = (f_Mo_ofCrane ((f_Mo_throwing (A) p1 0 0 0).2) (ix x) 2, (f_Mo_throwing (A) p1 0 0 0).2) := by
          unfold f_at24
          rw [if_pos k6, if_neg k20, if_neg k25]
        exact wend ⟨_, rfl, rfl⟩ ⟨congrArg some ((show (f_Mo_ofCrane (rv M1) (ix x) 2 : Int32) = f_Mo_ofCrane ((f_Mo_throwing (A) p1 0 0 0).2) (ix x) 2 from by first | rfl | simp only [hA, a3]).trans (congrArg Prod.fst x27).symm), a3.trans (congrArg Prod.snd x27).symm, w4⟩
  · have k28 : ¬ (((f_Mo_throwing (A) p1 0 0 0).1) = 0) := by
      have q : ¬ (((f_Mo_throwing ((rv Mz)) p1 0 0 0).1) = 0) := h5
      first | exact q | (simp only [hA, a3] at q; exact q)
    refine wgo (g' := (M1, 34, [some (.inr (5, 24)), some (.inl x), some (.inl w), none, none], [.inl 0])) [oz 0, oz 0] rfl ⟨h5, trivial, trivial⟩ ?_
    have x29 : f_at24 A x w p1 = (0, (f_Mo_throwing (A) p1 0 0 0).2) := by
      unfold f_at24
      rw [if_neg k28]
    exact wend ⟨_, rfl, rfl⟩ ⟨congrArg some ((show (0 : Int32) = 0 from by first | rfl | simp only [hA, a3]).trans (congrArg Prod.fst x29).symm), a3.trans (congrArg Prod.snd x29).symm, w4⟩
def f_Mo_at (A : mm_M) (x : Int32) (w : Int32) : Int32 × mm_M := (if (f_Mo_isCrane (A) x) = 0 then (f_at24 (A) x w 1) else (if (f_Mo_in w 0 7) = 0 then (f_at24 (A) x w 1) else (f_at24 (A) x w 0)))
set_option maxRecDepth 20000 in
set_option maxHeartbeats 1000000 in
theorem rs_Mo_at {d : Nat} {M : mm_M} {x : Int32} {w : Int32}  {n j : Nat} (hn3 : n ≤ 3) (hn : rv M 0 1 = nI n) (hj8 : j ≤ 8) (hj : rv M 0 5 = nI j) : RS (d + 3) 61  M [.inr (5, 24), .inl x, .inl w] (some (f_Mo_at (rv M) x w).1) (f_Mo_at (rv M) x w).2 := by
  refine RS_of (Nat.le_of_ble_eq_true rfl) ?_
  show mm_Wp pg_Mo_at rt_Mo_at (ct_Sem (d + 2)) (M, 0, [some (.inr (5, 24)), some (.inl x), some (.inl w), none, none], []) _
  refine wgo (g' := (M, 3, [some (.inr (5, 24)), some (.inl x), some (.inl w), none, none], [.inl x, .inr (5, 24), .inr (5, 24)])) [oz 0, oz 0, oz 0] rfl ⟨trivial, trivial, trivial, trivial⟩ ?_
  have s1 := sm_Mo_isCrane (d := d)  (M := M) (c := x) 
  refine wgo (g' := (M, 6, [some (.inr (5, 24)), some (.inl x), some (.inl w), none, none], [.inl (f_Mo_isCrane (rv M) x), .inr (5, 24)])) [oc (some (f_Mo_isCrane (rv M) x), M)] rfl ⟨⟨s1, Nat.le_of_ble_eq_true rfl, Nat.le_of_ble_eq_true rfl, ⟨_, rfl⟩⟩, trivial⟩ ?_
  by_cases h2 : (f_Mo_isCrane (rv M) x) = 0
  · have k3 : (f_Mo_isCrane ((rv M)) x) = 0 := by
      have q : (f_Mo_isCrane (rv M) x) = 0 := h2
      exact q
    refine wgo (g' := (M, 24, [some (.inr (5, 24)), some (.inl x), some (.inl w), none, none], [.inl 1, .inr (5, 24)])) [oz 1, oz 0, oz 0] rfl ⟨h2, trivial, trivial, trivial⟩ ?_
    have x4 : f_Mo_at (rv M) x w = f_at24 ((rv M)) x w 1 := by
      unfold f_Mo_at
      rw [if_pos k3]
    rw [x4]
    exact sg_at24 (d := d + 1)  (M := M) (Mz := M) (x := x) (w := w) (p1 := 1)  rfl rf_rf hj8 hj (fun z => absurd z (by decide))
  · have k5 : ¬ ((f_Mo_isCrane ((rv M)) x) = 0) := by
      have q : ¬ ((f_Mo_isCrane (rv M) x) = 0) := h2
      exact q
    refine wgo (g' := (M, 13, [some (.inr (5, 24)), some (.inl x), some (.inl w), none, none], [.inl 7, .inl 0, .inl w, .inr (5, 24)])) [oz 0, oz 0, oz 0, oz 0] rfl ⟨h2, trivial, trivial, trivial, trivial⟩ ?_
    have s6 := sm_Mo_in (d := d + 1)  (M := M) (v := w) (a := 0) (e := 7) 
    refine wgo (g' := (M, 16, [some (.inr (5, 24)), some (.inl x), some (.inl w), none, none], [.inl (f_Mo_in w 0 7), .inr (5, 24)])) [oc (some (f_Mo_in w 0 7), M)] rfl ⟨⟨s6, Nat.le_of_ble_eq_true rfl, Nat.le_of_ble_eq_true rfl, trivial⟩, trivial⟩ ?_
    by_cases h7 : (f_Mo_in w 0 7) = 0
    · have k8 : (f_Mo_in w 0 7) = 0 := by
        have q : (f_Mo_in w 0 7) = 0 := h7
        exact q
      refine wgo (g' := (M, 24, [some (.inr (5, 24)), some (.inl x), some (.inl w), none, none], [.inl 1, .inr (5, 24)])) [oz 0, oz 0, oz 0] rfl ⟨(fun z => z h7), trivial, trivial, trivial⟩ ?_
      have x9 : f_Mo_at (rv M) x w = f_at24 ((rv M)) x w 1 := by
        unfold f_Mo_at
        rw [if_neg k5, if_pos k8]
      rw [x9]
      exact sg_at24 (d := d + 1)  (M := M) (Mz := M) (x := x) (w := w) (p1 := 1)  rfl rf_rf hj8 hj (fun z => absurd z (by decide))
    · have k10 : ¬ ((f_Mo_in w 0 7) = 0) := by
        have q : ¬ ((f_Mo_in w 0 7) = 0) := h7
        exact q
      refine wgo (g' := (M, 24, [some (.inr (5, 24)), some (.inl x), some (.inl w), none, none], [.inl 0, .inr (5, 24)])) [oz 1, oz 0] rfl ⟨h7, trivial, trivial⟩ ?_
      have x11 : f_Mo_at (rv M) x w = f_at24 ((rv M)) x w 0 := by
        unfold f_Mo_at
        rw [if_neg k5, if_neg k10]
      rw [x11]
      exact sg_at24 (d := d + 1)  (M := M) (Mz := M) (x := x) (w := w) (p1 := 0)  rfl rf_rf hj8 hj (fun _ => ⟨okC hn3 hn k5, okx_le (in_nI (k := 7) rfl (by decide) k10)⟩)
