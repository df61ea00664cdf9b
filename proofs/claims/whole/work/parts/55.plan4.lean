def f_ec (g : (mm_M × ya) → (mm_M × ya)) : Nat → (mm_M × ya) → ya → Nat → Nat → Nat → (mm_M × ya)
  | 0, A, _, _, _, _ => A
  | r + 1, A, B, q, j, c => (if (sc B 0) ≤ (nI c) then (A) else (if (f_Cr_reaches B c j) = 0 then (f_ec g r (A) B q j (c + 1)) else (if (f_Pl_isTriedAlready (A).1 q (nI j) (nI c)) = 0 then (f_ec g r (g (ucv (ucv (A) 2 q (nI j)) 3 q (nI c))) B q j (c + 1)) else (f_ec g r (A) B q j (c + 1)))))
set_option maxRecDepth 20000 in
set_option maxHeartbeats 1000000 in
theorem lk_ec {d : Nat} {M : mm_M} {g : (mm_M × ya) → (mm_M × ya)} {q : Nat} {j : Nat} {n : Nat} {H G : mm_M × ya → Prop} (hn3 : n ≤ 3) (hn0 : sc (yv 8 M) 0 = nI n) (hq : q < 4) (hj : j < 8) (hrec : ∀ M1, yv 8 M1 = yv 8 M → G (cv M1) → CS (d + 5) 11 M1 [.inr (2, 1), .inr (3, 8), .inl (nI (q + 1))] none (g (cv M1))) (hH2 : ∀ A c, H A → c < n → ¬ f_Cr_reaches (yv 8 M) c j = 0 → f_Pl_isTriedAlready A.1 q (nI j) (nI c) = 0 → G (ucv (ucv A 2 q (nI j)) 3 q (nI c)) ∧ H (g (ucv (ucv A 2 q (nI j)) 3 q (nI c)))) : ∀ (r : Nat) (A : (mm_M × ya)) (Mz : mm_M) (c : Nat), cv Mz = A → cf M Mz → (H A) → (c ≤ n) → (n < c + r) → ∀ (Q : mm_R → Prop), (∀ (M2 : mm_M) (v4 : Option mm_V), cv M2 = f_ec g r A (yv 8 M) q j c → cf M M2 → mm_Wp pg_Pl_extendWay rt_Pl_extendWay (ct_Sem (d + 5)) (M2, 126, [some (.inr (2, 1)), some (.inr (3, 8)), some (.inl (nI q)), some (.inl (nI j)), v4], []) Q) → mm_Wp pg_Pl_extendWay rt_Pl_extendWay (ct_Sem (d + 5)) (Mz, 58, [some (.inr (2, 1)), some (.inr (3, 8)), some (.inl (nI q)), some (.inl (nI j)), some (.inl (nI c))], []) Q := by
  intro r
  induction r with
  | zero =>
    intro A Mz c hA hf hH hi hr Q hQ
    exfalso; omega
  | succ r ih =>
    intro A Mz c hA hf hH hi hr Q hQ
    have b1 : yv 8 Mz = yv 8 M := cv_fr hf
    refine wgo (g' := (Mz, 64, [some (.inr (2, 1)), some (.inr (3, 8)), some (.inl (nI q)), some (.inl (nI j)), some (.inl (nI c))], [.inl (Mz 8 0), .inl (nI c)])) [oz 0, oz 0, oz 0] rfl ⟨trivial, trivial, trivial, trivial⟩ ?_
    by_cases h2 : (Mz 8 0) ≤ (nI c)
    · have k3 : (sc (yv 8 M) 0) ≤ (nI c) := by
        have q : (sc (yv 8 Mz) 0) ≤ (nI c) := h2
        first | exact q | (simp only [hA, b1] at q; exact q)
      refine wgo (g' := (Mz, 126, [some (.inr (2, 1)), some (.inr (3, 8)), some (.inl (nI q)), some (.inl (nI j)), some (.inl (nI c))], [])) [oz 1] rfl ⟨h2, trivial⟩ ?_
      have x4 : f_ec g (r + 1) A (yv 8 M) q j c = A := by
        rw [f_ec]
        rw [if_pos k3]
      exact hQ Mz (some (.inl (nI c))) (hA.trans x4.symm) hf
    · have k5 : ¬ ((sc (yv 8 M) 0) ≤ (nI c)) := by
        have q : ¬ ((sc (yv 8 Mz) 0) ≤ (nI c)) := h2
        first | exact q | (simp only [hA, b1] at q; exact q)
      refine wgo (g' := (Mz, 80, [some (.inr (2, 1)), some (.inr (3, 8)), some (.inl (nI q)), some (.inl (nI j)), some (.inl (nI c))], [.inr (1, 8 + 6 + 32 * j), .inr (0, 8 + 3 + 32 * c)])) [oz 0, oz 0, oz 0, oz 0, oz c, oz 0, oz 0, oz 0, oz j] rfl ⟨h2, trivial, trivial, trivial, ⟨rfl, Nat.lt_of_lt_of_le (nI_sl hn0 (by omega) hi k5) hn3⟩, trivial, trivial, trivial, ⟨rfl, hj⟩, trivial⟩ ?_
      have s6 := sm_Cr_reaches (d := d + 3) (b := 8) (M := Mz) (c := c) (j := j)
      refine wgo (g' := (Mz, 83, [some (.inr (2, 1)), some (.inr (3, 8)), some (.inl (nI q)), some (.inl (nI j)), some (.inl (nI c))], [.inl (f_Cr_reaches (yv 8 Mz) c j)])) [oc (some (f_Cr_reaches (yv 8 Mz) c j), Mz)] rfl ⟨⟨s6, Nat.le_of_ble_eq_true rfl, Nat.le_of_ble_eq_true rfl, ⟨_, rfl⟩⟩, trivial⟩ ?_
      by_cases h7 : (f_Cr_reaches (yv 8 Mz) c j) = 0
      · have k8 : (f_Cr_reaches (yv 8 M) c j) = 0 := by
          have q : (f_Cr_reaches (yv 8 Mz) c j) = 0 := h7
          first | exact q | (simp only [hA, b1] at q; exact q)
        refine wgo (g' := (Mz, 58, [some (.inr (2, 1)), some (.inr (3, 8)), some (.inl (nI q)), some (.inl (nI j)), some (.inl ((nI c) + 1))], [])) [oz 1, oz 0, oz 0] rfl ⟨h7, trivial, trivial, trivial⟩ ?_
        rw [nI_1 c]
        have x9 : f_ec g (r + 1) A (yv 8 M) q j c = f_ec g r (A) (yv 8 M) q j (c + 1) := by
          rw [f_ec]
          rw [if_neg k5, if_pos k8]
        exact ih _ Mz (c + 1) hA hf hH (nI_sl hn0 (by omega) hi k5) (by omega) Q (fun M2 v0 z1 z2 => hQ M2 v0 (z1.trans x9.symm) z2)
      · have k10 : ¬ ((f_Cr_reaches (yv 8 M) c j) = 0) := by
          have q : ¬ ((f_Cr_reaches (yv 8 Mz) c j) = 0) := h7
          first | exact q | (simp only [hA, b1] at q; exact q)
        refine wgo (g' := (Mz, 91, [some (.inr (2, 1)), some (.inr (3, 8)), some (.inl (nI q)), some (.inl (nI j)), some (.inl (nI c))], [.inl (nI c), .inl (nI j), .inl (nI q), .inr (2, 1)])) [oz 0, oz 0, oz 0, oz 0, oz 0] rfl ⟨h7, trivial, trivial, trivial, trivial, trivial⟩ ?_
        have s11 := sm_Pl_isTriedAlready (d := d + 4) (M := Mz) (q := q) (j := nI j) (c := nI c) (Nat.le_of_lt hq)
        refine wgo (g' := (Mz, 94, [some (.inr (2, 1)), some (.inr (3, 8)), some (.inl (nI q)), some (.inl (nI j)), some (.inl (nI c))], [.inl (f_Pl_isTriedAlready (pv Mz) q (nI j) (nI c))])) [oc (some (f_Pl_isTriedAlready (pv Mz) q (nI j) (nI c)), Mz)] rfl ⟨⟨s11, Nat.le_of_ble_eq_true rfl, Nat.le_of_ble_eq_true rfl, ⟨_, rfl⟩⟩, trivial⟩ ?_
        by_cases h12 : (f_Pl_isTriedAlready (pv Mz) q (nI j) (nI c)) = 0
        · have k13 : (f_Pl_isTriedAlready (A).1 q (nI j) (nI c)) = 0 := by
            have q : (f_Pl_isTriedAlready (cv Mz).1 q (nI j) (nI c)) = 0 := h12
            first | exact q | (simp only [hA, b1] at q; exact q)
          refine wgo (g' := (mm_up Mz 3 q (nI j), 104, [some (.inr (2, 1)), some (.inr (3, 8)), some (.inl (nI q)), some (.inl (nI j)), some (.inl (nI c))], [])) [oz 0, oz 0, oz 0, oz 0, oz 0, oz q] rfl ⟨(fun z => z h12), trivial, trivial, trivial, trivial, ⟨rfl, hq⟩, trivial⟩ ?_
          generalize e15 : mm_up Mz 3 q (nI j) = M14
          have a16 : cv M14 = ucv (A) 2 q (nI j) := by
            rw [← e15]
            refine (cv_up 2).trans ?_
            show ucv ((cv Mz)) 2 q (nI j) = _
            first | rfl | simp only [hA, b1]
          have w17 : cf M M14 := by rw [← e15]; exact cf_up hf (by decide)
          have b18 : yv 8 M14 = yv 8 M := cv_fr w17
          refine wgo (g' := (mm_up M14 4 q (nI c), 112, [some (.inr (2, 1)), some (.inr (3, 8)), some (.inl (nI q)), some (.inl (nI j)), some (.inl (nI c))], [])) [oz 0, oz 0, oz 0, oz 0, oz q] rfl ⟨trivial, trivial, trivial, trivial, ⟨rfl, hq⟩, trivial⟩ ?_
          generalize e20 : mm_up M14 4 q (nI c) = M19
          have a21 : cv M19 = ucv (ucv (A) 2 q (nI j)) 3 q (nI c) := by
            rw [← e20]
            refine (cv_up 3).trans ?_
            show ucv ((cv M14)) 3 q (nI c) = _
            first | rfl | simp only [hA, a16, b1, b18]
          have w22 : cf M M19 := by rw [← e20]; exact cf_up w17 (by decide)
          have b23 : yv 8 M19 = yv 8 M := cv_fr w22
          refine wgo (g' := (M19, 117, [some (.inr (2, 1)), some (.inr (3, 8)), some (.inl (nI q)), some (.inl (nI j)), some (.inl (nI c))], [.inl ((nI q) + 1), .inr (3, 8), .inr (2, 1)])) [oz 0, oz 0, oz 0, oz 0, oz 0] rfl ⟨trivial, trivial, trivial, trivial, trivial, trivial⟩ ?_
          obtain ⟨M24, s25, a26, w27⟩ := hrec M19 b23 (by rw [a21]; exact (hH2 _ _ hH (nI_sl hn0 (by omega) hi k5) k10 k13).1)
          rw [← nI_1 q] at s25
          have a26 : cv M24 = g (ucv (ucv (A) 2 q (nI j)) 3 q (nI c)) := a26.trans (by rw [a21])
          have w27 : cf M M24 := cf_tr w22 w27
          have b28 : yv 8 M24 = yv 8 M := cv_fr w27
          refine wgo (g' := (M24, 58, [some (.inr (2, 1)), some (.inr (3, 8)), some (.inl (nI q)), some (.inl (nI j)), some (.inl ((nI c) + 1))], [])) [oc (none, M24), oz 0, oz 0] rfl ⟨⟨s25, Nat.le_of_ble_eq_true rfl, Nat.le_of_ble_eq_true rfl, ⟨_, rfl⟩⟩, trivial, trivial, trivial⟩ ?_
          rw [nI_1 c]
          have x29 : f_ec g (r + 1) A (yv 8 M) q j c = f_ec g r (g (ucv (ucv (A) 2 q (nI j)) 3 q (nI c))) (yv 8 M) q j (c + 1) := by
            rw [f_ec]
            rw [if_neg k5, if_neg k10, if_pos k13]
          exact ih _ M24 (c + 1) a26 w27 (hH2 _ _ hH (nI_sl hn0 (by omega) hi k5) k10 k13).2 (nI_sl hn0 (by omega) hi k5) (by omega) Q (fun M2 v0 z1 z2 => hQ M2 v0 (z1.trans x29.symm) z2)
        · have k30 : ¬ ((f_Pl_isTriedAlready (A).1 q (nI j) (nI c)) = 0) := by
            have q : ¬ ((f_Pl_isTriedAlready (cv Mz).1 q (nI j) (nI c)) = 0) := h12
            first | exact q | (simp only [hA, b1] at q; exact q)
          refine wgo (g' := (Mz, 58, [some (.inr (2, 1)), some (.inr (3, 8)), some (.inl (nI q)), some (.inl (nI j)), some (.inl ((nI c) + 1))], [])) [oz 1, oz 0, oz 0] rfl ⟨h12, trivial, trivial, trivial⟩ ?_
          rw [nI_1 c]
          have x31 : f_ec g (r + 1) A (yv 8 M) q j c = f_ec g r (A) (yv 8 M) q j (c + 1) := by
            rw [f_ec]
            rw [if_neg k5, if_neg k10, if_neg k30]
          exact ih _ Mz (c + 1) hA hf hH (nI_sl hn0 (by omega) hi k5) (by omega) Q (fun M2 v0 z1 z2 => hQ M2 v0 (z1.trans x31.symm) z2)
