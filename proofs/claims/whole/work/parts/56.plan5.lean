theorem ec_H {g : mm_M × ya → mm_M × ya} {B : ya} {q j n : Nat} {H G : mm_M × ya → Prop} (hn3 : n ≤ 3) (hn0 : sc B 0 = nI n) (hH2 : ∀ A c, H A → c < n → ¬ f_Cr_reaches B c j = 0 → f_Pl_isTriedAlready A.1 q (nI j) (nI c) = 0 → G (ucv (ucv A 2 q (nI j)) 3 q (nI c)) ∧ H (g (ucv (ucv A 2 q (nI j)) 3 q (nI c)))) : ∀ (r : Nat) (A : mm_M × ya) (c : Nat), H A → c ≤ n → H (f_ec g r A B q j c) := by
  intro r
  induction r with
  | zero => exact fun A c h _ => h
  | succ r ih =>
    intro A c h hc
    rw [f_ec]
    by_cases h1 : sc B 0 ≤ nI c
    · rw [if_pos h1]; exact h
    · rw [if_neg h1]
      have lt := nI_sl hn0 (by omega) hc h1
      by_cases h2 : f_Cr_reaches B c j = 0
      · rw [if_pos h2]; exact ih _ _ h lt
      · rw [if_neg h2]
        by_cases h3 : f_Pl_isTriedAlready A.1 q (nI j) (nI c) = 0
        · rw [if_pos h3]; exact ih _ _ (hH2 _ _ h lt h2 h3).2 lt
        · rw [if_neg h3]; exact ih _ _ h lt
def f_ej (g : (mm_M × ya) → (mm_M × ya)) : Nat → (mm_M × ya) → ya → Nat → Nat → (mm_M × ya)
  | 0, A, _, _, _ => A
  | r + 1, A, B, q, j => (if (sc B 6) ≤ (nI j) then (A) else (if (jb B j 3) = 0 then (if ((A).1 1 j) = 0 then (f_ej g r (ucv (f_ec g 4 (ucv (A) 1 j 1) B q j 0) 1 j 0) B q (j + 1)) else (f_ej g r (A) B q (j + 1))) else (f_ej g r (A) B q (j + 1))))
set_option maxRecDepth 20000 in
set_option maxHeartbeats 1000000 in
theorem lk_ej {d : Nat} {M : mm_M} {g : (mm_M × ya) → (mm_M × ya)} {q : Nat} {n jn : Nat} {G O : mm_M × ya → Prop} {H : Nat → mm_M × ya → Prop} (hn3 : n ≤ 3) (hn0 : sc (yv 8 M) 0 = nI n) (hjn : sc (yv 8 M) 6 = nI jn) (hj8 : jn ≤ 8) (hq : q < 4) (hrec : ∀ M1, yv 8 M1 = yv 8 M → G (cv M1) → CS (d + 5) 11 M1 [.inr (2, 1), .inr (3, 8), .inl (nI (q + 1))] none (g (cv M1))) (hH2 : ∀ j A c, j < jn → H j A → c < n → ¬ f_Cr_reaches (yv 8 M) c j = 0 → f_Pl_isTriedAlready A.1 q (nI j) (nI c) = 0 → G (ucv (ucv A 2 q (nI j)) 3 q (nI c)) ∧ H j (g (ucv (ucv A 2 q (nI j)) 3 q (nI c)))) (hO1 : ∀ A j, O A → j < jn → jb (yv 8 M) j 3 = 0 → A.1 1 j = 0 → H j (ucv A 1 j 1)) (hO2 : ∀ A j, H j A → j < jn → O (ucv A 1 j 0)) : ∀ (r : Nat) (A : (mm_M × ya)) (Mz : mm_M) (j : Nat) (o4 : Option mm_V), cv Mz = A → cf M Mz → (O A) → (j ≤ jn) → (jn < j + r) → ∀ (Q : mm_R → Prop), (∀ (M2 : mm_M) (v3 : Option mm_V) (v4 : Option mm_V), cv M2 = f_ej g r A (yv 8 M) q j → cf M M2 → mm_Wp pg_Pl_extendWay rt_Pl_extendWay (ct_Sem (d + 5)) (M2, 139, [some (.inr (2, 1)), some (.inr (3, 8)), some (.inl (nI q)), v3, v4], []) Q) → mm_Wp pg_Pl_extendWay rt_Pl_extendWay (ct_Sem (d + 5)) (Mz, 16, [some (.inr (2, 1)), some (.inr (3, 8)), some (.inl (nI q)), some (.inl (nI j)), o4], []) Q := by
  intro r
  induction r with
  | zero =>
    intro A Mz j o4 hA hf hO hi hr Q hQ
    exfalso; omega
  | succ r ih =>
    intro A Mz j o4 hA hf hO hi hr Q hQ
    have b1 : yv 8 Mz = yv 8 M := cv_fr hf
    refine wgo (g' := (Mz, 21, [some (.inr (2, 1)), some (.inr (3, 8)), some (.inl (nI q)), some (.inl (nI j)), o4], [.inl (Mz 8 6), .inl (nI j)])) [oz 0, oz 0, oz 0] rfl ⟨trivial, trivial, trivial, trivial⟩ ?_
    by_cases h2 : (Mz 8 6) ≤ (nI j)
    · have k3 : (sc (yv 8 M) 6) ≤ (nI j) := by
        have q : (sc (yv 8 Mz) 6) ≤ (nI j) := h2
        first | exact q | (simp only [hA, b1] at q; exact q)
      refine wgo (g' := (Mz, 139, [some (.inr (2, 1)), some (.inr (3, 8)), some (.inl (nI q)), some (.inl (nI j)), o4], [])) [oz 1] rfl ⟨h2, trivial⟩ ?_
      have x4 : f_ej g (r + 1) A (yv 8 M) q j = A := by
        rw [f_ej]
        rw [if_pos k3]
      exact hQ Mz (some (.inl (nI j))) (o4) (hA.trans x4.symm) hf
    · have k5 : ¬ ((sc (yv 8 M) 6) ≤ (nI j)) := by
        have q : ¬ ((sc (yv 8 Mz) 6) ≤ (nI j)) := h2
        first | exact q | (simp only [hA, b1] at q; exact q)
      refine wgo (g' := (Mz, 33, [some (.inr (2, 1)), some (.inr (3, 8)), some (.inl (nI q)), some (.inl (nI j)), o4], [.inl (Mz (8 + 6 + 32 * j) 3)])) [oz 0, oz 0, oz 0, oz 0, oz j, oz 0] rfl ⟨h2, trivial, trivial, trivial, ⟨rfl, Nat.lt_of_lt_of_le (nI_sl hjn (by omega) hi k5) hj8⟩, trivial, trivial⟩ ?_
      by_cases h6 : (Mz (8 + 6 + 32 * j) 3) = 0
      · have k7 : (jb (yv 8 M) j 3) = 0 := by
          have q : (jb (yv 8 Mz) j 3) = 0 := h6
          first | exact q | (simp only [hA, b1] at q; exact q)
        refine wgo (g' := (Mz, 42, [some (.inr (2, 1)), some (.inr (3, 8)), some (.inl (nI q)), some (.inl (nI j)), o4], [.inl (Mz 2 j)])) [oz 0, oz 0, oz 0, oz 0, oz j] rfl ⟨(fun z => z h6), trivial, trivial, trivial, ⟨rfl, Nat.lt_of_lt_of_le (nI_sl hjn (by omega) hi k5) hj8⟩, trivial⟩ ?_
        by_cases h8 : (Mz 2 j) = 0
        · have k9 : ((A).1 1 j) = 0 := by
            have q : ((cv Mz).1 1 j) = 0 := h8
            first | exact q | (simp only [hA, b1] at q; exact q)
          refine wgo (g' := (mm_up Mz 2 j 1, 55, [some (.inr (2, 1)), some (.inr (3, 8)), some (.inl (nI q)), some (.inl (nI j)), o4], [])) [oz 1, oz 0, oz 0, oz 0, oz 0, oz j] rfl ⟨h8, trivial, trivial, trivial, trivial, ⟨⟨rfl, Nat.lt_of_lt_of_le (nI_sl hjn (by omega) hi k5) hj8⟩, Or.inr rfl⟩, trivial⟩ ?_
          generalize e11 : mm_up Mz 2 j 1 = M10
          have a12 : cv M10 = ucv (A) 1 j 1 := by
            rw [← e11]
            refine (cv_up 1).trans ?_
            show ucv ((cv Mz)) 1 j 1 = _
            first | rfl | simp only [hA, b1]
          have w13 : cf M M10 := by rw [← e11]; exact cf_up hf (by decide)
          have b14 : yv 8 M10 = yv 8 M := cv_fr w13
          refine wgo (g' := (M10, 58, [some (.inr (2, 1)), some (.inr (3, 8)), some (.inl (nI q)), some (.inl (nI j)), some (.inl 0)], [])) [oz 0, oz 0] rfl ⟨trivial, Nat.le_of_ble_eq_true rfl, trivial⟩ ?_
          refine lk_ec (d := d) (M := M) (q := q) (j := j) hn3 hn0 hq (Nat.lt_of_lt_of_le (nI_sl hjn (by omega) hi k5) hj8) hrec (fun A c h z z1 z2 => hH2 _ _ _ (nI_sl hjn (by omega) hi k5) h z z1 z2) 4 _ M10 0  a12 w13 (hO1 _ _ hO (nI_sl hjn (by omega) hi k5) k7 k9) (Nat.zero_le _) (by omega) _ (fun M15 v18 a16 w17 => ?_)
          have b19 : yv 8 M15 = yv 8 M := cv_fr w17
          refine wgo (g' := (mm_up M15 2 j 0, 133, [some (.inr (2, 1)), some (.inr (3, 8)), some (.inl (nI q)), some (.inl (nI j)), v18], [])) [oz 0, oz 0, oz 0, oz 0, oz j] rfl ⟨trivial, trivial, trivial, trivial, ⟨⟨rfl, Nat.lt_of_lt_of_le (nI_sl hjn (by omega) hi k5) hj8⟩, Or.inl rfl⟩, trivial⟩ ?_
          generalize e21 : mm_up M15 2 j 0 = M20
          have a22 : cv M20 = ucv (f_ec g 4 (ucv (A) 1 j 1) (yv 8 M) q j 0) 1 j 0 := by
            rw [← e21]
            refine (cv_up 1).trans ?_
            show ucv ((cv M15)) 1 j 0 = _
            first | rfl | simp only [hA, a12, a16, b1, b14, b19]
          have w23 : cf M M20 := by rw [← e21]; exact cf_up w17 (by decide)
          have b24 : yv 8 M20 = yv 8 M := cv_fr w23
          refine wgo (g' := (M20, 16, [some (.inr (2, 1)), some (.inr (3, 8)), some (.inl (nI q)), some (.inl ((nI j) + 1)), v18], [])) [oz 0, oz 0] rfl ⟨trivial, trivial, trivial⟩ ?_
          rw [nI_1 j]
          have x25 : f_ej g (r + 1) A (yv 8 M) q j = f_ej g r (ucv (f_ec g 4 (ucv (A) 1 j 1) (yv 8 M) q j 0) 1 j 0) (yv 8 M) q (j + 1) := by
            rw [f_ej]
            rw [if_neg k5, if_pos k7, if_pos k9]
          exact ih _ M20 (j + 1) (v18) a22 w23 (hO2 _ _ (ec_H hn3 hn0 (fun A c h z z1 z2 => hH2 _ _ _ (nI_sl hjn (by omega) hi k5) h z z1 z2) 4 _ 0 (hO1 _ _ hO (nI_sl hjn (by omega) hi k5) k7 k9) (Nat.zero_le _)) (nI_sl hjn (by omega) hi k5)) (nI_sl hjn (by omega) hi k5) (by omega) Q (fun M2 v0 v1 z1 z2 => hQ M2 v0 v1 (z1.trans x25.symm) z2)
        · have k26 : ¬ (((A).1 1 j) = 0) := by
            have q : ¬ (((cv Mz).1 1 j) = 0) := h8
            first | exact q | (simp only [hA, b1] at q; exact q)
          refine wgo (g' := (Mz, 16, [some (.inr (2, 1)), some (.inr (3, 8)), some (.inl (nI q)), some (.inl ((nI j) + 1)), o4], [])) [oz 0, oz 0, oz 0, oz 0] rfl ⟨h8, trivial, trivial, trivial, trivial⟩ ?_
          rw [nI_1 j]
          have x27 : f_ej g (r + 1) A (yv 8 M) q j = f_ej g r (A) (yv 8 M) q (j + 1) := by
            rw [f_ej]
            rw [if_neg k5, if_pos k7, if_neg k26]
          exact ih _ Mz (j + 1) (o4) hA hf hO (nI_sl hjn (by omega) hi k5) (by omega) Q (fun M2 v0 v1 z1 z2 => hQ M2 v0 v1 (z1.trans x27.symm) z2)
      · have k28 : ¬ ((jb (yv 8 M) j 3) = 0) := by
          have q : ¬ ((jb (yv 8 Mz) j 3) = 0) := h6
          first | exact q | (simp only [hA, b1] at q; exact q)
        refine wgo (g' := (Mz, 16, [some (.inr (2, 1)), some (.inr (3, 8)), some (.inl (nI q)), some (.inl ((nI j) + 1)), o4], [])) [oz 1, oz 0, oz 0] rfl ⟨h6, trivial, trivial, trivial⟩ ?_
        rw [nI_1 j]
        have x29 : f_ej g (r + 1) A (yv 8 M) q j = f_ej g r (A) (yv 8 M) q (j + 1) := by
          rw [f_ej]
          rw [if_neg k5, if_neg k28]
        exact ih _ Mz (j + 1) (o4) hA hf hO (nI_sl hjn (by omega) hi k5) (by omega) Q (fun M2 v0 v1 z1 z2 => hQ M2 v0 v1 (z1.trans x29.symm) z2)
