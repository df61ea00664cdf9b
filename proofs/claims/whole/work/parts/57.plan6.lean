/-- extendWay with givings to give -/
theorem cs_ext_S {d : Nat} {M : mm_M} {g : mm_M × ya → mm_M × ya} {q n jn : Nat} {G O : mm_M × ya → Prop} {H : Nat → mm_M × ya → Prop} (h5 : nI q < (cv M).1 0 5) (hn3 : n ≤ 3) (hn0 : sc (yv 8 M) 0 = nI n) (hjn : sc (yv 8 M) 6 = nI jn) (hj8 : jn ≤ 8) (hq : q < 4)
    (hrec : ∀ M1, yv 8 M1 = yv 8 M → G (cv M1) → CS (d + 5) 11 M1 [.inr (2, 1), .inr (3, 8), .inl (nI (q + 1))] none (g (cv M1)))
    (hH2 : ∀ j A c, j < jn → H j A → c < n → ¬ f_Cr_reaches (yv 8 M) c j = 0 → f_Pl_isTriedAlready A.1 q (nI j) (nI c) = 0 → G (ucv (ucv A 2 q (nI j)) 3 q (nI c)) ∧ H j (g (ucv (ucv A 2 q (nI j)) 3 q (nI c)))) (hO1 : ∀ A j, O A → j < jn → jb (yv 8 M) j 3 = 0 → A.1 1 j = 0 → H j (ucv A 1 j 1)) (hO2 : ∀ A j, H j A → j < jn → O (ucv A 1 j 0)) (hO : O (cv M)) :
    CS (d + 5 + 1) 11 M [.inr (2, 1), .inr (3, 8), .inl (nI q)] none (f_ej g 9 (cv M) (yv 8 M) q 0) := by
  refine CS_of (Nat.le_of_ble_eq_true rfl) ?_
  show mm_Wp pg_Pl_extendWay rt_Pl_extendWay (ct_Sem (d + 5)) (M, 0, [some (.inr (2, 1)), some (.inr (3, 8)), some (.inl (nI q)), none, none], []) _
  refine wgo (g' := (M, 16, [some (.inr (2, 1)), some (.inr (3, 8)), some (.inl (nI q)), some (.inl 0), none], [])) [oz 0, oz 0, oz 0, oz 1, oz 0, oz 0] rfl ⟨trivial, trivial, trivial, h5, trivial, Nat.le_of_ble_eq_true rfl, trivial⟩ ?_
  refine lk_ej (d := d) (M := M) hn3 hn0 hjn hj8 hq hrec hH2 hO1 hO2 9 _ M 0 none rfl cf_rf hO (Nat.zero_le _) (by omega) _ (fun M2 v0 v1 h1 h2 => ?_)
  exact wend ⟨rfl, rfl⟩ ⟨rfl, h1, h2⟩
/-- extendWay with a whole way -/
theorem cs_ext_0 {d : Nat} {M : mm_M} {q : Nat} {T : mm_M × ya} (h5 : ¬ nI q < (cv M).1 0 5) (htry : CS (d + 5) 13 M [.inr (2, 1), .inr (3, 8)] none T) : CS (d + 5 + 1) 11 M [.inr (2, 1), .inr (3, 8), .inl (nI q)] none T := by
  obtain ⟨M1, s1, a1, w1⟩ := htry
  refine CS_of (Nat.le_of_ble_eq_true rfl) ?_
  show mm_Wp pg_Pl_extendWay rt_Pl_extendWay (ct_Sem (d + 5)) (M, 0, [some (.inr (2, 1)), some (.inr (3, 8)), some (.inl (nI q)), none, none], []) _
  refine wgo (g' := (M1, 13, [some (.inr (2, 1)), some (.inr (3, 8)), some (.inl (nI q)), none, none], [])) [oz 0, oz 0, oz 0, oz 0, oz 0, oz 0, oc (none, M1)] rfl ⟨trivial, trivial, trivial, h5, trivial, trivial, ⟨s1, Nat.le_of_ble_eq_true rfl, Nat.le_of_ble_eq_true rfl, ⟨_, rfl⟩⟩, trivial⟩ ?_
  exact wend ⟨rfl, rfl⟩ ⟨rfl, a1, w1⟩
/-- the planner as search begins -/
def srch0 (A : mm_M × ya) (B : ya) (x : Int32) : mm_M × ya := ucv (ucv (ucv (ucv A 0 5 (if 4 < f_Yd_countFree B then 4 else f_Yd_countFree B)) 0 6 0) 0 7 (-1)) 0 8 x
theorem cs_search {d : Nat} {M : mm_M} {x : Int32} {n : Nat} {T : mm_M × ya} (hn : sc (yv 8 M) 6 = nI n) (hn8 : n ≤ 8)
    (hext : ∀ M1, yv 8 M1 = yv 8 M → cv M1 = srch0 (cv M) (yv 8 M) x → CS (d + 1) 11 M1 [.inr (2, 1), .inr (3, 8), .inl (nI 0)] none T) : CS (d + 1 + 1) 9 M [.inr (2, 1), .inr (3, 8), .inl x] (some (T.1 0 7)) T := by
  have s1 := sm_Yd_countFree (d := d) (b := 8) (M := M) hn hn8
  refine CS_of (Nat.le_of_ble_eq_true rfl) ?_
  show mm_Wp pg_Pl_search rt_Pl_search (ct_Sem (d + 1)) (M, 0, [some (.inr (2, 1)), some (.inr (3, 8)), some (.inl x)], []) _
  refine wgo (g' := (M, 5, [some (.inr (2, 1)), some (.inr (3, 8)), some (.inl x)], [.inl (f_Yd_countFree (yv 8 M)), .inr (2, 1)])) [oz 0, oz 0, oc (some (f_Yd_countFree (yv 8 M)), M)] rfl ⟨trivial, trivial, ⟨s1, Nat.le_of_ble_eq_true rfl, Nat.le_of_ble_eq_true rfl, ⟨_, rfl⟩⟩, trivial⟩ ?_
  refine wgo (g' := (mm_up (mm_up (mm_up (mm_up M 1 5 (if 4 < f_Yd_countFree (yv 8 M) then 4 else f_Yd_countFree (yv 8 M))) 1 6 0) 1 7 (-1)) 1 8 x, 30, [some (.inr (2, 1)), some (.inr (3, 8)), some (.inl x)], [.inl 0, .inr (3, 8), .inr (2, 1)])) [oz 0, oz 0, oz 0, oz 0, oz 0, oz 0, oz 0, oz 0, oz 0, oz 0, oz 0, oz 0, oz 0, oz 0, oz 0] rfl ⟨trivial, Nat.le_of_ble_eq_true rfl, trivial, trivial, trivial, trivial, trivial, trivial, trivial, trivial, trivial, trivial, trivial, trivial, trivial, trivial⟩ ?_
  generalize hv : (if 4 < f_Yd_countFree (yv 8 M) then (4 : Int32) else f_Yd_countFree (yv 8 M)) = v
  generalize hM : mm_up (mm_up (mm_up (mm_up M 1 5 v) 1 6 0) 1 7 (-1)) 1 8 x = M4
  have w4 : cf M M4 := by rw [← hM]; exact cf_up (cf_up (cf_up (cf_up cf_rf (by decide)) (by decide)) (by decide)) (by decide)
  have a4 : cv M4 = srch0 (cv M) (yv 8 M) x := by
    rw [← hM]
    unfold srch0
    rw [hv]
    exact (cv_up 0).trans (by rw [show cv (mm_up (mm_up (mm_up M 1 5 v) 1 6 0) 1 7 (-1)) = _ from cv_up 0, show cv (mm_up (mm_up M 1 5 v) 1 6 0) = _ from cv_up 0, show cv (mm_up M 1 5 v) = _ from cv_up 0])
  obtain ⟨M5, s5, a5, w5⟩ := hext M4 (cv_fr w4) a4
  refine wgo (g' := (M5, 37, [some (.inr (2, 1)), some (.inr (3, 8)), some (.inl x)], [.inl (M5 1 7)])) [oc (none, M5), oz 0, oz 0] rfl ⟨⟨s5, Nat.le_of_ble_eq_true rfl, Nat.le_of_ble_eq_true rfl, ⟨_, rfl⟩⟩, trivial, trivial, trivial⟩ ?_
  exact wend ⟨_, rfl, rfl⟩ ⟨congrArg some (show (cv M5).1 0 7 = T.1 0 7 from by rw [a5]), a5, cf_tr w4 w5⟩
