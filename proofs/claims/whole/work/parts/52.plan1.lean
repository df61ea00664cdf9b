/-! THE PLANNER SEEN: rows 0 its own numbers, 1 inWay, 2 wayJobs, 3 wayCranes, 4 best -/
def pv (M : mm_M) : mm_M := fun r k => if r < 5 then M (1 + r) k else 0
theorem pv_up (r : Nat) {M : mm_M} {k : Nat} {v : Int32} (hr : r < 5 := by decide) : pv (mm_up M (1 + r) k v) = mm_up (pv M) r k v := rw_up (o := 1) (n := 5) hr
def pf (M M' : mm_M) : Prop := ∀ i, ¬ (1 ≤ i ∧ i ≤ 5) → M' i = M i
theorem pf_rf {M : mm_M} : pf M M := fun _ _ => rfl
theorem pf_tr {M M1 M2 : mm_M} (h : pf M M1) (h2 : pf M1 M2) : pf M M2 := fun i hi => (h2 i hi).trans (h i hi)
theorem pf_up {i k : Nat} {v : Int32} {M M1 : mm_M} (h : pf M M1) (hi : 1 ≤ i ∧ i ≤ 5) : pf M (mm_up M1 i k v) := fun j hj => by
  have hne : j ≠ i := fun e => hj (by rw [e]; exact hi)
  rw [mm_up_z hne]
  exact h j hj
def PS (d z : Nat) (M : mm_M) (as : List mm_V) (r : Option Int32) (A' : mm_M) : Prop := ∃ M', ct_Sem d z M as (r, M') ∧ pv M' = A' ∧ pf M M'
def pQ (M : mm_M) (r : Option Int32) (A' : mm_M) : mm_R → Prop := fun res => res.1 = r ∧ pv res.2 = A' ∧ pf M res.2
theorem PS_of {d z : Nat} {M : mm_M} {as : List mm_V} {r : Option Int32} {A' : mm_M} (hn : as.length ≤ ct_T.2.2.1 z) (h : mm_Wp (ct_pg z) (ct_rt z) (ct_Sem d) (M, 0, as.map some ++ List.replicate (ct_T.2.2.1 z - as.length) none, []) (pQ M r A')) : PS (d + 1) z M as r A' := by
  obtain ⟨⟨r1, M1⟩, h1, h2, h3, h4⟩ := h
  simp only at h2 h3 h4
  subst h2
  exact ⟨M1, ⟨hn, h1⟩, h3, h4⟩
theorem in_eq (v a e : Int32) : f_Ct_within v a e = f_Mo_in v a e := rfl
def f_Pl_bestGiving (A : mm_M) (k : Int32) : Int32 := (if (f_Ct_within k 0 (((A) 0 6) - 1)) = 0 then (-1) else (A) 4 (ix k))
set_option maxRecDepth 20000 in
set_option maxHeartbeats 1000000 in
theorem sm_Pl_bestGiving {d : Nat} {M : mm_M} {k : Int32} {m : Nat} (hm : pv M 0 6 = nI m) (hm4 : m ≤ 4) : ct_Sem (d + 2) 10 M [.inr (2, 1), .inl k] (some (f_Pl_bestGiving (pv M) k), M) := by
  refine SM_of (Nat.le_of_ble_eq_true rfl) ?_
  show mm_Wp pg_Pl_bestGiving rt_Pl_bestGiving (ct_Sem (d + 1)) (M, 0, [some (.inr (2, 1)), some (.inl k)], []) _
  refine wgo (g' := (M, 8, [some (.inr (2, 1)), some (.inl k)], [.inl ((M 1 6) - 1), .inl 0, .inl k])) [oz 0, oz 0, oz 0, oz 0, oz 0, oz 0] rfl ⟨trivial, trivial, trivial, trivial, trivial, trivial, trivial⟩ ?_
  have s1 := sm_Ct_within (d := d)  (M := M) (v := k) (a := 0) (e := (M 1 6) - 1) 
  refine wgo (g' := (M, 11, [some (.inr (2, 1)), some (.inl k)], [.inl (f_Ct_within k 0 ((M 1 6) - 1))])) [oc (some (f_Ct_within k 0 ((M 1 6) - 1)), M)] rfl ⟨⟨s1, Nat.le_of_ble_eq_true rfl, Nat.le_of_ble_eq_true rfl, trivial⟩, trivial⟩ ?_
  by_cases h2 : (f_Ct_within k 0 ((M 1 6) - 1)) = 0
  · have k3 : (f_Ct_within k 0 ((((pv M)) 0 6) - 1)) = 0 := by
      have q : (f_Ct_within k 0 (((pv M) 0 6) - 1)) = 0 := h2
      exact q
    refine wgo (g' := (M, 24, [some (.inr (2, 1)), some (.inl k)], [.inl ((-1))])) [oz 1, oz 0] rfl ⟨h2, trivial, trivial⟩ ?_
    have x4 : f_Pl_bestGiving (pv M) k = (-1) := by
      unfold f_Pl_bestGiving
      rw [if_pos k3]
    exact wend ⟨_, rfl, rfl⟩ (congrArg (fun q => (some q, M)) x4.symm)
  · have k5 : ¬ ((f_Ct_within k 0 ((((pv M)) 0 6) - 1)) = 0) := by
      have q : ¬ ((f_Ct_within k 0 (((pv M) 0 6) - 1)) = 0) := h2
      exact q
    refine wgo (g' := (M, 24, [some (.inr (2, 1)), some (.inl k)], [.inl (M 5 (ix k))])) [oz 0, oz 0, oz 0, oz 0, oz (ix k), oz 0] rfl ⟨h2, trivial, trivial, trivial, (okx_mono (okin (by omega) hm (by rw [← in_eq]; exact k5)) hm4), trivial, trivial⟩ ?_
    have x6 : f_Pl_bestGiving (pv M) k = ((pv M)) 4 (ix k) := by
      unfold f_Pl_bestGiving
      rw [if_neg k5]
    exact wend ⟨_, rfl, rfl⟩ (congrArg (fun q => (some q, M)) x6.symm)
def f_Pl_isTriedAlready (A : mm_M) (q : Nat) (j : Int32) (c : Int32) : Int32 := (if (nI q) ≤ 0 then 0 else (if ((A) 3 (q - 1)) = c then 0 else (if ((A) 2 (q - 1)) ≤ j then 0 else 1)))
set_option maxRecDepth 20000 in
set_option maxHeartbeats 1000000 in
theorem sm_Pl_isTriedAlready {d : Nat} {M : mm_M} {q : Nat} {j : Int32} {c : Int32} (hq : q ≤ 4) : ct_Sem (d + 1) 12 M [.inr (2, 1), .inl (nI q), .inl j, .inl c] (some (f_Pl_isTriedAlready (pv M) q j c), M) := by
  refine SM_of (Nat.le_of_ble_eq_true rfl) ?_
  show mm_Wp pg_Pl_isTriedAlready rt_Pl_isTriedAlready (ct_Sem (d + 0)) (M, 0, [some (.inr (2, 1)), some (.inl (nI q)), some (.inl j), some (.inl c)], []) _
  refine wgo (g' := (M, 1, [some (.inr (2, 1)), some (.inl (nI q)), some (.inl j), some (.inl c)], [.inl (nI q)])) [oz 0] rfl ⟨trivial, trivial⟩ ?_
  by_cases h1 : (nI q) ≤ 0
  · have k2 : (nI q) ≤ 0 := by
      have q : (nI q) ≤ 0 := h1
      exact q
    refine wgo (g' := (M, 33, [some (.inr (2, 1)), some (.inl (nI q)), some (.inl j), some (.inl c)], [.inl 0])) [oz 1, oz 0] rfl ⟨h1, trivial, trivial⟩ ?_
    have x3 : f_Pl_isTriedAlready (pv M) q j c = 0 := by
      unfold f_Pl_isTriedAlready
      rw [if_pos k2]
    exact wend ⟨_, rfl, rfl, Or.inl rfl⟩ (congrArg (fun q => (some q, M)) x3.symm)
  · have k4 : ¬ ((nI q) ≤ 0) := by
      have q : ¬ ((nI q) ≤ 0) := h1
      exact q
    refine wgo (g' := (M, 13, [some (.inr (2, 1)), some (.inl (nI q)), some (.inl j), some (.inl c)], [.inl c, .inl (M 4 (q - 1))])) [oz 0, oz 0, oz 0, oz 0, oz 0, oz 0, oz (q - 1), oz 0] rfl ⟨h1, trivial, trivial, trivial, trivial, trivial, ⟨nI_m1 (nI_gt0 k4), (show q - 1 < 4 from by have z := nI_gt0 k4; omega)⟩, trivial, trivial⟩ ?_
    by_cases h5 : (M 4 (q - 1)) = c
    · have k6 : (((pv M)) 3 (q - 1)) = c := by
        have q : ((pv M) 3 (q - 1)) = c := h5
        exact q
      refine wgo (g' := (M, 33, [some (.inr (2, 1)), some (.inl (nI q)), some (.inl j), some (.inl c)], [.inl 0])) [oz 1, oz 0] rfl ⟨h5, trivial, trivial⟩ ?_
      have x7 : f_Pl_isTriedAlready (pv M) q j c = 0 := by
        unfold f_Pl_isTriedAlready
        rw [if_neg k4, if_pos k6]
      exact wend ⟨_, rfl, rfl, Or.inl rfl⟩ (congrArg (fun q => (some q, M)) x7.symm)
    · have k8 : ¬ ((((pv M)) 3 (q - 1)) = c) := by
        have q : ¬ (((pv M) 3 (q - 1)) = c) := h5
        exact q
      refine wgo (g' := (M, 25, [some (.inr (2, 1)), some (.inl (nI q)), some (.inl j), some (.inl c)], [.inl j, .inl (M 3 (q - 1))])) [oz 0, oz 0, oz 0, oz 0, oz 0, oz 0, oz (q - 1), oz 0] rfl ⟨h5, trivial, trivial, trivial, trivial, trivial, ⟨nI_m1 (nI_gt0 k4), (show q - 1 < 4 from by have z := nI_gt0 k4; omega)⟩, trivial, trivial⟩ ?_
      by_cases h9 : (M 3 (q - 1)) ≤ j
      · have k10 : (((pv M)) 2 (q - 1)) ≤ j := by
          have q : ((pv M) 2 (q - 1)) ≤ j := h9
          exact q
        refine wgo (g' := (M, 33, [some (.inr (2, 1)), some (.inl (nI q)), some (.inl j), some (.inl c)], [.inl 0])) [oz 1, oz 0] rfl ⟨h9, trivial, trivial⟩ ?_
        have x11 : f_Pl_isTriedAlready (pv M) q j c = 0 := by
          unfold f_Pl_isTriedAlready
          rw [if_neg k4, if_neg k8, if_pos k10]
        exact wend ⟨_, rfl, rfl, Or.inl rfl⟩ (congrArg (fun q => (some q, M)) x11.symm)
      · have k12 : ¬ ((((pv M)) 2 (q - 1)) ≤ j) := by
          have q : ¬ (((pv M) 2 (q - 1)) ≤ j) := h9
          exact q
        refine wgo (g' := (M, 33, [some (.inr (2, 1)), some (.inl (nI q)), some (.inl j), some (.inl c)], [.inl 1])) [oz 0, oz 0, oz 0] rfl ⟨h9, trivial, trivial, trivial⟩ ?_
        have x13 : f_Pl_isTriedAlready (pv M) q j c = 1 := by
          unfold f_Pl_isTriedAlready
          rw [if_neg k4, if_neg k8, if_neg k12]
        exact wend ⟨_, rfl, rfl, Or.inr rfl⟩ (congrArg (fun q => (some q, M)) x13.symm)
def f_kw : Nat → mm_M → Int32 → Nat → Int32 × mm_M
  | 0, A, _, _ => (0, A)
  | r + 1, A, x, i => (if ((A) 0 5) ≤ (nI i) then (0, A) else (f_kw r (mm_up (A) 4 i ((10 * ((A) 2 i)) + ((A) 3 i))) x (i + 1)))
set_option maxRecDepth 20000 in
set_option maxHeartbeats 1000000 in
theorem lp_kw {d : Nat} {M : mm_M} {x : Int32}   {m : Nat} (hm4 : m ≤ 4) : ∀ (r : Nat) (A : mm_M) (Mz : mm_M) (i : Nat), pv Mz = A → pf M Mz → (A 0 5 = nI m) → (i ≤ m) → (m < i + r) → mm_Wp pg_Pl_keepWay rt_Pl_keepWay (ct_Sem (d + 0)) (Mz, 22, [some (.inr (2, 1)), some (.inl x), some (.inl (nI i))], []) (pQ M (none) (f_kw r A x i).2) := by
  intro r
  induction r with
  | zero =>
    intro A Mz i hA hf hm hi hr
    exfalso; omega
  | succ r ih =>
    intro A Mz i hA hf hm hi hr
    refine wgo (g' := (Mz, 27, [some (.inr (2, 1)), some (.inl x), some (.inl (nI i))], [.inl (Mz 1 5), .inl (nI i)])) [oz 0, oz 0, oz 0] rfl ⟨trivial, trivial, trivial, trivial⟩ ?_
    by_cases h1 : (Mz 1 5) ≤ (nI i)
    · have k2 : ((A) 0 5) ≤ (nI i) := by
        have q : ((pv Mz) 0 5) ≤ (nI i) := h1
        first | exact q | (simp only [hA] at q; exact q)
      refine wgo (g' := (Mz, 58, [some (.inr (2, 1)), some (.inl x), some (.inl (nI i))], [])) [oz 1] rfl ⟨h1, trivial⟩ ?_
      have x3 : f_kw (r + 1) A x i = (0, A) := by
        rw [f_kw]
        rw [if_pos k2]
      exact wend ⟨rfl, rfl⟩ ⟨rfl, hA.trans (congrArg Prod.snd x3).symm, hf⟩
    · have k4 : ¬ (((A) 0 5) ≤ (nI i)) := by
        have q : ¬ (((pv Mz) 0 5) ≤ (nI i)) := h1
        first | exact q | (simp only [hA] at q; exact q)
      refine wgo (g' := (mm_up Mz 5 i ((10 * (Mz 3 i)) + (Mz 4 i)), 52, [some (.inr (2, 1)), some (.inl x), some (.inl (nI i))], [])) [oz 0, oz 0, oz 0, oz 0, oz 0, oz 0, oz 0, oz 0, oz i, oz 0, oz 0, oz 0, oz 0, oz i, oz 0, oz i] rfl ⟨h1, trivial, trivial, trivial, trivial, trivial, trivial, trivial, ⟨rfl, Nat.lt_of_lt_of_le (nI_sl hm (by omega) hi k4) hm4⟩, trivial, trivial, trivial, trivial, ⟨rfl, Nat.lt_of_lt_of_le (nI_sl hm (by omega) hi k4) hm4⟩, trivial, ⟨rfl, Nat.lt_of_lt_of_le (nI_sl hm (by omega) hi k4) hm4⟩, trivial⟩ ?_
      generalize e6 : mm_up Mz 5 i ((10 * (Mz 3 i)) + (Mz 4 i)) = M5
      have a7 : pv M5 = mm_up (A) 4 i ((10 * ((A) 2 i)) + ((A) 3 i)) := by
        rw [← e6]
        refine (pv_up 4).trans ?_
        show mm_up ((pv Mz)) 4 i ((10 * ((pv Mz) 2 i)) + ((pv Mz) 3 i)) = _
        first | rfl | simp only [hA]
      have w8 : pf M M5 := by rw [← e6]; exact pf_up hf (by decide)
      refine wgo (g' := (M5, 22, [some (.inr (2, 1)), some (.inl x), some (.inl ((nI i) + 1))], [])) [oz 0, oz 0] rfl ⟨trivial, trivial, trivial⟩ ?_
      rw [nI_1 i]
      have x9 : f_kw (r + 1) A x i = f_kw r (mm_up (A) 4 i ((10 * ((A) 2 i)) + ((A) 3 i))) x (i + 1) := by
        rw [f_kw]
        rw [if_neg k4]
      rw [x9]
      exact ih _ M5 (i + 1) a7 w8 hm (nI_sl hm (by omega) hi k4) (by omega)
def f_Pl_keepWay (A : mm_M) (x : Int32) : Int32 × mm_M := (f_kw 5 (mm_up (mm_up (mm_up (A) 0 7 x) 0 8 (x - 1)) 0 6 ((mm_up (mm_up (A) 0 7 x) 0 8 (x - 1)) 0 5)) x 0)
set_option maxRecDepth 20000 in
set_option maxHeartbeats 1000000 in
theorem ps_Pl_keepWay {d : Nat} {M : mm_M} {x : Int32}  {m : Nat} (hm : pv M 0 5 = nI m) (hm4 : m ≤ 4) : PS (d + 1) 14  M [.inr (2, 1), .inl x] (none) (f_Pl_keepWay (pv M) x).2 := by
  refine PS_of (Nat.le_of_ble_eq_true rfl) ?_
  show mm_Wp pg_Pl_keepWay rt_Pl_keepWay (ct_Sem (d + 0)) (M, 0, [some (.inr (2, 1)), some (.inl x), none], []) _
  refine wgo (g' := (mm_up M 1 7 x, 5, [some (.inr (2, 1)), some (.inl x), none], [])) [oz 0, oz 0, oz 0] rfl ⟨trivial, trivial, trivial, trivial⟩ ?_
  generalize e2 : mm_up M 1 7 x = M1
  have a3 : pv M1 = mm_up ((pv M)) 0 7 x := by
    rw [← e2]
    refine (pv_up 0).trans ?_
    show mm_up ((pv M)) 0 7 x = _
    rfl
  have w4 : pf M M1 := by rw [← e2]; exact pf_up pf_rf (by decide)
  refine wgo (g' := (mm_up M1 1 8 (x - 1), 12, [some (.inr (2, 1)), some (.inl x), none], [])) [oz 0, oz 0, oz 0, oz 0, oz 0] rfl ⟨trivial, trivial, trivial, trivial, trivial, trivial⟩ ?_
  generalize e6 : mm_up M1 1 8 (x - 1) = M5
  have a7 : pv M5 = mm_up (mm_up ((pv M)) 0 7 x) 0 8 (x - 1) := by
    rw [← e6]
    refine (pv_up 0).trans ?_
    show mm_up ((pv M1)) 0 8 (x - 1) = _
    first | rfl | simp only [a3]
  have w8 : pf M M5 := by rw [← e6]; exact pf_up w4 (by decide)
  refine wgo (g' := (mm_up M5 1 6 (M5 1 5), 20, [some (.inr (2, 1)), some (.inl x), none], [])) [oz 0, oz 0, oz 0, oz 0] rfl ⟨trivial, trivial, trivial, trivial, trivial⟩ ?_
  generalize e10 : mm_up M5 1 6 (M5 1 5) = M9
  have a11 : pv M9 = mm_up (mm_up (mm_up ((pv M)) 0 7 x) 0 8 (x - 1)) 0 6 ((mm_up (mm_up ((pv M)) 0 7 x) 0 8 (x - 1)) 0 5) := by
    rw [← e10]
    refine (pv_up 0).trans ?_
    show mm_up ((pv M5)) 0 6 ((pv M5) 0 5) = _
    first | rfl | simp only [a3, a7]
  have w12 : pf M M9 := by rw [← e10]; exact pf_up w8 (by decide)
  refine wgo (g' := (M9, 22, [some (.inr (2, 1)), some (.inl x), some (.inl 0)], [])) [oz 0, oz 0] rfl ⟨trivial, Nat.le_of_ble_eq_true rfl, trivial⟩ ?_
  have x13 : f_Pl_keepWay (pv M) x = f_kw 5 (mm_up (mm_up (mm_up ((pv M)) 0 7 x) 0 8 (x - 1)) 0 6 ((mm_up (mm_up ((pv M)) 0 7 x) 0 8 (x - 1)) 0 5)) x 0 := by
    unfold f_Pl_keepWay
    rfl
  rw [x13]
  exact lp_kw (d := d)  (M := M) (x := x)  hm4 5 _ M9 0  a11 w12 hm (Nat.zero_le _) (by omega)
