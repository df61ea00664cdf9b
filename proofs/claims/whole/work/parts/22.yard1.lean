def f_Ct_within  (v : Int32) (a : Int32) (e : Int32) : Int32 := (if v < a then 0 else (if e < v then 0 else 1))
set_option maxRecDepth 20000 in
set_option maxHeartbeats 1000000 in
theorem sm_Ct_within {d : Nat} {M : mm_M} {v : Int32} {a : Int32} {e : Int32}  : ct_Sem (d + 1) 1 M [.inl v, .inl a, .inl e] (some (f_Ct_within  v a e), M) := by
  refine SM_of (Nat.le_of_ble_eq_true rfl) ?_
  show mm_Wp pg_Ct_within rt_Ct_within (ct_Sem (d + 0)) (M, 0, [some (.inl v), some (.inl a), some (.inl e)], []) _
  refine wgo (g' := (M, 2, [some (.inl v), some (.inl a), some (.inl e)], [.inl a, .inl v])) [oz 0, oz 0] rfl ⟨trivial, trivial, trivial⟩ ?_
  by_cases h1 : v < a
  · have k2 : v < a := by
      have q : v < a := h1
      exact q
    refine wgo (g' := (M, 15, [some (.inl v), some (.inl a), some (.inl e)], [.inl 0])) [oz 1, oz 0] rfl ⟨h1, trivial, trivial⟩ ?_
    have x3 : f_Ct_within v a e = 0 := by
      unfold f_Ct_within
      rw [if_pos k2]
    exact wend ⟨_, rfl, rfl, Or.inl rfl⟩ (congrArg (fun q => (some q, M)) x3.symm)
  · have k4 : ¬ (v < a) := by
      have q : ¬ (v < a) := h1
      exact q
    refine wgo (g' := (M, 7, [some (.inl v), some (.inl a), some (.inl e)], [.inl e, .inl v])) [oz 0, oz 0, oz 0] rfl ⟨h1, trivial, trivial, trivial⟩ ?_
    by_cases h5 : e < v
    · have k6 : e < v := by
        have q : e < v := h5
        exact q
      refine wgo (g' := (M, 15, [some (.inl v), some (.inl a), some (.inl e)], [.inl 0])) [oz 1, oz 0] rfl ⟨h5, trivial, trivial⟩ ?_
      have x7 : f_Ct_within v a e = 0 := by
        unfold f_Ct_within
        rw [if_neg k4, if_pos k6]
      exact wend ⟨_, rfl, rfl, Or.inl rfl⟩ (congrArg (fun q => (some q, M)) x7.symm)
    · have k8 : ¬ (e < v) := by
        have q : ¬ (e < v) := h5
        exact q
      refine wgo (g' := (M, 15, [some (.inl v), some (.inl a), some (.inl e)], [.inl 1])) [oz 0, oz 0, oz 0] rfl ⟨h5, trivial, trivial, trivial⟩ ?_
      have x9 : f_Ct_within v a e = 1 := by
        unfold f_Ct_within
        rw [if_neg k4, if_neg k8]
      exact wend ⟨_, rfl, rfl, Or.inr rfl⟩ (congrArg (fun q => (some q, M)) x9.symm)
theorem f_in01 (v a e : Int32) : f_Ct_within v a e = 0 ∨ f_Ct_within v a e = 1 := by
  unfold f_Ct_within
  split
  · exact Or.inl rfl
  · split
    · exact Or.inl rfl
    · exact Or.inr rfl
def f_Cr_hasGoal (A : ya) (c : Nat) : Int32 := (if (cr (A) c 5) = 1 then 1 else (if (cr (A) c 5) = 3 then 1 else 0))
set_option maxRecDepth 20000 in
set_option maxHeartbeats 1000000 in
theorem sm_Cr_hasGoal {d b : Nat} {M : mm_M} {c : Nat}  : ct_Sem (d + 1) 4 M [.inr (0, b + 3 + 32 * c)] (some (f_Cr_hasGoal (yv b M) c), M) := by
  refine SM_of (Nat.le_of_ble_eq_true rfl) ?_
  show mm_Wp pg_Cr_hasGoal rt_Cr_hasGoal (ct_Sem (d + 0)) (M, 0, [some (.inr (0, b + 3 + 32 * c))], []) _
  refine wgo (g' := (M, 5, [some (.inr (0, b + 3 + 32 * c))], [.inl 1, .inl (M (b + 3 + 32 * c) 5)])) [oz 0, oz 0, oz 0] rfl ⟨trivial, trivial, trivial, trivial⟩ ?_
  by_cases h1 : (M (b + 3 + 32 * c) 5) = 1
  · have k2 : (cr ((yv b M)) c 5) = 1 := by
      have q : (cr (yv b M) c 5) = 1 := h1
      exact q
    refine wgo (g' := (M, 21, [some (.inr (0, b + 3 + 32 * c))], [.inl 1])) [oz 1, oz 0, oz 0] rfl ⟨h1, trivial, trivial, trivial⟩ ?_
    have x3 : f_Cr_hasGoal (yv b M) c = 1 := by
      unfold f_Cr_hasGoal
      rw [if_pos k2]
    exact wend ⟨_, rfl, rfl, Or.inr rfl⟩ (congrArg (fun q => (some q, M)) x3.symm)
  · have k4 : ¬ ((cr ((yv b M)) c 5) = 1) := by
      have q : ¬ ((cr (yv b M) c 5) = 1) := h1
      exact q
    refine wgo (g' := (M, 13, [some (.inr (0, b + 3 + 32 * c))], [.inl 3, .inl (M (b + 3 + 32 * c) 5)])) [oz 0, oz 0, oz 0, oz 0] rfl ⟨h1, trivial, trivial, trivial, trivial⟩ ?_
    by_cases h5 : (M (b + 3 + 32 * c) 5) = 3
    · have k6 : (cr ((yv b M)) c 5) = 3 := by
        have q : (cr (yv b M) c 5) = 3 := h5
        exact q
      refine wgo (g' := (M, 21, [some (.inr (0, b + 3 + 32 * c))], [.inl 1])) [oz 0, oz 0, oz 0] rfl ⟨(fun z => z h5), trivial, trivial, trivial⟩ ?_
      have x7 : f_Cr_hasGoal (yv b M) c = 1 := by
        unfold f_Cr_hasGoal
        rw [if_neg k4, if_pos k6]
      exact wend ⟨_, rfl, rfl, Or.inr rfl⟩ (congrArg (fun q => (some q, M)) x7.symm)
    · have k8 : ¬ ((cr ((yv b M)) c 5) = 3) := by
        have q : ¬ ((cr (yv b M) c 5) = 3) := h5
        exact q
      refine wgo (g' := (M, 21, [some (.inr (0, b + 3 + 32 * c))], [.inl 0])) [oz 1, oz 0] rfl ⟨h5, trivial, trivial⟩ ?_
      have x9 : f_Cr_hasGoal (yv b M) c = 0 := by
        unfold f_Cr_hasGoal
        rw [if_neg k4, if_neg k8]
      exact wend ⟨_, rfl, rfl, Or.inl rfl⟩ (congrArg (fun q => (some q, M)) x9.symm)
def f_Cr_reaches (A : ya) (c : Nat) (j : Nat) : Int32 := (if (f_Ct_within (jb (A) j 0) (cr (A) c 1) (cr (A) c 2)) = 0 then 0 else (if (f_Ct_within (jb (A) j 1) (cr (A) c 1) (cr (A) c 2)) = 0 then 0 else 1))
set_option maxRecDepth 20000 in
set_option maxHeartbeats 1000000 in
theorem sm_Cr_reaches {d b : Nat} {M : mm_M} {c : Nat} {j : Nat}  : ct_Sem (d + 2) 3 M [.inr (0, b + 3 + 32 * c), .inr (1, b + 6 + 32 * j)] (some (f_Cr_reaches (yv b M) c j), M) := by
  refine SM_of (Nat.le_of_ble_eq_true rfl) ?_
  show mm_Wp pg_Cr_reaches rt_Cr_reaches (ct_Sem (d + 1)) (M, 0, [some (.inr (0, b + 3 + 32 * c)), some (.inr (1, b + 6 + 32 * j))], []) _
  refine wgo (g' := (M, 12, [some (.inr (0, b + 3 + 32 * c)), some (.inr (1, b + 6 + 32 * j))], [.inl (M (b + 3 + 32 * c) 2), .inl (M (b + 3 + 32 * c) 1), .inl (M (b + 6 + 32 * j) 0)])) [oz 0, oz 0, oz 0, oz 0, oz 0, oz 0] rfl ⟨trivial, trivial, trivial, trivial, trivial, trivial, trivial⟩ ?_
  have s1 := sm_Ct_within (d := d)  (M := M) (v := M (b + 6 + 32 * j) 0) (a := M (b + 3 + 32 * c) 1) (e := M (b + 3 + 32 * c) 2) 
  refine wgo (g' := (M, 15, [some (.inr (0, b + 3 + 32 * c)), some (.inr (1, b + 6 + 32 * j))], [.inl (f_Ct_within (M (b + 6 + 32 * j) 0) (M (b + 3 + 32 * c) 1) (M (b + 3 + 32 * c) 2))])) [oc (some (f_Ct_within (M (b + 6 + 32 * j) 0) (M (b + 3 + 32 * c) 1) (M (b + 3 + 32 * c) 2)), M)] rfl ⟨⟨s1, Nat.le_of_ble_eq_true rfl, Nat.le_of_ble_eq_true rfl, trivial⟩, trivial⟩ ?_
  by_cases h2 : (f_Ct_within (M (b + 6 + 32 * j) 0) (M (b + 3 + 32 * c) 1) (M (b + 3 + 32 * c) 2)) = 0
  · have k3 : (f_Ct_within (jb ((yv b M)) j 0) (cr ((yv b M)) c 1) (cr ((yv b M)) c 2)) = 0 := by
      have q : (f_Ct_within (jb (yv b M) j 0) (cr (yv b M) c 1) (cr (yv b M) c 2)) = 0 := h2
      exact q
    refine wgo (g' := (M, 41, [some (.inr (0, b + 3 + 32 * c)), some (.inr (1, b + 6 + 32 * j))], [.inl 0])) [oz 1, oz 0] rfl ⟨h2, trivial, trivial⟩ ?_
    have x4 : f_Cr_reaches (yv b M) c j = 0 := by
      unfold f_Cr_reaches
      rw [if_pos k3]
    exact wend ⟨_, rfl, rfl, Or.inl rfl⟩ (congrArg (fun q => (some q, M)) x4.symm)
  · have k5 : ¬ ((f_Ct_within (jb ((yv b M)) j 0) (cr ((yv b M)) c 1) (cr ((yv b M)) c 2)) = 0) := by
      have q : ¬ ((f_Ct_within (jb (yv b M) j 0) (cr (yv b M) c 1) (cr (yv b M) c 2)) = 0) := h2
      exact q
    refine wgo (g' := (M, 30, [some (.inr (0, b + 3 + 32 * c)), some (.inr (1, b + 6 + 32 * j))], [.inl (M (b + 3 + 32 * c) 2), .inl (M (b + 3 + 32 * c) 1), .inl (M (b + 6 + 32 * j) 1)])) [oz 0, oz 0, oz 0, oz 0, oz 0, oz 0, oz 0] rfl ⟨h2, trivial, trivial, trivial, trivial, trivial, trivial, trivial⟩ ?_
    have s6 := sm_Ct_within (d := d)  (M := M) (v := M (b + 6 + 32 * j) 1) (a := M (b + 3 + 32 * c) 1) (e := M (b + 3 + 32 * c) 2) 
    refine wgo (g' := (M, 33, [some (.inr (0, b + 3 + 32 * c)), some (.inr (1, b + 6 + 32 * j))], [.inl (f_Ct_within (M (b + 6 + 32 * j) 1) (M (b + 3 + 32 * c) 1) (M (b + 3 + 32 * c) 2))])) [oc (some (f_Ct_within (M (b + 6 + 32 * j) 1) (M (b + 3 + 32 * c) 1) (M (b + 3 + 32 * c) 2)), M)] rfl ⟨⟨s6, Nat.le_of_ble_eq_true rfl, Nat.le_of_ble_eq_true rfl, trivial⟩, trivial⟩ ?_
    by_cases h7 : (f_Ct_within (M (b + 6 + 32 * j) 1) (M (b + 3 + 32 * c) 1) (M (b + 3 + 32 * c) 2)) = 0
    · have k8 : (f_Ct_within (jb ((yv b M)) j 1) (cr ((yv b M)) c 1) (cr ((yv b M)) c 2)) = 0 := by
        have q : (f_Ct_within (jb (yv b M) j 1) (cr (yv b M) c 1) (cr (yv b M) c 2)) = 0 := h7
        exact q
      refine wgo (g' := (M, 41, [some (.inr (0, b + 3 + 32 * c)), some (.inr (1, b + 6 + 32 * j))], [.inl 0])) [oz 1, oz 0] rfl ⟨h7, trivial, trivial⟩ ?_
      have x9 : f_Cr_reaches (yv b M) c j = 0 := by
        unfold f_Cr_reaches
        rw [if_neg k5, if_pos k8]
      exact wend ⟨_, rfl, rfl, Or.inl rfl⟩ (congrArg (fun q => (some q, M)) x9.symm)
    · have k10 : ¬ ((f_Ct_within (jb ((yv b M)) j 1) (cr ((yv b M)) c 1) (cr ((yv b M)) c 2)) = 0) := by
        have q : ¬ ((f_Ct_within (jb (yv b M) j 1) (cr (yv b M) c 1) (cr (yv b M) c 2)) = 0) := h7
        exact q
      refine wgo (g' := (M, 41, [some (.inr (0, b + 3 + 32 * c)), some (.inr (1, b + 6 + 32 * j))], [.inl 1])) [oz 0, oz 0, oz 0] rfl ⟨h7, trivial, trivial, trivial⟩ ?_
      have x11 : f_Cr_reaches (yv b M) c j = 1 := by
        unfold f_Cr_reaches
        rw [if_neg k5, if_neg k10]
      exact wend ⟨_, rfl, rfl, Or.inr rfl⟩ (congrArg (fun q => (some q, M)) x11.symm)
def f_Yd_hasTrack (A : ya)  : Int32 := (if (sc (A) 0) ≤ 0 then 0 else 1)
set_option maxRecDepth 20000 in
set_option maxHeartbeats 1000000 in
theorem sm_Yd_hasTrack {d b : Nat} {M : mm_M}   : ct_Sem (d + 1) 15 M [.inr (3, b)] (some (f_Yd_hasTrack (yv b M) ), M) := by
  refine SM_of (Nat.le_of_ble_eq_true rfl) ?_
  show mm_Wp pg_Yd_hasTrack rt_Yd_hasTrack (ct_Sem (d + 0)) (M, 0, [some (.inr (3, b))], []) _
  refine wgo (g' := (M, 4, [some (.inr (3, b))], [.inl (M b 0)])) [oz 0, oz 0] rfl ⟨trivial, trivial, trivial⟩ ?_
  by_cases h1 : (M b 0) ≤ 0
  · have k2 : (sc ((yv b M)) 0) ≤ 0 := by
      have q : (sc (yv b M) 0) ≤ 0 := h1
      exact q
    refine wgo (g' := (M, 12, [some (.inr (3, b))], [.inl 0])) [oz 1, oz 0] rfl ⟨h1, trivial, trivial⟩ ?_
    have x3 : f_Yd_hasTrack (yv b M) = 0 := by
      unfold f_Yd_hasTrack
      rw [if_pos k2]
    exact wend ⟨_, rfl, rfl, Or.inl rfl⟩ (congrArg (fun q => (some q, M)) x3.symm)
  · have k4 : ¬ ((sc ((yv b M)) 0) ≤ 0) := by
      have q : ¬ ((sc (yv b M) 0) ≤ 0) := h1
      exact q
    refine wgo (g' := (M, 12, [some (.inr (3, b))], [.inl 1])) [oz 0, oz 0, oz 0] rfl ⟨h1, trivial, trivial, trivial⟩ ?_
    have x5 : f_Yd_hasTrack (yv b M) = 1 := by
      unfold f_Yd_hasTrack
      rw [if_neg k4]
    exact wend ⟨_, rfl, rfl, Or.inr rfl⟩ (congrArg (fun q => (some q, M)) x5.symm)
def f_Yd_floorOf (A : ya) (c : Nat) : Int32 := (if (nI c) ≤ 0 then 0 else (cr (A) (c - 1) 0) + (sc (A) 1))
set_option maxRecDepth 20000 in
set_option maxHeartbeats 1000000 in
theorem sm_Yd_floorOf {d b : Nat} {M : mm_M} {c : Nat} (hc : c < 3) : ct_Sem (d + 1) 21 M [.inr (3, b), .inl (nI c)] (some (f_Yd_floorOf (yv b M) c), M) := by
  refine SM_of (Nat.le_of_ble_eq_true rfl) ?_
  show mm_Wp pg_Yd_floorOf rt_Yd_floorOf (ct_Sem (d + 0)) (M, 0, [some (.inr (3, b)), some (.inl (nI c))], []) _
  refine wgo (g' := (M, 1, [some (.inr (3, b)), some (.inl (nI c))], [.inl (nI c)])) [oz 0] rfl ⟨trivial, trivial⟩ ?_
  by_cases h1 : (nI c) ≤ 0
  · have k2 : (nI c) ≤ 0 := by
      have q : (nI c) ≤ 0 := h1
      exact q
    refine wgo (g' := (M, 24, [some (.inr (3, b)), some (.inl (nI c))], [.inl 0])) [oz 1, oz 0] rfl ⟨h1, trivial, trivial⟩ ?_
    have x3 : f_Yd_floorOf (yv b M) c = 0 := by
      unfold f_Yd_floorOf
      rw [if_pos k2]
    exact wend ⟨_, rfl, rfl⟩ (congrArg (fun q => (some q, M)) x3.symm)
  · have k4 : ¬ ((nI c) ≤ 0) := by
      have q : ¬ ((nI c) ≤ 0) := h1
      exact q
    refine wgo (g' := (M, 24, [some (.inr (3, b)), some (.inl (nI c))], [.inl ((M (b + 3 + 32 * (c - 1)) 0) + (M b 1))])) [oz 0, oz 0, oz 0, oz 0, oz 0, oz 0, oz (c - 1), oz 0, oz 0, oz 0, oz 0, oz 0] rfl ⟨h1, trivial, trivial, trivial, trivial, trivial, ⟨nI_m1 (nI_gt0 k4), (show c - 1 < 3 from by omega)⟩, trivial, trivial, trivial, trivial, trivial, trivial⟩ ?_
    have x5 : f_Yd_floorOf (yv b M) c = (cr ((yv b M)) (c - 1) 0) + (sc ((yv b M)) 1) := by
      unfold f_Yd_floorOf
      rw [if_neg k4]
    exact wend ⟨_, rfl, rfl⟩ (congrArg (fun q => (some q, M)) x5.symm)
def f_Yd_ceilingOf (A : ya) (c : Nat) : Int32 := (if (sc (A) 0) ≤ ((nI c) + 1) then 200 else (cr (A) (c + 1) 0) - (sc (A) 1))
set_option maxRecDepth 20000 in
set_option maxHeartbeats 1000000 in
theorem sm_Yd_ceilingOf {d b : Nat} {M : mm_M} {c : Nat} {n : Nat} (hc : c < 3) (hn : ynn (yv b M) n) : ct_Sem (d + 1) 22 M [.inr (3, b), .inl (nI c)] (some (f_Yd_ceilingOf (yv b M) c), M) := by
  refine SM_of (Nat.le_of_ble_eq_true rfl) ?_
  show mm_Wp pg_Yd_ceilingOf rt_Yd_ceilingOf (ct_Sem (d + 0)) (M, 0, [some (.inr (3, b)), some (.inl (nI c))], []) _
  refine wgo (g' := (M, 7, [some (.inr (3, b)), some (.inl (nI c))], [.inl (M b 0), .inl ((nI c) + 1)])) [oz 0, oz 0, oz 0, oz 0, oz 0] rfl ⟨trivial, trivial, trivial, trivial, trivial, trivial⟩ ?_
  by_cases h1 : (M b 0) ≤ ((nI c) + 1)
  · have k2 : (sc ((yv b M)) 0) ≤ ((nI c) + 1) := by
      have q : (sc (yv b M) 0) ≤ ((nI c) + 1) := h1
      exact q
    refine wgo (g' := (M, 32, [some (.inr (3, b)), some (.inl (nI c))], [.inl 200])) [oz 1, oz 0] rfl ⟨h1, trivial, trivial⟩ ?_
    have x3 : f_Yd_ceilingOf (yv b M) c = 200 := by
      unfold f_Yd_ceilingOf
      rw [if_pos k2]
    exact wend ⟨_, rfl, rfl⟩ (congrArg (fun q => (some q, M)) x3.symm)
  · have k4 : ¬ ((sc ((yv b M)) 0) ≤ ((nI c) + 1)) := by
      have q : ¬ ((sc (yv b M) 0) ≤ ((nI c) + 1)) := h1
      exact q
    refine wgo (g' := (M, 32, [some (.inr (3, b)), some (.inl (nI c))], [.inl ((M (b + 3 + 32 * (c + 1)) 0) - (M b 1))])) [oz 0, oz 0, oz 0, oz 0, oz 0, oz 0, oz (c + 1), oz 0, oz 0, oz 0, oz 0, oz 0] rfl ⟨h1, trivial, trivial, trivial, trivial, trivial, ⟨nI_1 c, Nat.lt_of_lt_of_le (nI_lt1 hn.1 hn.2 hc k4) hn.2⟩, trivial, trivial, trivial, trivial, trivial, trivial⟩ ?_
    have x5 : f_Yd_ceilingOf (yv b M) c = (cr ((yv b M)) (c + 1) 0) - (sc ((yv b M)) 1) := by
      unfold f_Yd_ceilingOf
      rw [if_neg k4]
    exact wend ⟨_, rfl, rfl⟩ (congrArg (fun q => (some q, M)) x5.symm)
def f_Yd_hasRoom (A : ya) (c : Nat) (p : Int32) : Int32 := f_Ct_within p (f_Yd_floorOf (A) c) (f_Yd_ceilingOf (A) c)
set_option maxRecDepth 20000 in
set_option maxHeartbeats 1000000 in
theorem sm_Yd_hasRoom {d b : Nat} {M : mm_M} {c : Nat} {p : Int32} {n : Nat} (hc : c < 3) (hn : ynn (yv b M) n) : ct_Sem (d + 2) 23 M [.inr (3, b), .inl (nI c), .inl p] (some (f_Yd_hasRoom (yv b M) c p), M) := by
  refine SM_of (Nat.le_of_ble_eq_true rfl) ?_
  show mm_Wp pg_Yd_hasRoom rt_Yd_hasRoom (ct_Sem (d + 1)) (M, 0, [some (.inr (3, b)), some (.inl (nI c)), some (.inl p)], []) _
  refine wgo (g' := (M, 3, [some (.inr (3, b)), some (.inl (nI c)), some (.inl p)], [.inl (nI c), .inr (3, b), .inl p])) [oz 0, oz 0, oz 0] rfl ⟨trivial, trivial, trivial, trivial⟩ ?_
  have s1 := sm_Yd_floorOf (d := d) (b := b) (M := M) (c := c) hc
  refine wgo (g' := (M, 8, [some (.inr (3, b)), some (.inl (nI c)), some (.inl p)], [.inl (nI c), .inr (3, b), .inl (f_Yd_floorOf (yv b M) c), .inl p])) [oc (some (f_Yd_floorOf (yv b M) c), M), oz 0, oz 0] rfl ⟨⟨s1, Nat.le_of_ble_eq_true rfl, Nat.le_of_ble_eq_true rfl, ⟨_, rfl⟩⟩, trivial, trivial, trivial⟩ ?_
  have s2 := sm_Yd_ceilingOf (d := d) (b := b) (M := M) (c := c) hc hn
  refine wgo (g' := (M, 11, [some (.inr (3, b)), some (.inl (nI c)), some (.inl p)], [.inl (f_Yd_ceilingOf (yv b M) c), .inl (f_Yd_floorOf (yv b M) c), .inl p])) [oc (some (f_Yd_ceilingOf (yv b M) c), M)] rfl ⟨⟨s2, Nat.le_of_ble_eq_true rfl, Nat.le_of_ble_eq_true rfl, ⟨_, rfl⟩⟩, trivial⟩ ?_
  have s3 := sm_Ct_within (d := d)  (M := M) (v := p) (a := f_Yd_floorOf (yv b M) c) (e := f_Yd_ceilingOf (yv b M) c) 
  refine wgo (g' := (M, 14, [some (.inr (3, b)), some (.inl (nI c)), some (.inl p)], [.inl (f_Ct_within p (f_Yd_floorOf (yv b M) c) (f_Yd_ceilingOf (yv b M) c))])) [oc (some (f_Ct_within p (f_Yd_floorOf (yv b M) c) (f_Yd_ceilingOf (yv b M) c)), M)] rfl ⟨⟨s3, Nat.le_of_ble_eq_true rfl, Nat.le_of_ble_eq_true rfl, trivial⟩, trivial⟩ ?_
  have x4 : f_Yd_hasRoom (yv b M) c p = f_Ct_within p (f_Yd_floorOf ((yv b M)) c) (f_Yd_ceilingOf ((yv b M)) c) := by
    unfold f_Yd_hasRoom
    rfl
  exact wend ⟨_, rfl, rfl, f_in01 _ _ _⟩ (congrArg (fun q => (some q, M)) x4.symm)
def f_Yd_placeOutOfTheWay (A : ya) (c : Nat) : Int32 := (if (nI c) ≤ 0 then (if (sc (A) 0) ≤ ((nI c) + 1) then cr (A) c 0 else (if (f_Cr_hasGoal (A) (c + 1)) = 0 then cr (A) c 0 else (if ((cr (A) c 0) + (sc (A) 1)) ≤ (cr (A) (c + 1) 6) then cr (A) c 0 else if ((cr (A) (c + 1) 6) - (sc (A) 1)) < (cr (A) c 1) then (cr (A) c 1) else ((cr (A) (c + 1) 6) - (sc (A) 1))))) else (if (f_Cr_hasGoal (A) (c - 1)) = 0 then (if (sc (A) 0) ≤ ((nI c) + 1) then cr (A) c 0 else (if (f_Cr_hasGoal (A) (c + 1)) = 0 then cr (A) c 0 else (if ((cr (A) c 0) + (sc (A) 1)) ≤ (cr (A) (c + 1) 6) then cr (A) c 0 else if ((cr (A) (c + 1) 6) - (sc (A) 1)) < (cr (A) c 1) then (cr (A) c 1) else ((cr (A) (c + 1) 6) - (sc (A) 1))))) else (if (cr (A) (c - 1) 6) ≤ ((cr (A) c 0) - (sc (A) 1)) then (if (sc (A) 0) ≤ ((nI c) + 1) then cr (A) c 0 else (if (f_Cr_hasGoal (A) (c + 1)) = 0 then cr (A) c 0 else (if ((cr (A) c 0) + (sc (A) 1)) ≤ (cr (A) (c + 1) 6) then cr (A) c 0 else if ((cr (A) (c + 1) 6) - (sc (A) 1)) < (cr (A) c 1) then (cr (A) c 1) else ((cr (A) (c + 1) 6) - (sc (A) 1))))) else if (cr (A) c 2) < ((cr (A) (c - 1) 6) + (sc (A) 1)) then (cr (A) c 2) else ((cr (A) (c - 1) 6) + (sc (A) 1)))))
set_option maxRecDepth 20000 in
set_option maxHeartbeats 1000000 in
theorem sm_Yd_placeOutOfTheWay {d b : Nat} {M : mm_M} {c : Nat} {n : Nat} (hc : c < 3) (hn : ynn (yv b M) n) : ct_Sem (d + 2) 30 M [.inr (3, b), .inl (nI c)] (some (f_Yd_placeOutOfTheWay (yv b M) c), M) := by
  refine SM_of (Nat.le_of_ble_eq_true rfl) ?_
  show mm_Wp pg_Yd_placeOutOfTheWay rt_Yd_placeOutOfTheWay (ct_Sem (d + 1)) (M, 0, [some (.inr (3, b)), some (.inl (nI c)), none], []) _
  refine wgo (g' := (M, 8, [some (.inr (3, b)), some (.inl (nI c)), some (.inr (0, b + 3 + 32 * c))], [.inl (nI c)])) [oz 0, oz 0, oz 0, oz c, oz 0, oz 0] rfl ⟨trivial, trivial, trivial, ⟨rfl, (show c < 3 from by omega)⟩, Nat.le_of_ble_eq_true rfl, trivial, trivial⟩ ?_
  by_cases h1 : (nI c) ≤ 0
  · have k2 : (nI c) ≤ 0 := by
      have q : (nI c) ≤ 0 := h1
      exact q
    refine wgo (g' := (M, 79, [some (.inr (3, b)), some (.inl (nI c)), some (.inr (0, b + 3 + 32 * c))], [.inl (M b 0), .inl ((nI c) + 1)])) [oz 1, oz 0, oz 0, oz 0, oz 0, oz 0] rfl ⟨h1, trivial, trivial, trivial, trivial, trivial, trivial⟩ ?_
    by_cases h3 : (M b 0) ≤ ((nI c) + 1)
    · have k4 : (sc ((yv b M)) 0) ≤ ((nI c) + 1) := by
        have q : (sc (yv b M) 0) ≤ ((nI c) + 1) := h3
        exact q
      refine wgo (g' := (M, 147, [some (.inr (3, b)), some (.inl (nI c)), some (.inr (0, b + 3 + 32 * c))], [.inl (M (b + 3 + 32 * c) 0)])) [oz 1, oz 0, oz 0] rfl ⟨h3, trivial, trivial, trivial⟩ ?_
      have x5 : f_Yd_placeOutOfTheWay (yv b M) c = cr ((yv b M)) c 0 := by
        unfold f_Yd_placeOutOfTheWay
        rw [if_pos k2, if_pos k4]
      exact wend ⟨_, rfl, rfl⟩ (congrArg (fun q => (some q, M)) x5.symm)
    · have k6 : ¬ ((sc ((yv b M)) 0) ≤ ((nI c) + 1)) := by
        have q : ¬ ((sc (yv b M) 0) ≤ ((nI c) + 1)) := h3
        exact q
      refine wgo (g' := (M, 90, [some (.inr (3, b)), some (.inl (nI c)), some (.inr (0, b + 3 + 32 * c))], [.inr (0, b + 3 + 32 * (c + 1))])) [oz 0, oz 0, oz 0, oz 0, oz 0, oz 0, oz (c + 1)] rfl ⟨h3, trivial, trivial, trivial, trivial, trivial, ⟨nI_1 c, Nat.lt_of_lt_of_le (nI_lt1 hn.1 hn.2 hc k6) hn.2⟩, trivial⟩ ?_
      have s7 := sm_Cr_hasGoal (d := d) (b := b) (M := M) (c := c + 1) 
      refine wgo (g' := (M, 93, [some (.inr (3, b)), some (.inl (nI c)), some (.inr (0, b + 3 + 32 * c))], [.inl (f_Cr_hasGoal (yv b M) (c + 1))])) [oc (some (f_Cr_hasGoal (yv b M) (c + 1)), M)] rfl ⟨⟨s7, Nat.le_of_ble_eq_true rfl, Nat.le_of_ble_eq_true rfl, ⟨_, rfl⟩⟩, trivial⟩ ?_
      by_cases h8 : (f_Cr_hasGoal (yv b M) (c + 1)) = 0
      · have k9 : (f_Cr_hasGoal ((yv b M)) (c + 1)) = 0 := by
          have q : (f_Cr_hasGoal (yv b M) (c + 1)) = 0 := h8
          exact q
        refine wgo (g' := (M, 147, [some (.inr (3, b)), some (.inl (nI c)), some (.inr (0, b + 3 + 32 * c))], [.inl (M (b + 3 + 32 * c) 0)])) [oz 1, oz 0, oz 0] rfl ⟨h8, trivial, trivial, trivial⟩ ?_
        have x10 : f_Yd_placeOutOfTheWay (yv b M) c = cr ((yv b M)) c 0 := by
          unfold f_Yd_placeOutOfTheWay
          rw [if_pos k2, if_neg k6, if_pos k9]
        exact wend ⟨_, rfl, rfl⟩ (congrArg (fun q => (some q, M)) x10.symm)
      · have k11 : ¬ ((f_Cr_hasGoal ((yv b M)) (c + 1)) = 0) := by
          have q : ¬ ((f_Cr_hasGoal (yv b M) (c + 1)) = 0) := h8
          exact q
        refine wgo (g' := (M, 116, [some (.inr (3, b)), some (.inl (nI c)), some (.inr (0, b + 3 + 32 * c))], [.inl ((M (b + 3 + 32 * c) 0) + (M b 1)), .inl (M (b + 3 + 32 * (c + 1)) 6)])) [oz 0, oz 0, oz 0, oz 0, oz 0, oz 0, oz (c + 1), oz 0, oz 0, oz 0, oz 0, oz 0, oz 0] rfl ⟨h8, trivial, trivial, trivial, trivial, trivial, ⟨nI_1 c, Nat.lt_of_lt_of_le (nI_lt1 hn.1 hn.2 hc k6) hn.2⟩, trivial, trivial, trivial, trivial, trivial, trivial, trivial⟩ ?_
        by_cases h12 : ((M (b + 3 + 32 * c) 0) + (M b 1)) ≤ (M (b + 3 + 32 * (c + 1)) 6)
        · have k13 : ((cr ((yv b M)) c 0) + (sc ((yv b M)) 1)) ≤ (cr ((yv b M)) (c + 1) 6) := by
            have q : ((cr (yv b M) c 0) + (sc (yv b M) 1)) ≤ (cr (yv b M) (c + 1) 6) := h12
            exact q
          refine wgo (g' := (M, 147, [some (.inr (3, b)), some (.inl (nI c)), some (.inr (0, b + 3 + 32 * c))], [.inl (M (b + 3 + 32 * c) 0)])) [oz 1, oz 0, oz 0] rfl ⟨h12, trivial, trivial, trivial⟩ ?_
          have x14 : f_Yd_placeOutOfTheWay (yv b M) c = cr ((yv b M)) c 0 := by
            unfold f_Yd_placeOutOfTheWay
            rw [if_pos k2, if_neg k6, if_neg k11, if_pos k13]
          exact wend ⟨_, rfl, rfl⟩ (congrArg (fun q => (some q, M)) x14.symm)
        · have k15 : ¬ (((cr ((yv b M)) c 0) + (sc ((yv b M)) 1)) ≤ (cr ((yv b M)) (c + 1) 6)) := by
            have q : ¬ (((cr (yv b M) c 0) + (sc (yv b M) 1)) ≤ (cr (yv b M) (c + 1) 6)) := h12
            exact q
          refine wgo (g' := (M, 142, [some (.inr (3, b)), some (.inl (nI c)), some (.inr (0, b + 3 + 32 * c))], [.inl (if ((M (b + 3 + 32 * (c + 1)) 6) - (M b 1)) < (M (b + 3 + 32 * c) 1) then (M (b + 3 + 32 * c) 1) else ((M (b + 3 + 32 * (c + 1)) 6) - (M b 1)))])) [oz 0, oz 0, oz 0, oz 0, oz 0, oz 0, oz (c + 1), oz 0, oz 0, oz 0, oz 0, oz 0, oz 0, oz 0] rfl ⟨h12, trivial, trivial, trivial, trivial, trivial, ⟨nI_1 c, Nat.lt_of_lt_of_le (nI_lt1 hn.1 hn.2 hc k6) hn.2⟩, trivial, trivial, trivial, trivial, trivial, trivial, Nat.le_of_ble_eq_true rfl, trivial⟩ ?_
          have x16 : f_Yd_placeOutOfTheWay (yv b M) c = if ((cr ((yv b M)) (c + 1) 6) - (sc ((yv b M)) 1)) < (cr ((yv b M)) c 1) then (cr ((yv b M)) c 1) else ((cr ((yv b M)) (c + 1) 6) - (sc ((yv b M)) 1)) := by
            unfold f_Yd_placeOutOfTheWay
            rw [if_pos k2, if_neg k6, if_neg k11, if_neg k15]
          exact wend ⟨_, rfl, rfl⟩ (congrArg (fun q => (some q, M)) x16.symm)
  · have k17 : ¬ ((nI c) ≤ 0) := by
      have q : ¬ ((nI c) ≤ 0) := h1
      exact q
    refine wgo (g' := (M, 19, [some (.inr (3, b)), some (.inl (nI c)), some (.inr (0, b + 3 + 32 * c))], [.inr (0, b + 3 + 32 * (c - 1))])) [oz 0, oz 0, oz 0, oz 0, oz 0, oz 0, oz (c - 1)] rfl ⟨h1, trivial, trivial, trivial, trivial, trivial, ⟨nI_m1 (nI_gt0 k17), (show c - 1 < 3 from by omega)⟩, trivial⟩ ?_
    have s18 := sm_Cr_hasGoal (d := d) (b := b) (M := M) (c := c - 1) 
    refine wgo (g' := (M, 22, [some (.inr (3, b)), some (.inl (nI c)), some (.inr (0, b + 3 + 32 * c))], [.inl (f_Cr_hasGoal (yv b M) (c - 1))])) [oc (some (f_Cr_hasGoal (yv b M) (c - 1)), M)] rfl ⟨⟨s18, Nat.le_of_ble_eq_true rfl, Nat.le_of_ble_eq_true rfl, ⟨_, rfl⟩⟩, trivial⟩ ?_
    by_cases h19 : (f_Cr_hasGoal (yv b M) (c - 1)) = 0
    · have k20 : (f_Cr_hasGoal ((yv b M)) (c - 1)) = 0 := by
        have q : (f_Cr_hasGoal (yv b M) (c - 1)) = 0 := h19
        exact q
      refine wgo (g' := (M, 79, [some (.inr (3, b)), some (.inl (nI c)), some (.inr (0, b + 3 + 32 * c))], [.inl (M b 0), .inl ((nI c) + 1)])) [oz 1, oz 0, oz 0, oz 0, oz 0, oz 0] rfl ⟨h19, trivial, trivial, trivial, trivial, trivial, trivial⟩ ?_
      by_cases h21 : (M b 0) ≤ ((nI c) + 1)
      · have k22 : (sc ((yv b M)) 0) ≤ ((nI c) + 1) := by
          have q : (sc (yv b M) 0) ≤ ((nI c) + 1) := h21
          exact q
        refine wgo (g' := (M, 147, [some (.inr (3, b)), some (.inl (nI c)), some (.inr (0, b + 3 + 32 * c))], [.inl (M (b + 3 + 32 * c) 0)])) [oz 1, oz 0, oz 0] rfl ⟨h21, trivial, trivial, trivial⟩ ?_
        have x23 : f_Yd_placeOutOfTheWay (yv b M) c = cr ((yv b M)) c 0 := by
          unfold f_Yd_placeOutOfTheWay
          rw [if_neg k17, if_pos k20, if_pos k22]
        exact wend ⟨_, rfl, rfl⟩ (congrArg (fun q => (some q, M)) x23.symm)
      · have k24 : ¬ ((sc ((yv b M)) 0) ≤ ((nI c) + 1)) := by
          have q : ¬ ((sc (yv b M) 0) ≤ ((nI c) + 1)) := h21
          exact q
        refine wgo (g' := (M, 90, [some (.inr (3, b)), some (.inl (nI c)), some (.inr (0, b + 3 + 32 * c))], [.inr (0, b + 3 + 32 * (c + 1))])) [oz 0, oz 0, oz 0, oz 0, oz 0, oz 0, oz (c + 1)] rfl ⟨h21, trivial, trivial, trivial, trivial, trivial, ⟨nI_1 c, Nat.lt_of_lt_of_le (nI_lt1 hn.1 hn.2 hc k24) hn.2⟩, trivial⟩ ?_
        have s25 := sm_Cr_hasGoal (d := d) (b := b) (M := M) (c := c + 1) 
        refine wgo (g' := (M, 93, [some (.inr (3, b)), some (.inl (nI c)), some (.inr (0, b + 3 + 32 * c))], [.inl (f_Cr_hasGoal (yv b M) (c + 1))])) [oc (some (f_Cr_hasGoal (yv b M) (c + 1)), M)] rfl ⟨⟨s25, Nat.le_of_ble_eq_true rfl, Nat.le_of_ble_eq_true rfl, ⟨_, rfl⟩⟩, trivial⟩ ?_
        by_cases h26 : (f_Cr_hasGoal (yv b M) (c + 1)) = 0
        · have k27 : (f_Cr_hasGoal ((yv b M)) (c + 1)) = 0 := by
            have q : (f_Cr_hasGoal (yv b M) (c + 1)) = 0 := h26
            exact q
          refine wgo (g' := (M, 147, [some (.inr (3, b)), some (.inl (nI c)), some (.inr (0, b + 3 + 32 * c))], [.inl (M (b + 3 + 32 * c) 0)])) [oz 1, oz 0, oz 0] rfl ⟨h26, trivial, trivial, trivial⟩ ?_
          have x28 : f_Yd_placeOutOfTheWay (yv b M) c = cr ((yv b M)) c 0 := by
            unfold f_Yd_placeOutOfTheWay
            rw [if_neg k17, if_pos k20, if_neg k24, if_pos k27]
          exact wend ⟨_, rfl, rfl⟩ (congrArg (fun q => (some q, M)) x28.symm)
        · have k29 : ¬ ((f_Cr_hasGoal ((yv b M)) (c + 1)) = 0) := by
            have q : ¬ ((f_Cr_hasGoal (yv b M) (c + 1)) = 0) := h26
            exact q
          refine wgo (g' := (M, 116, [some (.inr (3, b)), some (.inl (nI c)), some (.inr (0, b + 3 + 32 * c))], [.inl ((M (b + 3 + 32 * c) 0) + (M b 1)), .inl (M (b + 3 + 32 * (c + 1)) 6)])) [oz 0, oz 0, oz 0, oz 0, oz 0, oz 0, oz (c + 1), oz 0, oz 0, oz 0, oz 0, oz 0, oz 0] rfl ⟨h26, trivial, trivial, trivial, trivial, trivial, ⟨nI_1 c, Nat.lt_of_lt_of_le (nI_lt1 hn.1 hn.2 hc k24) hn.2⟩, trivial, trivial, trivial, trivial, trivial, trivial, trivial⟩ ?_
          by_cases h30 : ((M (b + 3 + 32 * c) 0) + (M b 1)) ≤ (M (b + 3 + 32 * (c + 1)) 6)
          · have k31 : ((cr ((yv b M)) c 0) + (sc ((yv b M)) 1)) ≤ (cr ((yv b M)) (c + 1) 6) := by
              have q : ((cr (yv b M) c 0) + (sc (yv b M) 1)) ≤ (cr (yv b M) (c + 1) 6) := h30
              exact q
            refine wgo (g' := (M, 147, [some (.inr (3, b)), some (.inl (nI c)), some (.inr (0, b + 3 + 32 * c))], [.inl (M (b + 3 + 32 * c) 0)])) [oz 1, oz 0, oz 0] rfl ⟨h30, trivial, trivial, trivial⟩ ?_
            have x32 : f_Yd_placeOutOfTheWay (yv b M) c = cr ((yv b M)) c 0 := by
              unfold f_Yd_placeOutOfTheWay
              rw [if_neg k17, if_pos k20, if_neg k24, if_neg k29, if_pos k31]
            exact wend ⟨_, rfl, rfl⟩ (congrArg (fun q => (some q, M)) x32.symm)
          · have k33 : ¬ (((cr ((yv b M)) c 0) + (sc ((yv b M)) 1)) ≤ (cr ((yv b M)) (c + 1) 6)) := by
              have q : ¬ (((cr (yv b M) c 0) + (sc (yv b M) 1)) ≤ (cr (yv b M) (c + 1) 6)) := h30
              exact q
            refine wgo (g' := (M, 142, [some (.inr (3, b)), some (.inl (nI c)), some (.inr (0, b + 3 + 32 * c))], [.inl (if ((M (b + 3 + 32 * (c + 1)) 6) - (M b 1)) < (M (b + 3 + 32 * c) 1) then (M (b + 3 + 32 * c) 1) else ((M (b + 3 + 32 * (c + 1)) 6) - (M b 1)))])) [oz 0, oz 0, oz 0, oz 0, oz 0, oz 0, oz (c + 1), oz 0, oz 0, oz 0, oz 0, oz 0, oz 0, oz 0] rfl ⟨h30, trivial, trivial, trivial, trivial, trivial, ⟨nI_1 c, Nat.lt_of_lt_of_le (nI_lt1 hn.1 hn.2 hc k24) hn.2⟩, trivial, trivial, trivial, trivial, trivial, trivial, Nat.le_of_ble_eq_true rfl, trivial⟩ ?_
            have x34 : f_Yd_placeOutOfTheWay (yv b M) c = if ((cr ((yv b M)) (c + 1) 6) - (sc ((yv b M)) 1)) < (cr ((yv b M)) c 1) then (cr ((yv b M)) c 1) else ((cr ((yv b M)) (c + 1) 6) - (sc ((yv b M)) 1)) := by
              unfold f_Yd_placeOutOfTheWay
              rw [if_neg k17, if_pos k20, if_neg k24, if_neg k29, if_neg k33]
            exact wend ⟨_, rfl, rfl⟩ (congrArg (fun q => (some q, M)) x34.symm)
    · have k35 : ¬ ((f_Cr_hasGoal ((yv b M)) (c - 1)) = 0) := by
        have q : ¬ ((f_Cr_hasGoal (yv b M) (c - 1)) = 0) := h19
        exact q
      refine wgo (g' := (M, 45, [some (.inr (3, b)), some (.inl (nI c)), some (.inr (0, b + 3 + 32 * c))], [.inl ((M (b + 3 + 32 * c) 0) - (M b 1)), .inl (M (b + 3 + 32 * (c - 1)) 6)])) [oz 0, oz 0, oz 0, oz 0, oz 0, oz 0, oz (c - 1), oz 0, oz 0, oz 0, oz 0, oz 0, oz 0] rfl ⟨h19, trivial, trivial, trivial, trivial, trivial, ⟨nI_m1 (nI_gt0 k17), (show c - 1 < 3 from by omega)⟩, trivial, trivial, trivial, trivial, trivial, trivial, trivial⟩ ?_
      by_cases h36 : (M (b + 3 + 32 * (c - 1)) 6) ≤ ((M (b + 3 + 32 * c) 0) - (M b 1))
      · have k37 : (cr ((yv b M)) (c - 1) 6) ≤ ((cr ((yv b M)) c 0) - (sc ((yv b M)) 1)) := by
          have q : (cr (yv b M) (c - 1) 6) ≤ ((cr (yv b M) c 0) - (sc (yv b M) 1)) := h36
          exact q
        refine wgo (g' := (M, 79, [some (.inr (3, b)), some (.inl (nI c)), some (.inr (0, b + 3 + 32 * c))], [.inl (M b 0), .inl ((nI c) + 1)])) [oz 1, oz 0, oz 0, oz 0, oz 0, oz 0] rfl ⟨h36, trivial, trivial, trivial, trivial, trivial, trivial⟩ ?_
        by_cases h38 : (M b 0) ≤ ((nI c) + 1)
        · have k39 : (sc ((yv b M)) 0) ≤ ((nI c) + 1) := by
            have q : (sc (yv b M) 0) ≤ ((nI c) + 1) := h38
            exact q
          refine wgo (g' := (M, 147, [some (.inr (3, b)), some (.inl (nI c)), some (.inr (0, b + 3 + 32 * c))], [.inl (M (b + 3 + 32 * c) 0)])) [oz 1, oz 0, oz 0] rfl ⟨h38, trivial, trivial, trivial⟩ ?_
          have x40 : f_Yd_placeOutOfTheWay (yv b M) c = cr ((yv b M)) c 0 := by
            unfold f_Yd_placeOutOfTheWay
            rw [if_neg k17, if_neg k35, if_pos k37, if_pos k39]
          exact wend ⟨_, rfl, rfl⟩ (congrArg (fun q => (some q, M)) x40.symm)
        · have k41 : ¬ ((sc ((yv b M)) 0) ≤ ((nI c) + 1)) := by
            have q : ¬ ((sc (yv b M) 0) ≤ ((nI c) + 1)) := h38
            exact q
          refine wgo (g' := (M, 90, [some (.inr (3, b)), some (.inl (nI c)), some (.inr (0, b + 3 + 32 * c))], [.inr (0, b + 3 + 32 * (c + 1))])) [oz 0, oz 0, oz 0, oz 0, oz 0, oz 0, oz (c + 1)] rfl ⟨h38, trivial, trivial, trivial, trivial, trivial, ⟨nI_1 c, Nat.lt_of_lt_of_le (nI_lt1 hn.1 hn.2 hc k41) hn.2⟩, trivial⟩ ?_
          have s42 := sm_Cr_hasGoal (d := d) (b := b) (M := M) (c := c + 1) 
          refine wgo (g' := (M, 93, [some (.inr (3, b)), some (.inl (nI c)), some (.inr (0, b + 3 + 32 * c))], [.inl (f_Cr_hasGoal (yv b M) (c + 1))])) [oc (some (f_Cr_hasGoal (yv b M) (c + 1)), M)] rfl ⟨⟨s42, Nat.le_of_ble_eq_true rfl, Nat.le_of_ble_eq_true rfl, ⟨_, rfl⟩⟩, trivial⟩ ?_
          by_cases h43 : (f_Cr_hasGoal (yv b M) (c + 1)) = 0
          · have k44 : (f_Cr_hasGoal ((yv b M)) (c + 1)) = 0 := by
              have q : (f_Cr_hasGoal (yv b M) (c + 1)) = 0 := h43
              exact q
            refine wgo (g' := (M, 147, [some (.inr (3, b)), some (.inl (nI c)), some (.inr (0, b + 3 + 32 * c))], [.inl (M (b + 3 + 32 * c) 0)])) [oz 1, oz 0, oz 0] rfl ⟨h43, trivial, trivial, trivial⟩ ?_
            have x45 : f_Yd_placeOutOfTheWay (yv b M) c = cr ((yv b M)) c 0 := by
              unfold f_Yd_placeOutOfTheWay
              rw [if_neg k17, if_neg k35, if_pos k37, if_neg k41, if_pos k44]
            exact wend ⟨_, rfl, rfl⟩ (congrArg (fun q => (some q, M)) x45.symm)
          · have k46 : ¬ ((f_Cr_hasGoal ((yv b M)) (c + 1)) = 0) := by
              have q : ¬ ((f_Cr_hasGoal (yv b M) (c + 1)) = 0) := h43
              exact q
            refine wgo (g' := (M, 116, [some (.inr (3, b)), some (.inl (nI c)), some (.inr (0, b + 3 + 32 * c))], [.inl ((M (b + 3 + 32 * c) 0) + (M b 1)), .inl (M (b + 3 + 32 * (c + 1)) 6)])) [oz 0, oz 0, oz 0, oz 0, oz 0, oz 0, oz (c + 1), oz 0, oz 0, oz 0, oz 0, oz 0, oz 0] rfl ⟨h43, trivial, trivial, trivial, trivial, trivial, ⟨nI_1 c, Nat.lt_of_lt_of_le (nI_lt1 hn.1 hn.2 hc k41) hn.2⟩, trivial, trivial, trivial, trivial, trivial, trivial, trivial⟩ ?_
            by_cases h47 : ((M (b + 3 + 32 * c) 0) + (M b 1)) ≤ (M (b + 3 + 32 * (c + 1)) 6)
            · have k48 : ((cr ((yv b M)) c 0) + (sc ((yv b M)) 1)) ≤ (cr ((yv b M)) (c + 1) 6) := by
                have q : ((cr (yv b M) c 0) + (sc (yv b M) 1)) ≤ (cr (yv b M) (c + 1) 6) := h47
                exact q
              refine wgo (g' := (M, 147, [some (.inr (3, b)), some (.inl (nI c)), some (.inr (0, b + 3 + 32 * c))], [.inl (M (b + 3 + 32 * c) 0)])) [oz 1, oz 0, oz 0] rfl ⟨h47, trivial, trivial, trivial⟩ ?_
              have x49 : f_Yd_placeOutOfTheWay (yv b M) c = cr ((yv b M)) c 0 := by
                unfold f_Yd_placeOutOfTheWay
                rw [if_neg k17, if_neg k35, if_pos k37, if_neg k41, if_neg k46, if_pos k48]
              exact wend ⟨_, rfl, rfl⟩ (congrArg (fun q => (some q, M)) x49.symm)
            · have k50 : ¬ (((cr ((yv b M)) c 0) + (sc ((yv b M)) 1)) ≤ (cr ((yv b M)) (c + 1) 6)) := by
                have q : ¬ (((cr (yv b M) c 0) + (sc (yv b M) 1)) ≤ (cr (yv b M) (c + 1) 6)) := h47
                exact q
              refine wgo (g' := (M, 142, [some (.inr (3, b)), some (.inl (nI c)), some (.inr (0, b + 3 + 32 * c))], [.inl (if ((M (b + 3 + 32 * (c + 1)) 6) - (M b 1)) < (M (b + 3 + 32 * c) 1) then (M (b + 3 + 32 * c) 1) else ((M (b + 3 + 32 * (c + 1)) 6) - (M b 1)))])) [oz 0, oz 0, oz 0, oz 0, oz 0, oz 0, oz (c + 1), oz 0, oz 0, oz 0, oz 0, oz 0, oz 0, oz 0] rfl ⟨h47, trivial, trivial, trivial, trivial, trivial, ⟨nI_1 c, Nat.lt_of_lt_of_le (nI_lt1 hn.1 hn.2 hc k41) hn.2⟩, trivial, trivial, trivial, trivial, trivial, trivial, Nat.le_of_ble_eq_true rfl, trivial⟩ ?_
              have x51 : f_Yd_placeOutOfTheWay (yv b M) c = if ((cr ((yv b M)) (c + 1) 6) - (sc ((yv b M)) 1)) < (cr ((yv b M)) c 1) then (cr ((yv b M)) c 1) else ((cr ((yv b M)) (c + 1) 6) - (sc ((yv b M)) 1)) := by
                unfold f_Yd_placeOutOfTheWay
                rw [if_neg k17, if_neg k35, if_pos k37, if_neg k41, if_neg k46, if_neg k50]
              exact wend ⟨_, rfl, rfl⟩ (congrArg (fun q => (some q, M)) x51.symm)
      · have k52 : ¬ ((cr ((yv b M)) (c - 1) 6) ≤ ((cr ((yv b M)) c 0) - (sc ((yv b M)) 1))) := by
          have q : ¬ ((cr (yv b M) (c - 1) 6) ≤ ((cr (yv b M) c 0) - (sc (yv b M) 1))) := h36
          exact q
        refine wgo (g' := (M, 71, [some (.inr (3, b)), some (.inl (nI c)), some (.inr (0, b + 3 + 32 * c))], [.inl (if (M (b + 3 + 32 * c) 2) < ((M (b + 3 + 32 * (c - 1)) 6) + (M b 1)) then (M (b + 3 + 32 * c) 2) else ((M (b + 3 + 32 * (c - 1)) 6) + (M b 1)))])) [oz 0, oz 0, oz 0, oz 0, oz 0, oz 0, oz (c - 1), oz 0, oz 0, oz 0, oz 0, oz 0, oz 0, oz 0] rfl ⟨h36, trivial, trivial, trivial, trivial, trivial, ⟨nI_m1 (nI_gt0 k17), (show c - 1 < 3 from by omega)⟩, trivial, trivial, trivial, trivial, trivial, trivial, Nat.le_of_ble_eq_true rfl, trivial⟩ ?_
        have x53 : f_Yd_placeOutOfTheWay (yv b M) c = if (cr ((yv b M)) c 2) < ((cr ((yv b M)) (c - 1) 6) + (sc ((yv b M)) 1)) then (cr ((yv b M)) c 2) else ((cr ((yv b M)) (c - 1) 6) + (sc ((yv b M)) 1)) := by
          unfold f_Yd_placeOutOfTheWay
          rw [if_neg k17, if_neg k35, if_neg k52]
        exact wend ⟨_, rfl, rfl⟩ (congrArg (fun q => (some q, M)) x53.symm)
