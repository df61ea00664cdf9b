def f_Mo_begins (A : mm_M) (c : Nat) (x : Int32) : Int32 × mm_M := (0, (f_Mo_setCrane ((f_Mo_setCrane (A) c 1 x).2) c 3 (((f_Mo_setCrane (A) c 1 x).2) 0 4)).2)
set_option maxRecDepth 20000 in
set_option maxHeartbeats 1000000 in
theorem rs_Mo_begins {d : Nat} {M : mm_M} {c : Nat} {x : Int32}  (hc : c < 3) : RS (d + 2) 53  M [.inr (5, 24), .inl (nI c), .inl x] (none) (f_Mo_begins (rv M) c x).2 := by
  refine RS_of (Nat.le_of_ble_eq_true rfl) ?_
  show mm_Wp pg_Mo_begins rt_Mo_begins (ct_Sem (d + 1)) (M, 0, [some (.inr (5, 24)), some (.inl (nI c)), some (.inl x)], []) _
  refine wgo (g' := (M, 4, [some (.inr (5, 24)), some (.inl (nI c)), some (.inl x)], [.inl x, .inl 1, .inl (nI c), .inr (5, 24)])) [oz 0, oz 0, oz 0, oz 0] rfl ⟨trivial, trivial, trivial, trivial, trivial⟩ ?_
  obtain ⟨M1, s2, a3, w4⟩ := rs_Mo_setCrane (d := d)  (M := M) (c := c) (w := 1) (x := x)  (by omega)
  have a3 : rv M1 = (f_Mo_setCrane ((rv M)) c 1 x).2 := a3.trans (show (f_Mo_setCrane ((rv M)) c 1 x).2 = _ from by first | rfl | simp only [rv])
  have w4 : rf M M1 := rf_tr rf_rf w4
  refine wgo (g' := (M1, 14, [some (.inr (5, 24)), some (.inl (nI c)), some (.inl x)], [.inl (M1 24 4), .inl 3, .inl (nI c), .inr (5, 24)])) [oc (none, M1), oz 0, oz 0, oz 0, oz 0, oz 0] rfl ⟨⟨s2, Nat.le_of_ble_eq_true rfl, Nat.le_of_ble_eq_true rfl, ⟨_, rfl⟩⟩, trivial, trivial, trivial, trivial, trivial, trivial⟩ ?_
  obtain ⟨M5, s6, a7, w8⟩ := rs_Mo_setCrane (d := d)  (M := M1) (c := c) (w := 3) (x := M1 24 4)  (by omega)
  have a7 : rv M5 = (f_Mo_setCrane ((f_Mo_setCrane ((rv M)) c 1 x).2) c 3 (((f_Mo_setCrane ((rv M)) c 1 x).2) 0 4)).2 := a7.trans (show (f_Mo_setCrane ((rv M1)) c 3 ((rv M1) 0 4)).2 = _ from by first | rfl | simp only [a3])
  have w8 : rf M M5 := rf_tr w4 w8
  refine wgo (g' := (M5, 17, [some (.inr (5, 24)), some (.inl (nI c)), some (.inl x)], [])) [oc (none, M5)] rfl ⟨⟨s6, Nat.le_of_ble_eq_true rfl, Nat.le_of_ble_eq_true rfl, ⟨_, rfl⟩⟩, trivial⟩ ?_
  have x9 : f_Mo_begins (rv M) c x = (0, (f_Mo_setCrane ((f_Mo_setCrane ((rv M)) c 1 x).2) c 3 (((f_Mo_setCrane ((rv M)) c 1 x).2) 0 4)).2) := by
    unfold f_Mo_begins
    rfl
  exact wend ⟨rfl, rfl⟩ ⟨rfl, a7.trans (congrArg Prod.snd x9).symm, w8⟩
def f_Mo_hasGoal (A : mm_M) (c : Nat) : Int32 := (if (f_Mo_ofCrane (A) c 1) = 1 then 1 else (if (f_Mo_ofCrane (A) c 1) = 3 then 1 else 0))
set_option maxRecDepth 20000 in
set_option maxHeartbeats 1000000 in
theorem sm_Mo_hasGoal {d : Nat} {M : mm_M} {c : Nat} (hc : c < 3) : ct_Sem (d + 2) 51 M [.inr (5, 24), .inl (nI c)] (some (f_Mo_hasGoal (rv M) c), M) := by
  refine SM_of (Nat.le_of_ble_eq_true rfl) ?_
  show mm_Wp pg_Mo_hasGoal rt_Mo_hasGoal (ct_Sem (d + 1)) (M, 0, [some (.inr (5, 24)), some (.inl (nI c))], []) _
  refine wgo (g' := (M, 3, [some (.inr (5, 24)), some (.inl (nI c))], [.inl 1, .inl (nI c), .inr (5, 24)])) [oz 0, oz 0, oz 0] rfl ⟨trivial, trivial, trivial, trivial⟩ ?_
  have s1 := sm_Mo_ofCrane (d := d)  (M := M) (c := c) (w := 1) (by omega)
  refine wgo (g' := (M, 7, [some (.inr (5, 24)), some (.inl (nI c))], [.inl 1, .inl (f_Mo_ofCrane (rv M) c 1)])) [oc (some (f_Mo_ofCrane (rv M) c 1), M), oz 0] rfl ⟨⟨s1, Nat.le_of_ble_eq_true rfl, Nat.le_of_ble_eq_true rfl, ⟨_, rfl⟩⟩, trivial, trivial⟩ ?_
  by_cases h2 : (f_Mo_ofCrane (rv M) c 1) = 1
  · have k3 : (f_Mo_ofCrane ((rv M)) c 1) = 1 := by
      have q : (f_Mo_ofCrane (rv M) c 1) = 1 := h2
      exact q
    refine wgo (g' := (M, 25, [some (.inr (5, 24)), some (.inl (nI c))], [.inl 1])) [oz 1, oz 0, oz 0] rfl ⟨h2, trivial, trivial, trivial⟩ ?_
    have x4 : f_Mo_hasGoal (rv M) c = 1 := by
      unfold f_Mo_hasGoal
      rw [if_pos k3]
    exact wend ⟨_, rfl, rfl, Or.inr rfl⟩ (congrArg (fun q => (some q, M)) x4.symm)
  · have k5 : ¬ ((f_Mo_ofCrane ((rv M)) c 1) = 1) := by
      have q : ¬ ((f_Mo_ofCrane (rv M) c 1) = 1) := h2
      exact q
    refine wgo (g' := (M, 13, [some (.inr (5, 24)), some (.inl (nI c))], [.inl 1, .inl (nI c), .inr (5, 24)])) [oz 0, oz 0, oz 0, oz 0] rfl ⟨h2, trivial, trivial, trivial, trivial⟩ ?_
    have s6 := sm_Mo_ofCrane (d := d)  (M := M) (c := c) (w := 1) (by omega)
    refine wgo (g' := (M, 17, [some (.inr (5, 24)), some (.inl (nI c))], [.inl 3, .inl (f_Mo_ofCrane (rv M) c 1)])) [oc (some (f_Mo_ofCrane (rv M) c 1), M), oz 0] rfl ⟨⟨s6, Nat.le_of_ble_eq_true rfl, Nat.le_of_ble_eq_true rfl, ⟨_, rfl⟩⟩, trivial, trivial⟩ ?_
    by_cases h7 : (f_Mo_ofCrane (rv M) c 1) = 3
    · have k8 : (f_Mo_ofCrane ((rv M)) c 1) = 3 := by
        have q : (f_Mo_ofCrane (rv M) c 1) = 3 := h7
        exact q
      refine wgo (g' := (M, 25, [some (.inr (5, 24)), some (.inl (nI c))], [.inl 1])) [oz 0, oz 0, oz 0] rfl ⟨(fun z => z h7), trivial, trivial, trivial⟩ ?_
      have x9 : f_Mo_hasGoal (rv M) c = 1 := by
        unfold f_Mo_hasGoal
        rw [if_neg k5, if_pos k8]
      exact wend ⟨_, rfl, rfl, Or.inr rfl⟩ (congrArg (fun q => (some q, M)) x9.symm)
    · have k10 : ¬ ((f_Mo_ofCrane ((rv M)) c 1) = 3) := by
        have q : ¬ ((f_Mo_ofCrane (rv M) c 1) = 3) := h7
        exact q
      refine wgo (g' := (M, 25, [some (.inr (5, 24)), some (.inl (nI c))], [.inl 0])) [oz 1, oz 0] rfl ⟨h7, trivial, trivial⟩ ?_
      have x11 : f_Mo_hasGoal (rv M) c = 0 := by
        unfold f_Mo_hasGoal
        rw [if_neg k5, if_neg k10]
      exact wend ⟨_, rfl, rfl, Or.inl rfl⟩ (congrArg (fun q => (some q, M)) x11.symm)
def f_Mo_goalOf (A : mm_M) (c : Nat) : Int32 := (if (f_Mo_ofCrane (A) c 1) = 1 then f_Mo_ofJob (A) (ix (f_Mo_ofCrane (A) c 2)) 0 else f_Mo_ofJob (A) (ix (f_Mo_ofCrane (A) c 2)) 1)
set_option maxRecDepth 20000 in
set_option maxHeartbeats 1000000 in
theorem sm_Mo_goalOf {d : Nat} {M : mm_M} {c : Nat} (hc : c < 3) (hj : okx 8 (f_Mo_ofCrane (rv M) c 2)) : ct_Sem (d + 2) 52 M [.inr (5, 24), .inl (nI c)] (some (f_Mo_goalOf (rv M) c), M) := by
  refine SM_of (Nat.le_of_ble_eq_true rfl) ?_
  show mm_Wp pg_Mo_goalOf rt_Mo_goalOf (ct_Sem (d + 1)) (M, 0, [some (.inr (5, 24)), some (.inl (nI c))], []) _
  refine wgo (g' := (M, 4, [some (.inr (5, 24)), some (.inl (nI c))], [.inl 2, .inl (nI c), .inr (5, 24), .inr (5, 24)])) [oz 0, oz 0, oz 0, oz 0] rfl ⟨trivial, trivial, trivial, trivial, trivial⟩ ?_
  have s1 := sm_Mo_ofCrane (d := d)  (M := M) (c := c) (w := 2) (by omega)
  refine wgo (g' := (M, 10, [some (.inr (5, 24)), some (.inl (nI c))], [.inl 1, .inl (nI c), .inr (5, 24), .inl (f_Mo_ofCrane (rv M) c 2), .inr (5, 24)])) [oc (some (f_Mo_ofCrane (rv M) c 2), M), oz 0, oz 0, oz 0] rfl ⟨⟨s1, Nat.le_of_ble_eq_true rfl, Nat.le_of_ble_eq_true rfl, ⟨_, rfl⟩⟩, trivial, trivial, trivial, trivial⟩ ?_
  have s2 := sm_Mo_ofCrane (d := d)  (M := M) (c := c) (w := 1) (by omega)
  refine wgo (g' := (M, 14, [some (.inr (5, 24)), some (.inl (nI c))], [.inl 1, .inl (f_Mo_ofCrane (rv M) c 1), .inl (f_Mo_ofCrane (rv M) c 2), .inr (5, 24)])) [oc (some (f_Mo_ofCrane (rv M) c 1), M), oz 0] rfl ⟨⟨s2, Nat.le_of_ble_eq_true rfl, Nat.le_of_ble_eq_true rfl, ⟨_, rfl⟩⟩, trivial, trivial⟩ ?_
  by_cases h3 : (f_Mo_ofCrane (rv M) c 1) = 1
  · have k4 : (f_Mo_ofCrane ((rv M)) c 1) = 1 := by
      have q : (f_Mo_ofCrane (rv M) c 1) = 1 := h3
      exact q
    refine wgo (g' := (M, 22, [some (.inr (5, 24)), some (.inl (nI c))], [.inl 0, .inl (f_Mo_ofCrane (rv M) c 2), .inr (5, 24)])) [oz 0, oz 0, oz 0] rfl ⟨(fun z => z h3), trivial, trivial, trivial⟩ ?_
    have s5 := sm_Mo_ofJob (d := d)  (M := M) (j := ix (f_Mo_ofCrane (rv M) c 2)) (w := 0) (by have q := hj.2; omega)
    rw [← (hj).1] at s5
    refine wgo (g' := (M, 25, [some (.inr (5, 24)), some (.inl (nI c))], [.inl (f_Mo_ofJob (rv M) (ix (f_Mo_ofCrane (rv M) c 2)) 0)])) [oc (some (f_Mo_ofJob (rv M) (ix (f_Mo_ofCrane (rv M) c 2)) 0), M)] rfl ⟨⟨s5, Nat.le_of_ble_eq_true rfl, Nat.le_of_ble_eq_true rfl, ⟨_, rfl⟩⟩, trivial⟩ ?_
    have x6 : f_Mo_goalOf (rv M) c = f_Mo_ofJob ((rv M)) (ix (f_Mo_ofCrane ((rv M)) c 2)) 0 := by
      unfold f_Mo_goalOf
      rw [if_pos k4]
    exact wend ⟨_, rfl, rfl⟩ (congrArg (fun q => (some q, M)) x6.symm)
  · have k7 : ¬ ((f_Mo_ofCrane ((rv M)) c 1) = 1) := by
      have q : ¬ ((f_Mo_ofCrane (rv M) c 1) = 1) := h3
      exact q
    refine wgo (g' := (M, 22, [some (.inr (5, 24)), some (.inl (nI c))], [.inl 1, .inl (f_Mo_ofCrane (rv M) c 2), .inr (5, 24)])) [oz 1, oz 0] rfl ⟨h3, trivial, trivial⟩ ?_
    have s8 := sm_Mo_ofJob (d := d)  (M := M) (j := ix (f_Mo_ofCrane (rv M) c 2)) (w := 1) (by have q := hj.2; omega)
    rw [← (hj).1] at s8
    refine wgo (g' := (M, 25, [some (.inr (5, 24)), some (.inl (nI c))], [.inl (f_Mo_ofJob (rv M) (ix (f_Mo_ofCrane (rv M) c 2)) 1)])) [oc (some (f_Mo_ofJob (rv M) (ix (f_Mo_ofCrane (rv M) c 2)) 1), M)] rfl ⟨⟨s8, Nat.le_of_ble_eq_true rfl, Nat.le_of_ble_eq_true rfl, ⟨_, rfl⟩⟩, trivial⟩ ?_
    have x9 : f_Mo_goalOf (rv M) c = f_Mo_ofJob ((rv M)) (ix (f_Mo_ofCrane ((rv M)) c 2)) 1 := by
      unfold f_Mo_goalOf
      rw [if_neg k7]
    exact wend ⟨_, rfl, rfl⟩ (congrArg (fun q => (some q, M)) x9.symm)
def f_Mo_reaches (A : mm_M) (c : Nat) (j : Nat) : Int32 := (if (f_Mo_in (f_Mo_ofJob (A) j 0) ((A) 1 c) ((A) 2 c)) = 0 then 0 else (if (f_Mo_in (f_Mo_ofJob (A) j 1) ((A) 1 c) ((A) 2 c)) = 0 then 0 else 1))
set_option maxRecDepth 20000 in
set_option maxHeartbeats 1000000 in
theorem sm_Mo_reaches {d : Nat} {M : mm_M} {c : Nat} {j : Nat} (hc : c < 3) (hj : j < 8) : ct_Sem (d + 2) 45 M [.inr (5, 24), .inl (nI c), .inl (nI j)] (some (f_Mo_reaches (rv M) c j), M) := by
  refine SM_of (Nat.le_of_ble_eq_true rfl) ?_
  show mm_Wp pg_Mo_reaches rt_Mo_reaches (ct_Sem (d + 1)) (M, 0, [some (.inr (5, 24)), some (.inl (nI c)), some (.inl (nI j))], []) _
  refine wgo (g' := (M, 3, [some (.inr (5, 24)), some (.inl (nI c)), some (.inl (nI j))], [.inl 0, .inl (nI j), .inr (5, 24)])) [oz 0, oz 0, oz 0] rfl ⟨trivial, trivial, trivial, trivial⟩ ?_
  have s1 := sm_Mo_ofJob (d := d)  (M := M) (j := j) (w := 0) (by omega)
  refine wgo (g' := (M, 18, [some (.inr (5, 24)), some (.inl (nI c)), some (.inl (nI j))], [.inl (M 26 c), .inl (M 25 c), .inl (f_Mo_ofJob (rv M) j 0)])) [oc (some (f_Mo_ofJob (rv M) j 0), M), oz 0, oz 0, oz 0, oz c, oz 0, oz 0, oz 0, oz c] rfl ⟨⟨s1, Nat.le_of_ble_eq_true rfl, Nat.le_of_ble_eq_true rfl, ⟨_, rfl⟩⟩, trivial, trivial, trivial, ⟨rfl, (show c < 3 from by omega)⟩, trivial, trivial, trivial, ⟨rfl, (show c < 3 from by omega)⟩, trivial⟩ ?_
  have s2 := sm_Mo_in (d := d)  (M := M) (v := f_Mo_ofJob (rv M) j 0) (a := M 25 c) (e := M 26 c) 
  refine wgo (g' := (M, 21, [some (.inr (5, 24)), some (.inl (nI c)), some (.inl (nI j))], [.inl (f_Mo_in (f_Mo_ofJob (rv M) j 0) (M 25 c) (M 26 c))])) [oc (some (f_Mo_in (f_Mo_ofJob (rv M) j 0) (M 25 c) (M 26 c)), M)] rfl ⟨⟨s2, Nat.le_of_ble_eq_true rfl, Nat.le_of_ble_eq_true rfl, trivial⟩, trivial⟩ ?_
  by_cases h3 : (f_Mo_in (f_Mo_ofJob (rv M) j 0) (M 25 c) (M 26 c)) = 0
  · have k4 : (f_Mo_in (f_Mo_ofJob ((rv M)) j 0) (((rv M)) 1 c) (((rv M)) 2 c)) = 0 := by
      have q : (f_Mo_in (f_Mo_ofJob (rv M) j 0) ((rv M) 1 c) ((rv M) 2 c)) = 0 := h3
      exact q
    refine wgo (g' := (M, 53, [some (.inr (5, 24)), some (.inl (nI c)), some (.inl (nI j))], [.inl 0])) [oz 1, oz 0] rfl ⟨h3, trivial, trivial⟩ ?_
    have x5 : f_Mo_reaches (rv M) c j = 0 := by
      unfold f_Mo_reaches
      rw [if_pos k4]
    exact wend ⟨_, rfl, rfl, Or.inl rfl⟩ (congrArg (fun q => (some q, M)) x5.symm)
  · have k6 : ¬ ((f_Mo_in (f_Mo_ofJob ((rv M)) j 0) (((rv M)) 1 c) (((rv M)) 2 c)) = 0) := by
      have q : ¬ ((f_Mo_in (f_Mo_ofJob (rv M) j 0) ((rv M) 1 c) ((rv M) 2 c)) = 0) := h3
      exact q
    refine wgo (g' := (M, 27, [some (.inr (5, 24)), some (.inl (nI c)), some (.inl (nI j))], [.inl 1, .inl (nI j), .inr (5, 24)])) [oz 0, oz 0, oz 0, oz 0] rfl ⟨h3, trivial, trivial, trivial, trivial⟩ ?_
    have s7 := sm_Mo_ofJob (d := d)  (M := M) (j := j) (w := 1) (by omega)
    refine wgo (g' := (M, 42, [some (.inr (5, 24)), some (.inl (nI c)), some (.inl (nI j))], [.inl (M 26 c), .inl (M 25 c), .inl (f_Mo_ofJob (rv M) j 1)])) [oc (some (f_Mo_ofJob (rv M) j 1), M), oz 0, oz 0, oz 0, oz c, oz 0, oz 0, oz 0, oz c] rfl ⟨⟨s7, Nat.le_of_ble_eq_true rfl, Nat.le_of_ble_eq_true rfl, ⟨_, rfl⟩⟩, trivial, trivial, trivial, ⟨rfl, (show c < 3 from by omega)⟩, trivial, trivial, trivial, ⟨rfl, (show c < 3 from by omega)⟩, trivial⟩ ?_
    have s8 := sm_Mo_in (d := d)  (M := M) (v := f_Mo_ofJob (rv M) j 1) (a := M 25 c) (e := M 26 c) 
    refine wgo (g' := (M, 45, [some (.inr (5, 24)), some (.inl (nI c)), some (.inl (nI j))], [.inl (f_Mo_in (f_Mo_ofJob (rv M) j 1) (M 25 c) (M 26 c))])) [oc (some (f_Mo_in (f_Mo_ofJob (rv M) j 1) (M 25 c) (M 26 c)), M)] rfl ⟨⟨s8, Nat.le_of_ble_eq_true rfl, Nat.le_of_ble_eq_true rfl, trivial⟩, trivial⟩ ?_
    by_cases h9 : (f_Mo_in (f_Mo_ofJob (rv M) j 1) (M 25 c) (M 26 c)) = 0
    · have k10 : (f_Mo_in (f_Mo_ofJob ((rv M)) j 1) (((rv M)) 1 c) (((rv M)) 2 c)) = 0 := by
        have q : (f_Mo_in (f_Mo_ofJob (rv M) j 1) ((rv M) 1 c) ((rv M) 2 c)) = 0 := h9
        exact q
      refine wgo (g' := (M, 53, [some (.inr (5, 24)), some (.inl (nI c)), some (.inl (nI j))], [.inl 0])) [oz 1, oz 0] rfl ⟨h9, trivial, trivial⟩ ?_
      have x11 : f_Mo_reaches (rv M) c j = 0 := by
        unfold f_Mo_reaches
        rw [if_neg k6, if_pos k10]
      exact wend ⟨_, rfl, rfl, Or.inl rfl⟩ (congrArg (fun q => (some q, M)) x11.symm)
    · have k12 : ¬ ((f_Mo_in (f_Mo_ofJob ((rv M)) j 1) (((rv M)) 1 c) (((rv M)) 2 c)) = 0) := by
        have q : ¬ ((f_Mo_in (f_Mo_ofJob (rv M) j 1) ((rv M) 1 c) ((rv M) 2 c)) = 0) := h9
        exact q
      refine wgo (g' := (M, 53, [some (.inr (5, 24)), some (.inl (nI c)), some (.inl (nI j))], [.inl 1])) [oz 0, oz 0, oz 0] rfl ⟨h9, trivial, trivial, trivial⟩ ?_
      have x13 : f_Mo_reaches (rv M) c j = 1 := by
        unfold f_Mo_reaches
        rw [if_neg k6, if_neg k12]
      exact wend ⟨_, rfl, rfl, Or.inr rfl⟩ (congrArg (fun q => (some q, M)) x13.symm)
def f_Mo_giveTo (A : mm_M) (j : Nat) (c : Nat) : Int32 × mm_M := (0, mm_up ((f_Mo_setJob ((f_Mo_setJob ((f_Mo_setJob (A) j 3 1).2) j 4 (nI c)).2) j 6 (((f_Mo_setJob ((f_Mo_setJob (A) j 3 1).2) j 4 (nI c)).2) 3 2)).2) 3 2 ((((f_Mo_setJob ((f_Mo_setJob ((f_Mo_setJob (A) j 3 1).2) j 4 (nI c)).2) j 6 (((f_Mo_setJob ((f_Mo_setJob (A) j 3 1).2) j 4 (nI c)).2) 3 2)).2) 3 2) + 1))
set_option maxRecDepth 20000 in
set_option maxHeartbeats 1000000 in
theorem rs_Mo_giveTo {d : Nat} {M : mm_M} {j : Nat} {c : Nat}  (hj : j < 8) : RS (d + 2) 46  M [.inr (5, 24), .inl (nI j), .inl (nI c)] (none) (f_Mo_giveTo (rv M) j c).2 := by
  refine RS_of (Nat.le_of_ble_eq_true rfl) ?_
  show mm_Wp pg_Mo_giveTo rt_Mo_giveTo (ct_Sem (d + 1)) (M, 0, [some (.inr (5, 24)), some (.inl (nI j)), some (.inl (nI c))], []) _
  refine wgo (g' := (M, 4, [some (.inr (5, 24)), some (.inl (nI j)), some (.inl (nI c))], [.inl 1, .inl 3, .inl (nI j), .inr (5, 24)])) [oz 0, oz 0, oz 0, oz 0] rfl ⟨trivial, trivial, trivial, trivial, trivial⟩ ?_
  obtain ⟨M1, s2, a3, w4⟩ := rs_Mo_setJob (d := d)  (M := M) (j := j) (w := 3) (x := 1)  (by omega)
  have a3 : rv M1 = (f_Mo_setJob ((rv M)) j 3 1).2 := a3.trans (show (f_Mo_setJob ((rv M)) j 3 1).2 = _ from by first | rfl | simp only [rv])
  have w4 : rf M M1 := rf_tr rf_rf w4
  refine wgo (g' := (M1, 11, [some (.inr (5, 24)), some (.inl (nI j)), some (.inl (nI c))], [.inl (nI c), .inl 4, .inl (nI j), .inr (5, 24)])) [oc (none, M1), oz 0, oz 0, oz 0, oz 0] rfl ⟨⟨s2, Nat.le_of_ble_eq_true rfl, Nat.le_of_ble_eq_true rfl, ⟨_, rfl⟩⟩, trivial, trivial, trivial, trivial, trivial⟩ ?_
  obtain ⟨M5, s6, a7, w8⟩ := rs_Mo_setJob (d := d)  (M := M1) (j := j) (w := 4) (x := nI c)  (by omega)
  have a7 : rv M5 = (f_Mo_setJob ((f_Mo_setJob ((rv M)) j 3 1).2) j 4 (nI c)).2 := a7.trans (show (f_Mo_setJob ((rv M1)) j 4 (nI c)).2 = _ from by first | rfl | simp only [a3])
  have w8 : rf M M5 := rf_tr w4 w8
  refine wgo (g' := (M5, 24, [some (.inr (5, 24)), some (.inl (nI j)), some (.inl (nI c))], [.inl (M5 27 2), .inl 6, .inl (nI j), .inr (5, 24)])) [oc (none, M5), oz 0, oz 0, oz 0, oz 0, oz 0, oz 0, oz 2] rfl ⟨⟨s6, Nat.le_of_ble_eq_true rfl, Nat.le_of_ble_eq_true rfl, ⟨_, rfl⟩⟩, trivial, trivial, trivial, trivial, trivial, trivial, ⟨rfl, by decide⟩, trivial⟩ ?_
  obtain ⟨M9, s10, a11, w12⟩ := rs_Mo_setJob (d := d)  (M := M5) (j := j) (w := 6) (x := M5 27 2)  (by omega)
  have a11 : rv M9 = (f_Mo_setJob ((f_Mo_setJob ((f_Mo_setJob ((rv M)) j 3 1).2) j 4 (nI c)).2) j 6 (((f_Mo_setJob ((f_Mo_setJob ((rv M)) j 3 1).2) j 4 (nI c)).2) 3 2)).2 := a11.trans (show (f_Mo_setJob ((rv M5)) j 6 ((rv M5) 3 2)).2 = _ from by first | rfl | simp only [a3, a7])
  have w12 : rf M M9 := rf_tr w8 w12
  refine wgo (g' := (mm_up M9 27 2 ((M9 27 2) + 1), 37, [some (.inr (5, 24)), some (.inl (nI j)), some (.inl (nI c))], [])) [oc (none, M9), oz 0, oz 0, oz 0, oz 0, oz 2, oz 0, oz 0, oz 2] rfl ⟨⟨s10, Nat.le_of_ble_eq_true rfl, Nat.le_of_ble_eq_true rfl, ⟨_, rfl⟩⟩, trivial, trivial, trivial, trivial, ⟨rfl, by decide⟩, trivial, trivial, ⟨rfl, by decide⟩, trivial⟩ ?_
  generalize e14 : mm_up M9 27 2 ((M9 27 2) + 1) = M13
  have a15 : rv M13 = mm_up ((f_Mo_setJob ((f_Mo_setJob ((f_Mo_setJob ((rv M)) j 3 1).2) j 4 (nI c)).2) j 6 (((f_Mo_setJob ((f_Mo_setJob ((rv M)) j 3 1).2) j 4 (nI c)).2) 3 2)).2) 3 2 ((((f_Mo_setJob ((f_Mo_setJob ((f_Mo_setJob ((rv M)) j 3 1).2) j 4 (nI c)).2) j 6 (((f_Mo_setJob ((f_Mo_setJob ((rv M)) j 3 1).2) j 4 (nI c)).2) 3 2)).2) 3 2) + 1) := by
    rw [← e14]
    refine (rv_up 3).trans ?_
    show mm_up ((rv M9)) 3 2 (((rv M9) 3 2) + 1) = _
    first | rfl | simp only [a3, a7, a11]
  have w16 : rf M M13 := by rw [← e14]; exact rf_up w12 (by decide)
  have x17 : f_Mo_giveTo (rv M) j c = (0, mm_up ((f_Mo_setJob ((f_Mo_setJob ((f_Mo_setJob ((rv M)) j 3 1).2) j 4 (nI c)).2) j 6 (((f_Mo_setJob ((f_Mo_setJob ((rv M)) j 3 1).2) j 4 (nI c)).2) 3 2)).2) 3 2 ((((f_Mo_setJob ((f_Mo_setJob ((f_Mo_setJob ((rv M)) j 3 1).2) j 4 (nI c)).2) j 6 (((f_Mo_setJob ((f_Mo_setJob ((rv M)) j 3 1).2) j 4 (nI c)).2) 3 2)).2) 3 2) + 1)) := by
    unfold f_Mo_giveTo
    rfl
  exact wend ⟨rfl, rfl⟩ ⟨rfl, a15.trans (congrArg Prod.snd x17).symm, w16⟩
def f_fst : Nat → mm_M → Nat → Int32 → Nat → Int32
  | 0, _, _, _, _ => 0
  | r + 1, A, c, x, i => (if ((A) 0 5) ≤ (nI i) then x else (if (f_Mo_ofJob (A) i 3) = 1 then (if (f_Mo_ofJob (A) i 4) = (nI c) then (if x < 0 then (f_fst r (A) c (nI i) (i + 1)) else (if (f_Mo_ofJob (A) (ix x) 6) ≤ (f_Mo_ofJob (A) i 6) then (f_fst r (A) c x (i + 1)) else (f_fst r (A) c (nI i) (i + 1)))) else (f_fst r (A) c x (i + 1))) else (f_fst r (A) c x (i + 1))))
set_option maxRecDepth 20000 in
set_option maxHeartbeats 1000000 in
theorem lp_fst {d : Nat} {M : mm_M} {c : Nat}  {n : Nat} (hn : rv M 0 5 = nI n) (hn8 : n ≤ 8) : ∀ (r : Nat) (x : Int32) (i : Nat) (o4 : Option mm_V), (x < 0 ∨ okx 8 x) → (i ≤ n) → (n < i + r) → mm_Wp pg_Mo_firstOf rt_Mo_firstOf (ct_Sem (d + 1)) (M, 4, [some (.inr (5, 24)), some (.inl (nI c)), some (.inl x), some (.inl (nI i)), o4], []) (fun res => res = (some (f_fst r (rv M) c x i), M)) := by
  intro r
  induction r with
  | zero =>
    intro x i o4 hx hi hr
    exfalso; omega
  | succ r ih =>
    intro x i o4 hx hi hr
    refine wgo (g' := (M, 9, [some (.inr (5, 24)), some (.inl (nI c)), some (.inl x), some (.inl (nI i)), o4], [.inl (M 24 5), .inl (nI i)])) [oz 0, oz 0, oz 0] rfl ⟨trivial, trivial, trivial, trivial⟩ ?_
    by_cases h1 : (M 24 5) ≤ (nI i)
    · have k2 : (((rv M)) 0 5) ≤ (nI i) := by
        have q : ((rv M) 0 5) ≤ (nI i) := h1
        exact q
      refine wgo (g' := (M, 74, [some (.inr (5, 24)), some (.inl (nI c)), some (.inl x), some (.inl (nI i)), o4], [.inl x])) [oz 1, oz 0] rfl ⟨h1, trivial, trivial⟩ ?_
      have x3 : f_fst (r + 1) (rv M) c x i = x := by
        rw [f_fst]
        rw [if_pos k2]
      exact wend ⟨_, rfl, rfl⟩ (congrArg (fun q => (some q, M)) x3.symm)
    · have k4 : ¬ ((((rv M)) 0 5) ≤ (nI i)) := by
        have q : ¬ (((rv M) 0 5) ≤ (nI i)) := h1
        exact q
      refine wgo (g' := (M, 15, [some (.inr (5, 24)), some (.inl (nI c)), some (.inl x), some (.inl (nI i)), o4], [.inl 3, .inl (nI i), .inr (5, 24)])) [oz 0, oz 0, oz 0, oz 0] rfl ⟨h1, trivial, trivial, trivial, trivial⟩ ?_
      have s5 := sm_Mo_ofJob (d := d)  (M := M) (j := i) (w := 3) (by have q := (nI_sl hn (by omega) hi k4); omega)
      refine wgo (g' := (M, 19, [some (.inr (5, 24)), some (.inl (nI c)), some (.inl x), some (.inl (nI i)), o4], [.inl 1, .inl (f_Mo_ofJob (rv M) i 3)])) [oc (some (f_Mo_ofJob (rv M) i 3), M), oz 0] rfl ⟨⟨s5, Nat.le_of_ble_eq_true rfl, Nat.le_of_ble_eq_true rfl, ⟨_, rfl⟩⟩, trivial, trivial⟩ ?_
      by_cases h6 : (f_Mo_ofJob (rv M) i 3) = 1
      · have k7 : (f_Mo_ofJob ((rv M)) i 3) = 1 := by
          have q : (f_Mo_ofJob (rv M) i 3) = 1 := h6
          exact q
        refine wgo (g' := (M, 25, [some (.inr (5, 24)), some (.inl (nI c)), some (.inl x), some (.inl (nI i)), o4], [.inl 4, .inl (nI i), .inr (5, 24)])) [oz 0, oz 0, oz 0, oz 0] rfl ⟨(fun z => z h6), trivial, trivial, trivial, trivial⟩ ?_
        have s8 := sm_Mo_ofJob (d := d)  (M := M) (j := i) (w := 4) (by have q := (nI_sl hn (by omega) hi k4); omega)
        refine wgo (g' := (M, 29, [some (.inr (5, 24)), some (.inl (nI c)), some (.inl x), some (.inl (nI i)), o4], [.inl (nI c), .inl (f_Mo_ofJob (rv M) i 4)])) [oc (some (f_Mo_ofJob (rv M) i 4), M), oz 0] rfl ⟨⟨s8, Nat.le_of_ble_eq_true rfl, Nat.le_of_ble_eq_true rfl, ⟨_, rfl⟩⟩, trivial, trivial⟩ ?_
        by_cases h9 : (f_Mo_ofJob (rv M) i 4) = (nI c)
        · have k10 : (f_Mo_ofJob ((rv M)) i 4) = (nI c) := by
            have q : (f_Mo_ofJob (rv M) i 4) = (nI c) := h9
            exact q
          refine wgo (g' := (M, 45, [some (.inr (5, 24)), some (.inl (nI c)), some (.inl x), some (.inl (nI i)), some (.inl 1)], [.inl x])) [oz 0, oz 0, oz 0, oz 0, oz 0, oz 0, oz 0] rfl ⟨(fun z => z h9), trivial, trivial, Nat.le_of_ble_eq_true rfl, trivial, (by decide), trivial, trivial⟩ ?_
          by_cases h11 : x < 0
          · have k12 : x < 0 := by
              have q : x < 0 := h11
              exact q
            refine wgo (g' := (M, 4, [some (.inr (5, 24)), some (.inl (nI c)), some (.inl (nI i)), some (.inl ((nI i) + 1)), some (.inl 1)], [])) [oz 1, oz 0, oz 0, oz 0, oz 0] rfl ⟨h11, trivial, Nat.le_of_ble_eq_true rfl, trivial, trivial, trivial⟩ ?_
            rw [nI_1 i]
            have x13 : f_fst (r + 1) (rv M) c x i = f_fst r ((rv M)) c (nI i) (i + 1) := by
              rw [f_fst]
              rw [if_neg k4, if_pos k7, if_pos k10, if_pos k12]
            rw [x13]
            exact ih (nI i) (i + 1) (some (.inl 1)) (Or.inr (okx_nI (Nat.lt_of_lt_of_le (nI_sl hn (by omega) hi k4) hn8) (by decide))) (nI_sl hn (by omega) hi k4) (by omega)
          · have k14 : ¬ (x < 0) := by
              have q : ¬ (x < 0) := h11
              exact q
            refine wgo (g' := (M, 52, [some (.inr (5, 24)), some (.inl (nI c)), some (.inl x), some (.inl (nI i)), some (.inl 1)], [.inl 6, .inl (nI i), .inr (5, 24)])) [oz 0, oz 0, oz 0, oz 0] rfl ⟨h11, trivial, trivial, trivial, trivial⟩ ?_
            have s15 := sm_Mo_ofJob (d := d)  (M := M) (j := i) (w := 6) (by have q := (nI_sl hn (by omega) hi k4); omega)
            refine wgo (g' := (M, 59, [some (.inr (5, 24)), some (.inl (nI c)), some (.inl x), some (.inl (nI i)), some (.inl 1)], [.inl 6, .inl x, .inr (5, 24), .inl (f_Mo_ofJob (rv M) i 6)])) [oc (some (f_Mo_ofJob (rv M) i 6), M), oz 0, oz 0, oz 0] rfl ⟨⟨s15, Nat.le_of_ble_eq_true rfl, Nat.le_of_ble_eq_true rfl, ⟨_, rfl⟩⟩, trivial, trivial, trivial, trivial⟩ ?_
            have s16 := sm_Mo_ofJob (d := d)  (M := M) (j := ix x) (w := 6) (by have q := (hx.resolve_left k14).2; omega)
            rw [← ((hx.resolve_left k14)).1] at s16
            refine wgo (g' := (M, 62, [some (.inr (5, 24)), some (.inl (nI c)), some (.inl x), some (.inl (nI i)), some (.inl 1)], [.inl (f_Mo_ofJob (rv M) (ix x) 6), .inl (f_Mo_ofJob (rv M) i 6)])) [oc (some (f_Mo_ofJob (rv M) (ix x) 6), M)] rfl ⟨⟨s16, Nat.le_of_ble_eq_true rfl, Nat.le_of_ble_eq_true rfl, ⟨_, rfl⟩⟩, trivial⟩ ?_
            by_cases h17 : (f_Mo_ofJob (rv M) (ix x) 6) ≤ (f_Mo_ofJob (rv M) i 6)
            · have k18 : (f_Mo_ofJob ((rv M)) (ix x) 6) ≤ (f_Mo_ofJob ((rv M)) i 6) := by
                have q : (f_Mo_ofJob (rv M) (ix x) 6) ≤ (f_Mo_ofJob (rv M) i 6) := h17
                exact q
              refine wgo (g' := (M, 4, [some (.inr (5, 24)), some (.inl (nI c)), some (.inl x), some (.inl ((nI i) + 1)), some (.inl 1)], [])) [oz 1, oz 0, oz 0] rfl ⟨h17, trivial, trivial, trivial⟩ ?_
              rw [nI_1 i]
              have x19 : f_fst (r + 1) (rv M) c x i = f_fst r ((rv M)) c x (i + 1) := by
                rw [f_fst]
                rw [if_neg k4, if_pos k7, if_pos k10, if_neg k14, if_pos k18]
              rw [x19]
              exact ih x (i + 1) (some (.inl 1)) hx (nI_sl hn (by omega) hi k4) (by omega)
            · have k20 : ¬ ((f_Mo_ofJob ((rv M)) (ix x) 6) ≤ (f_Mo_ofJob ((rv M)) i 6)) := by
                have q : ¬ ((f_Mo_ofJob (rv M) (ix x) 6) ≤ (f_Mo_ofJob (rv M) i 6)) := h17
                exact q
              refine wgo (g' := (M, 4, [some (.inr (5, 24)), some (.inl (nI c)), some (.inl (nI i)), some (.inl ((nI i) + 1)), some (.inl 1)], [])) [oz 0, oz 0, oz 0, oz 0, oz 0] rfl ⟨h17, trivial, Nat.le_of_ble_eq_true rfl, trivial, trivial, trivial⟩ ?_
              rw [nI_1 i]
              have x21 : f_fst (r + 1) (rv M) c x i = f_fst r ((rv M)) c (nI i) (i + 1) := by
                rw [f_fst]
                rw [if_neg k4, if_pos k7, if_pos k10, if_neg k14, if_neg k20]
              rw [x21]
              exact ih (nI i) (i + 1) (some (.inl 1)) (Or.inr (okx_nI (Nat.lt_of_lt_of_le (nI_sl hn (by omega) hi k4) hn8) (by decide))) (nI_sl hn (by omega) hi k4) (by omega)
        · have k22 : ¬ ((f_Mo_ofJob ((rv M)) i 4) = (nI c)) := by
            have q : ¬ ((f_Mo_ofJob (rv M) i 4) = (nI c)) := h9
            exact q
          refine wgo (g' := (M, 4, [some (.inr (5, 24)), some (.inl (nI c)), some (.inl x), some (.inl ((nI i) + 1)), some (.inl 0)], [])) [oz 1, oz 0, oz 0, oz 0, oz 1, oz 0, oz 0] rfl ⟨h9, trivial, Nat.le_of_ble_eq_true rfl, trivial, rfl, trivial, trivial, trivial⟩ ?_
          rw [nI_1 i]
          have x23 : f_fst (r + 1) (rv M) c x i = f_fst r ((rv M)) c x (i + 1) := by
            rw [f_fst]
            rw [if_neg k4, if_pos k7, if_neg k22]
          rw [x23]
          exact ih x (i + 1) (some (.inl 0)) hx (nI_sl hn (by omega) hi k4) (by omega)
      · have k24 : ¬ ((f_Mo_ofJob ((rv M)) i 3) = 1) := by
          have q : ¬ ((f_Mo_ofJob (rv M) i 3) = 1) := h6
          exact q
        refine wgo (g' := (M, 4, [some (.inr (5, 24)), some (.inl (nI c)), some (.inl x), some (.inl ((nI i) + 1)), some (.inl 0)], [])) [oz 1, oz 0, oz 0, oz 0, oz 1, oz 0, oz 0] rfl ⟨h6, trivial, Nat.le_of_ble_eq_true rfl, trivial, rfl, trivial, trivial, trivial⟩ ?_
        rw [nI_1 i]
        have x25 : f_fst (r + 1) (rv M) c x i = f_fst r ((rv M)) c x (i + 1) := by
          rw [f_fst]
          rw [if_neg k4, if_neg k24]
        rw [x25]
        exact ih x (i + 1) (some (.inl 0)) hx (nI_sl hn (by omega) hi k4) (by omega)
def f_Mo_firstOf (A : mm_M) (c : Nat) : Int32 := (f_fst 9 (A) c ((-1)) 0)
set_option maxRecDepth 20000 in
set_option maxHeartbeats 1000000 in
theorem sm_Mo_firstOf {d : Nat} {M : mm_M} {c : Nat} {n : Nat} (hn : rv M 0 5 = nI n) (hn8 : n ≤ 8) : ct_Sem (d + 2) 50 M [.inr (5, 24), .inl (nI c)] (some (f_Mo_firstOf (rv M) c), M) := by
  refine SM_of (Nat.le_of_ble_eq_true rfl) ?_
  show mm_Wp pg_Mo_firstOf rt_Mo_firstOf (ct_Sem (d + 1)) (M, 0, [some (.inr (5, 24)), some (.inl (nI c)), none, none, none], []) _
  refine wgo (g' := (M, 4, [some (.inr (5, 24)), some (.inl (nI c)), some (.inl ((-1))), some (.inl 0), none], [])) [oz 0, oz 0, oz 0, oz 0] rfl ⟨trivial, Nat.le_of_ble_eq_true rfl, trivial, Nat.le_of_ble_eq_true rfl, trivial⟩ ?_
  have x1 : f_Mo_firstOf (rv M) c = f_fst 9 ((rv M)) c ((-1)) 0 := by
    unfold f_Mo_firstOf
    rfl
  rw [x1]
  exact lp_fst (d := d)  (M := M) hn hn8 9 ((-1)) 0 (none) (Or.inl (by decide)) (Nat.zero_le _) (by omega)
