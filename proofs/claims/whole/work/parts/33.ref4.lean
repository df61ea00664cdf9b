/-- whoever has a goal has a job -/
def rgl (X : mm_M) : Prop := ∀ q, q < 3 → ¬ f_Mo_hasGoal X q = 0 → okx 8 (f_Mo_ofCrane X q 2)
def rnn (X : mm_M) (n : Nat) : Prop := X 0 1 = nI n ∧ n ≤ 3
def f_gw87 (A : mm_M) (c : Nat) (a : Int32) (t : Int32) : Int32 × mm_M := (if t ≤ a then (0, A) else (0, (f_Mo_goes (A) c t).2))
set_option maxRecDepth 20000 in
set_option maxHeartbeats 1000000 in
theorem sg_gw87 {d : Nat} {M : mm_M} {A : mm_M} {Mz : mm_M} {c : Nat} {a : Int32} {t : Int32}  (hA : rv Mz = A) (hf : rf M Mz) (hc : c < 3) : mm_Wp pg_Mo_givesWay rt_Mo_givesWay (ct_Sem (d + 2)) (Mz, 87, [some (.inr (5, 24)), some (.inl (nI c)), some (.inl a), some (.inl t)], []) (rQ M (none) (f_gw87 A c a t).2) := by
  refine wgo (g' := (Mz, 89, [some (.inr (5, 24)), some (.inl (nI c)), some (.inl a), some (.inl t)], [.inl a, .inl t])) [oz 0, oz 0] rfl ⟨trivial, trivial, trivial⟩ ?_
  by_cases h1 : t ≤ a
  · have k2 : t ≤ a := by
      have q : t ≤ a := h1
      first | exact q | (simp only [hA] at q; exact q)
    refine wgo (g' := (Mz, 184, [some (.inr (5, 24)), some (.inl (nI c)), some (.inl a), some (.inl t)], [])) [oz 1, oz 0] rfl ⟨h1, trivial, trivial⟩ ?_
    have x3 : f_gw87 A c a t = (0, A) := by
      unfold f_gw87
      rw [if_pos k2]
    exact wend ⟨rfl, rfl⟩ ⟨rfl, hA.trans (congrArg Prod.snd x3).symm, hf⟩
  · have k4 : ¬ (t ≤ a) := by
      have q : ¬ (t ≤ a) := h1
      first | exact q | (simp only [hA] at q; exact q)
    refine wgo (g' := (Mz, 95, [some (.inr (5, 24)), some (.inl (nI c)), some (.inl a), some (.inl t)], [.inl t, .inl (nI c), .inr (5, 24)])) [oz 0, oz 0, oz 0, oz 0] rfl ⟨h1, trivial, trivial, trivial, trivial⟩ ?_
    obtain ⟨M5, s6, a7, w8⟩ := rs_Mo_goes (d := d)  (M := Mz) (c := c) (t := t)  hc
    have a7 : rv M5 = (f_Mo_goes (A) c t).2 := a7.trans (show (f_Mo_goes ((rv Mz)) c t).2 = _ from by first | rfl | simp only [hA])
    have w8 : rf M M5 := rf_tr hf w8
    refine wgo (g' := (M5, 184, [some (.inr (5, 24)), some (.inl (nI c)), some (.inl a), some (.inl t)], [])) [oc (some ((f_Mo_goes ((rv Mz)) c t).1), M5), oz 0, oz 0] rfl ⟨⟨s6, Nat.le_of_ble_eq_true rfl, Nat.le_of_ble_eq_true rfl, ⟨_, rfl⟩⟩, trivial, trivial, trivial⟩ ?_
    have x9 : f_gw87 A c a t = (0, (f_Mo_goes (A) c t).2) := by
      unfold f_gw87
      rw [if_neg k4]
    exact wend ⟨rfl, rfl⟩ ⟨rfl, a7.trans (congrArg Prod.snd x9).symm, w8⟩
def f_gw172 (A : mm_M) (c : Nat) (a : Int32) (t : Int32) : Int32 × mm_M := (if a ≤ t then (0, A) else (0, (f_Mo_goes (A) c t).2))
set_option maxRecDepth 20000 in
set_option maxHeartbeats 1000000 in
theorem sg_gw172 {d : Nat} {M : mm_M} {A : mm_M} {Mz : mm_M} {c : Nat} {a : Int32} {t : Int32}  (hA : rv Mz = A) (hf : rf M Mz) (hc : c < 3) : mm_Wp pg_Mo_givesWay rt_Mo_givesWay (ct_Sem (d + 2)) (Mz, 172, [some (.inr (5, 24)), some (.inl (nI c)), some (.inl a), some (.inl t)], []) (rQ M (none) (f_gw172 A c a t).2) := by
  refine wgo (g' := (Mz, 174, [some (.inr (5, 24)), some (.inl (nI c)), some (.inl a), some (.inl t)], [.inl a, .inl t])) [oz 0, oz 0] rfl ⟨trivial, trivial, trivial⟩ ?_
  by_cases h1 : a ≤ t
  · have k2 : a ≤ t := by
      have q : a ≤ t := h1
      first | exact q | (simp only [hA] at q; exact q)
    refine wgo (g' := (Mz, 184, [some (.inr (5, 24)), some (.inl (nI c)), some (.inl a), some (.inl t)], [])) [oz 1] rfl ⟨h1, trivial⟩ ?_
    have x3 : f_gw172 A c a t = (0, A) := by
      unfold f_gw172
      rw [if_pos k2]
    exact wend ⟨rfl, rfl⟩ ⟨rfl, hA.trans (congrArg Prod.snd x3).symm, hf⟩
  · have k4 : ¬ (a ≤ t) := by
      have q : ¬ (a ≤ t) := h1
      first | exact q | (simp only [hA] at q; exact q)
    refine wgo (g' := (Mz, 180, [some (.inr (5, 24)), some (.inl (nI c)), some (.inl a), some (.inl t)], [.inl t, .inl (nI c), .inr (5, 24)])) [oz 0, oz 0, oz 0, oz 0] rfl ⟨h1, trivial, trivial, trivial, trivial⟩ ?_
    obtain ⟨M5, s6, a7, w8⟩ := rs_Mo_goes (d := d)  (M := Mz) (c := c) (t := t)  hc
    have a7 : rv M5 = (f_Mo_goes (A) c t).2 := a7.trans (show (f_Mo_goes ((rv Mz)) c t).2 = _ from by first | rfl | simp only [hA])
    have w8 : rf M M5 := rf_tr hf w8
    refine wgo (g' := (M5, 184, [some (.inr (5, 24)), some (.inl (nI c)), some (.inl a), some (.inl t)], [])) [oc (some ((f_Mo_goes ((rv Mz)) c t).1), M5), oz 0] rfl ⟨⟨s6, Nat.le_of_ble_eq_true rfl, Nat.le_of_ble_eq_true rfl, ⟨_, rfl⟩⟩, trivial, trivial⟩ ?_
    have x9 : f_gw172 A c a t = (0, (f_Mo_goes (A) c t).2) := by
      unfold f_gw172
      rw [if_neg k4]
    exact wend ⟨rfl, rfl⟩ ⟨rfl, a7.trans (congrArg Prod.snd x9).symm, w8⟩
def f_gw102 (A : mm_M) (c : Nat) (a : Int32) : Int32 × mm_M := (if ((A) 0 1) ≤ ((nI c) + 1) then (0, A) else (if (f_Mo_hasGoal (A) (c + 1)) = 0 then (0, A) else (if (a + ((A) 0 2)) ≤ (f_Mo_goalOf (A) (c + 1)) then (0, A) else (if ((A) 1 c) ≤ ((f_Mo_goalOf (A) (c + 1)) - ((A) 0 2)) then (f_gw172 (A) c a ((f_Mo_goalOf (A) (c + 1)) - ((A) 0 2))) else (f_gw172 (A) c a ((A) 1 c))))))
set_option maxRecDepth 20000 in
set_option maxHeartbeats 1000000 in
theorem sg_gw102 {d : Nat} {M : mm_M} {A : mm_M} {Mz : mm_M} {c : Nat} {a : Int32}  (hA : rv Mz = A) (hf : rf M Mz) {n : Nat} (hc : c < 3) (hn : rnn A n) (hg : rgl A) : mm_Wp pg_Mo_givesWay rt_Mo_givesWay (ct_Sem (d + 2)) (Mz, 102, [some (.inr (5, 24)), some (.inl (nI c)), some (.inl a), none], []) (rQ M (none) (f_gw102 A c a).2) := by
  refine wgo (g' := (Mz, 109, [some (.inr (5, 24)), some (.inl (nI c)), some (.inl a), none], [.inl (Mz 24 1), .inl ((nI c) + 1)])) [oz 0, oz 0, oz 0, oz 0, oz 0] rfl ⟨trivial, trivial, trivial, trivial, trivial, trivial⟩ ?_
  by_cases h1 : (Mz 24 1) ≤ ((nI c) + 1)
  · have k2 : ((A) 0 1) ≤ ((nI c) + 1) := by
      have q : ((rv Mz) 0 1) ≤ ((nI c) + 1) := h1
      first | exact q | (simp only [hA] at q; exact q)
    refine wgo (g' := (Mz, 184, [some (.inr (5, 24)), some (.inl (nI c)), some (.inl a), none], [])) [oz 1] rfl ⟨h1, trivial⟩ ?_
    have x3 : f_gw102 A c a = (0, A) := by
      unfold f_gw102
      rw [if_pos k2]
    exact wend ⟨rfl, rfl⟩ ⟨rfl, hA.trans (congrArg Prod.snd x3).symm, hf⟩
  · have k4 : ¬ (((A) 0 1) ≤ ((nI c) + 1)) := by
      have q : ¬ (((rv Mz) 0 1) ≤ ((nI c) + 1)) := h1
      first | exact q | (simp only [hA] at q; exact q)
    refine wgo (g' := (Mz, 116, [some (.inr (5, 24)), some (.inl (nI c)), some (.inl a), none], [.inl ((nI c) + 1), .inr (5, 24)])) [oz 0, oz 0, oz 0, oz 0, oz 0] rfl ⟨h1, trivial, trivial, trivial, trivial, trivial⟩ ?_
    have s5 := sm_Mo_hasGoal (d := d)  (M := Mz) (c := c + 1) (Nat.lt_of_lt_of_le (nI_lt1 hn.1 hn.2 hc k4) hn.2)
    rw [← (nI_1 c)] at s5
    refine wgo (g' := (Mz, 119, [some (.inr (5, 24)), some (.inl (nI c)), some (.inl a), none], [.inl (f_Mo_hasGoal (rv Mz) (c + 1))])) [oc (some (f_Mo_hasGoal (rv Mz) (c + 1)), Mz)] rfl ⟨⟨s5, Nat.le_of_ble_eq_true rfl, Nat.le_of_ble_eq_true rfl, ⟨_, rfl⟩⟩, trivial⟩ ?_
    by_cases h6 : (f_Mo_hasGoal (rv Mz) (c + 1)) = 0
    · have k7 : (f_Mo_hasGoal (A) (c + 1)) = 0 := by
        have q : (f_Mo_hasGoal (rv Mz) (c + 1)) = 0 := h6
        first | exact q | (simp only [hA] at q; exact q)
      refine wgo (g' := (Mz, 184, [some (.inr (5, 24)), some (.inl (nI c)), some (.inl a), none], [])) [oz 1] rfl ⟨h6, trivial⟩ ?_
      have x8 : f_gw102 A c a = (0, A) := by
        unfold f_gw102
        rw [if_neg k4, if_pos k7]
      exact wend ⟨rfl, rfl⟩ ⟨rfl, hA.trans (congrArg Prod.snd x8).symm, hf⟩
    · have k9 : ¬ ((f_Mo_hasGoal (A) (c + 1)) = 0) := by
        have q : ¬ ((f_Mo_hasGoal (rv Mz) (c + 1)) = 0) := h6
        first | exact q | (simp only [hA] at q; exact q)
      refine wgo (g' := (Mz, 126, [some (.inr (5, 24)), some (.inl (nI c)), some (.inl a), none], [.inl ((nI c) + 1), .inr (5, 24)])) [oz 0, oz 0, oz 0, oz 0, oz 0] rfl ⟨h6, trivial, trivial, trivial, trivial, trivial⟩ ?_
      have s10 := sm_Mo_goalOf (d := d)  (M := Mz) (c := c + 1) (Nat.lt_of_lt_of_le (nI_lt1 hn.1 hn.2 hc k4) hn.2) (by rw [hA]; exact hg _ (Nat.lt_of_lt_of_le (nI_lt1 hn.1 hn.2 hc k4) hn.2) k9)
      rw [← (nI_1 c)] at s10
      refine wgo (g' := (Mz, 135, [some (.inr (5, 24)), some (.inl (nI c)), some (.inl a), none], [.inl (a + (Mz 24 2)), .inl (f_Mo_goalOf (rv Mz) (c + 1))])) [oc (some (f_Mo_goalOf (rv Mz) (c + 1)), Mz), oz 0, oz 0, oz 0, oz 0] rfl ⟨⟨s10, Nat.le_of_ble_eq_true rfl, Nat.le_of_ble_eq_true rfl, ⟨_, rfl⟩⟩, trivial, trivial, trivial, trivial, trivial⟩ ?_
      by_cases h11 : (a + (Mz 24 2)) ≤ (f_Mo_goalOf (rv Mz) (c + 1))
      · have k12 : (a + ((A) 0 2)) ≤ (f_Mo_goalOf (A) (c + 1)) := by
          have q : (a + ((rv Mz) 0 2)) ≤ (f_Mo_goalOf (rv Mz) (c + 1)) := h11
          first | exact q | (simp only [hA] at q; exact q)
        refine wgo (g' := (Mz, 184, [some (.inr (5, 24)), some (.inl (nI c)), some (.inl a), none], [])) [oz 1] rfl ⟨h11, trivial⟩ ?_
        have x13 : f_gw102 A c a = (0, A) := by
          unfold f_gw102
          rw [if_neg k4, if_neg k9, if_pos k12]
        exact wend ⟨rfl, rfl⟩ ⟨rfl, hA.trans (congrArg Prod.snd x13).symm, hf⟩
      · have k14 : ¬ ((a + ((A) 0 2)) ≤ (f_Mo_goalOf (A) (c + 1))) := by
          have q : ¬ ((a + ((rv Mz) 0 2)) ≤ (f_Mo_goalOf (rv Mz) (c + 1))) := h11
          first | exact q | (simp only [hA] at q; exact q)
        refine wgo (g' := (Mz, 142, [some (.inr (5, 24)), some (.inl (nI c)), some (.inl a), none], [.inl ((nI c) + 1), .inr (5, 24)])) [oz 0, oz 0, oz 0, oz 0, oz 0] rfl ⟨h11, trivial, trivial, trivial, trivial, trivial⟩ ?_
        have s15 := sm_Mo_goalOf (d := d)  (M := Mz) (c := c + 1) (Nat.lt_of_lt_of_le (nI_lt1 hn.1 hn.2 hc k4) hn.2) (by rw [hA]; exact hg _ (Nat.lt_of_lt_of_le (nI_lt1 hn.1 hn.2 hc k4) hn.2) k9)
        rw [← (nI_1 c)] at s15
        refine wgo (g' := (Mz, 158, [some (.inr (5, 24)), some (.inl (nI c)), some (.inl a), some (.inl ((f_Mo_goalOf (rv Mz) (c + 1)) - (Mz 24 2)))], [.inl (Mz 25 c), .inl ((f_Mo_goalOf (rv Mz) (c + 1)) - (Mz 24 2))])) [oc (some (f_Mo_goalOf (rv Mz) (c + 1)), Mz), oz 0, oz 0, oz 0, oz 0, oz 0, oz 0, oz 0, oz 0, oz c] rfl ⟨⟨s15, Nat.le_of_ble_eq_true rfl, Nat.le_of_ble_eq_true rfl, ⟨_, rfl⟩⟩, trivial, trivial, trivial, Nat.le_of_ble_eq_true rfl, trivial, trivial, trivial, trivial, ⟨rfl, (show c < 3 from by omega)⟩, trivial⟩ ?_
        by_cases h16 : (Mz 25 c) ≤ ((f_Mo_goalOf (rv Mz) (c + 1)) - (Mz 24 2))
        · have k17 : ((A) 1 c) ≤ ((f_Mo_goalOf (A) (c + 1)) - ((A) 0 2)) := by
            have q : ((rv Mz) 1 c) ≤ ((f_Mo_goalOf (rv Mz) (c + 1)) - ((rv Mz) 0 2)) := h16
            first | exact q | (simp only [hA] at q; exact q)
          refine wgo (g' := (Mz, 172, [some (.inr (5, 24)), some (.inl (nI c)), some (.inl a), some (.inl ((f_Mo_goalOf (rv Mz) (c + 1)) - (Mz 24 2)))], [])) [oz 1, oz 0, oz 0] rfl ⟨h16, trivial, Nat.le_of_ble_eq_true rfl, trivial⟩ ?_
          have x18 : f_gw102 A c a = f_gw172 (A) c a ((f_Mo_goalOf (A) (c + 1)) - ((A) 0 2)) := by
            unfold f_gw102
            rw [if_neg k4, if_neg k9, if_neg k14, if_pos k17]
          rw [x18]
          have q19 := sg_gw172 (d := d)  (M := M) (Mz := Mz) (c := c) (a := a) (t := ((f_Mo_goalOf (rv Mz) (c + 1)) - (Mz 24 2)))  hA hf hc
          have z20 : f_gw172 (A) c a ((f_Mo_goalOf (rv Mz) (c + 1)) - (Mz 24 2)) = f_gw172 (A) c a ((f_Mo_goalOf (A) (c + 1)) - ((A) 0 2)) := (show f_gw172 (A) c a ((f_Mo_goalOf (rv Mz) (c + 1)) - ((rv Mz) 0 2)) = f_gw172 (A) c a ((f_Mo_goalOf (A) (c + 1)) - ((A) 0 2)) from by first | rfl | simp only [hA])
          rw [z20] at q19
          exact q19
        · have k21 : ¬ (((A) 1 c) ≤ ((f_Mo_goalOf (A) (c + 1)) - ((A) 0 2))) := by
            have q : ¬ (((rv Mz) 1 c) ≤ ((f_Mo_goalOf (rv Mz) (c + 1)) - ((rv Mz) 0 2))) := h16
            first | exact q | (simp only [hA] at q; exact q)
          refine wgo (g' := (Mz, 172, [some (.inr (5, 24)), some (.inl (nI c)), some (.inl a), some (.inl (Mz 25 c))], [])) [oz 0, oz 0, oz 0, oz 0, oz c, oz 0, oz 0] rfl ⟨h16, trivial, trivial, trivial, ⟨rfl, (show c < 3 from by omega)⟩, trivial, Nat.le_of_ble_eq_true rfl, trivial⟩ ?_
          have x22 : f_gw102 A c a = f_gw172 (A) c a ((A) 1 c) := by
            unfold f_gw102
            rw [if_neg k4, if_neg k9, if_neg k14, if_neg k21]
          rw [x22]
          have q23 := sg_gw172 (d := d)  (M := M) (Mz := Mz) (c := c) (a := a) (t := (Mz 25 c))  hA hf hc
          have z24 : f_gw172 (A) c a (Mz 25 c) = f_gw172 (A) c a ((A) 1 c) := (show f_gw172 (A) c a ((rv Mz) 1 c) = f_gw172 (A) c a ((A) 1 c) from by first | rfl | simp only [hA])
          rw [z24] at q23
          exact q23
def f_Mo_givesWay (A : mm_M) (c : Nat) : Int32 × mm_M := (if (nI c) ≤ 0 then (f_gw102 ((f_Mo_setCrane (A) c 6 ((f_Mo_ofCrane (A) c 6) + 1)).2) c (f_Mo_ofCrane (A) c 0)) else (if (f_Mo_hasGoal ((f_Mo_setCrane (A) c 6 ((f_Mo_ofCrane (A) c 6) + 1)).2) (c - 1)) = 0 then (f_gw102 ((f_Mo_setCrane (A) c 6 ((f_Mo_ofCrane (A) c 6) + 1)).2) c (f_Mo_ofCrane (A) c 0)) else (if (f_Mo_goalOf ((f_Mo_setCrane (A) c 6 ((f_Mo_ofCrane (A) c 6) + 1)).2) (c - 1)) ≤ ((f_Mo_ofCrane (A) c 0) - (((f_Mo_setCrane (A) c 6 ((f_Mo_ofCrane (A) c 6) + 1)).2) 0 2)) then (f_gw102 ((f_Mo_setCrane (A) c 6 ((f_Mo_ofCrane (A) c 6) + 1)).2) c (f_Mo_ofCrane (A) c 0)) else (if ((f_Mo_goalOf ((f_Mo_setCrane (A) c 6 ((f_Mo_ofCrane (A) c 6) + 1)).2) (c - 1)) + (((f_Mo_setCrane (A) c 6 ((f_Mo_ofCrane (A) c 6) + 1)).2) 0 2)) ≤ (((f_Mo_setCrane (A) c 6 ((f_Mo_ofCrane (A) c 6) + 1)).2) 2 c) then (f_gw87 ((f_Mo_setCrane (A) c 6 ((f_Mo_ofCrane (A) c 6) + 1)).2) c (f_Mo_ofCrane (A) c 0) ((f_Mo_goalOf ((f_Mo_setCrane (A) c 6 ((f_Mo_ofCrane (A) c 6) + 1)).2) (c - 1)) + (((f_Mo_setCrane (A) c 6 ((f_Mo_ofCrane (A) c 6) + 1)).2) 0 2))) else (f_gw87 ((f_Mo_setCrane (A) c 6 ((f_Mo_ofCrane (A) c 6) + 1)).2) c (f_Mo_ofCrane (A) c 0) (((f_Mo_setCrane (A) c 6 ((f_Mo_ofCrane (A) c 6) + 1)).2) 2 c))))))
set_option maxRecDepth 20000 in
set_option maxHeartbeats 1000000 in
theorem rs_Mo_givesWay {d : Nat} {M : mm_M} {c : Nat}  {n : Nat} (hc : c < 3) (hn : rnn ((f_Mo_setCrane (rv M) c 6 (f_Mo_ofCrane (rv M) c 6 + 1)).2) n) (hg : rgl ((f_Mo_setCrane (rv M) c 6 (f_Mo_ofCrane (rv M) c 6 + 1)).2)) : RS (d + 3) 57  M [.inr (5, 24), .inl (nI c)] (none) (f_Mo_givesWay (rv M) c).2 := by
  refine RS_of (Nat.le_of_ble_eq_true rfl) ?_
  show mm_Wp pg_Mo_givesWay rt_Mo_givesWay (ct_Sem (d + 2)) (M, 0, [some (.inr (5, 24)), some (.inl (nI c)), none, none], []) _
  refine wgo (g' := (M, 3, [some (.inr (5, 24)), some (.inl (nI c)), none, none], [.inl 0, .inl (nI c), .inr (5, 24)])) [oz 0, oz 0, oz 0] rfl ⟨trivial, trivial, trivial, trivial⟩ ?_
  have s1 := sm_Mo_ofCrane (d := d + 1)  (M := M) (c := c) (w := 0) (by omega)
  refine wgo (g' := (M, 15, [some (.inr (5, 24)), some (.inl (nI c)), some (.inl (f_Mo_ofCrane (rv M) c 0)), none], [.inl 6, .inl (nI c), .inr (5, 24), .inl 6, .inl (nI c), .inr (5, 24)])) [oc (some (f_Mo_ofCrane (rv M) c 0), M), oz 0, oz 0, oz 0, oz 0, oz 0, oz 0, oz 0] rfl ⟨⟨s1, Nat.le_of_ble_eq_true rfl, Nat.le_of_ble_eq_true rfl, ⟨_, rfl⟩⟩, Nat.le_of_ble_eq_true rfl, trivial, trivial, trivial, trivial, trivial, trivial, trivial⟩ ?_
  have s2 := sm_Mo_ofCrane (d := d + 1)  (M := M) (c := c) (w := 6) (by omega)
  refine wgo (g' := (M, 20, [some (.inr (5, 24)), some (.inl (nI c)), some (.inl (f_Mo_ofCrane (rv M) c 0)), none], [.inl ((f_Mo_ofCrane (rv M) c 6) + 1), .inl 6, .inl (nI c), .inr (5, 24)])) [oc (some (f_Mo_ofCrane (rv M) c 6), M), oz 0, oz 0] rfl ⟨⟨s2, Nat.le_of_ble_eq_true rfl, Nat.le_of_ble_eq_true rfl, ⟨_, rfl⟩⟩, trivial, trivial, trivial⟩ ?_
  obtain ⟨M3, s4, a5, w6⟩ := rs_Mo_setCrane (d := d + 1)  (M := M) (c := c) (w := 6) (x := (f_Mo_ofCrane (rv M) c 6) + 1)  (by omega)
  have a5 : rv M3 = (f_Mo_setCrane ((rv M)) c 6 ((f_Mo_ofCrane ((rv M)) c 6) + 1)).2 := a5.trans (show (f_Mo_setCrane ((rv M)) c 6 ((f_Mo_ofCrane (rv M) c 6) + 1)).2 = _ from by first | rfl | simp only [rv])
  have w6 : rf M M3 := rf_tr rf_rf w6
  refine wgo (g' := (M3, 24, [some (.inr (5, 24)), some (.inl (nI c)), some (.inl (f_Mo_ofCrane (rv M) c 0)), none], [.inl (nI c)])) [oc (none, M3), oz 0] rfl ⟨⟨s4, Nat.le_of_ble_eq_true rfl, Nat.le_of_ble_eq_true rfl, ⟨_, rfl⟩⟩, trivial, trivial⟩ ?_
  by_cases h7 : (nI c) ≤ 0
  · have k8 : (nI c) ≤ 0 := by
      have q : (nI c) ≤ 0 := h7
      first | exact q | (simp only [a5] at q; exact q)
    refine wgo (g' := (M3, 102, [some (.inr (5, 24)), some (.inl (nI c)), some (.inl (f_Mo_ofCrane (rv M) c 0)), none], [])) [oz 1] rfl ⟨h7, trivial⟩ ?_
    have x9 : f_Mo_givesWay (rv M) c = f_gw102 ((f_Mo_setCrane ((rv M)) c 6 ((f_Mo_ofCrane ((rv M)) c 6) + 1)).2) c (f_Mo_ofCrane ((rv M)) c 0) := by
      unfold f_Mo_givesWay
      rw [if_pos k8]
    rw [x9]
    have q10 := sg_gw102 (d := d)  (M := M) (Mz := M3) (c := c) (a := (f_Mo_ofCrane (rv M) c 0))  a5 w6 hc hn hg
    have z11 : f_gw102 ((f_Mo_setCrane ((rv M)) c 6 ((f_Mo_ofCrane ((rv M)) c 6) + 1)).2) c (f_Mo_ofCrane (rv M) c 0) = f_gw102 ((f_Mo_setCrane ((rv M)) c 6 ((f_Mo_ofCrane ((rv M)) c 6) + 1)).2) c (f_Mo_ofCrane ((rv M)) c 0) := (show f_gw102 ((f_Mo_setCrane ((rv M)) c 6 ((f_Mo_ofCrane ((rv M)) c 6) + 1)).2) c (f_Mo_ofCrane (rv M) c 0) = f_gw102 ((f_Mo_setCrane ((rv M)) c 6 ((f_Mo_ofCrane ((rv M)) c 6) + 1)).2) c (f_Mo_ofCrane ((rv M)) c 0) from by first | rfl | simp only [a5])
    rw [z11] at q10
    exact q10
  · have k12 : ¬ ((nI c) ≤ 0) := by
      have q : ¬ ((nI c) ≤ 0) := h7
      first | exact q | (simp only [a5] at q; exact q)
    refine wgo (g' := (M3, 31, [some (.inr (5, 24)), some (.inl (nI c)), some (.inl (f_Mo_ofCrane (rv M) c 0)), none], [.inl ((nI c) - 1), .inr (5, 24)])) [oz 0, oz 0, oz 0, oz 0, oz 0] rfl ⟨h7, trivial, trivial, trivial, trivial, trivial⟩ ?_
    have s13 := sm_Mo_hasGoal (d := d)  (M := M3) (c := c - 1) (by omega)
    rw [← (nI_m1 (nI_gt0 k12))] at s13
    refine wgo (g' := (M3, 34, [some (.inr (5, 24)), some (.inl (nI c)), some (.inl (f_Mo_ofCrane (rv M) c 0)), none], [.inl (f_Mo_hasGoal (rv M3) (c - 1))])) [oc (some (f_Mo_hasGoal (rv M3) (c - 1)), M3)] rfl ⟨⟨s13, Nat.le_of_ble_eq_true rfl, Nat.le_of_ble_eq_true rfl, ⟨_, rfl⟩⟩, trivial⟩ ?_
    by_cases h14 : (f_Mo_hasGoal (rv M3) (c - 1)) = 0
    · have k15 : (f_Mo_hasGoal ((f_Mo_setCrane ((rv M)) c 6 ((f_Mo_ofCrane ((rv M)) c 6) + 1)).2) (c - 1)) = 0 := by
        have q : (f_Mo_hasGoal (rv M3) (c - 1)) = 0 := h14
        first | exact q | (simp only [a5] at q; exact q)
      refine wgo (g' := (M3, 102, [some (.inr (5, 24)), some (.inl (nI c)), some (.inl (f_Mo_ofCrane (rv M) c 0)), none], [])) [oz 1] rfl ⟨h14, trivial⟩ ?_
      have x16 : f_Mo_givesWay (rv M) c = f_gw102 ((f_Mo_setCrane ((rv M)) c 6 ((f_Mo_ofCrane ((rv M)) c 6) + 1)).2) c (f_Mo_ofCrane ((rv M)) c 0) := by
        unfold f_Mo_givesWay
        rw [if_neg k12, if_pos k15]
      rw [x16]
      have q17 := sg_gw102 (d := d)  (M := M) (Mz := M3) (c := c) (a := (f_Mo_ofCrane (rv M) c 0))  a5 w6 hc hn hg
      have z18 : f_gw102 ((f_Mo_setCrane ((rv M)) c 6 ((f_Mo_ofCrane ((rv M)) c 6) + 1)).2) c (f_Mo_ofCrane (rv M) c 0) = f_gw102 ((f_Mo_setCrane ((rv M)) c 6 ((f_Mo_ofCrane ((rv M)) c 6) + 1)).2) c (f_Mo_ofCrane ((rv M)) c 0) := (show f_gw102 ((f_Mo_setCrane ((rv M)) c 6 ((f_Mo_ofCrane ((rv M)) c 6) + 1)).2) c (f_Mo_ofCrane (rv M) c 0) = f_gw102 ((f_Mo_setCrane ((rv M)) c 6 ((f_Mo_ofCrane ((rv M)) c 6) + 1)).2) c (f_Mo_ofCrane ((rv M)) c 0) from by first | rfl | simp only [a5])
      rw [z18] at q17
      exact q17
    · have k19 : ¬ ((f_Mo_hasGoal ((f_Mo_setCrane ((rv M)) c 6 ((f_Mo_ofCrane ((rv M)) c 6) + 1)).2) (c - 1)) = 0) := by
        have q : ¬ ((f_Mo_hasGoal (rv M3) (c - 1)) = 0) := h14
        first | exact q | (simp only [a5] at q; exact q)
      refine wgo (g' := (M3, 41, [some (.inr (5, 24)), some (.inl (nI c)), some (.inl (f_Mo_ofCrane (rv M) c 0)), none], [.inl ((nI c) - 1), .inr (5, 24)])) [oz 0, oz 0, oz 0, oz 0, oz 0] rfl ⟨h14, trivial, trivial, trivial, trivial, trivial⟩ ?_
      have s20 := sm_Mo_goalOf (d := d)  (M := M3) (c := c - 1) (by omega) (by rw [a5]; exact hg _ (by omega) k19)
      rw [← (nI_m1 (nI_gt0 k12))] at s20
      refine wgo (g' := (M3, 50, [some (.inr (5, 24)), some (.inl (nI c)), some (.inl (f_Mo_ofCrane (rv M) c 0)), none], [.inl ((f_Mo_ofCrane (rv M) c 0) - (M3 24 2)), .inl (f_Mo_goalOf (rv M3) (c - 1))])) [oc (some (f_Mo_goalOf (rv M3) (c - 1)), M3), oz 0, oz 0, oz 0, oz 0] rfl ⟨⟨s20, Nat.le_of_ble_eq_true rfl, Nat.le_of_ble_eq_true rfl, ⟨_, rfl⟩⟩, trivial, trivial, trivial, trivial, trivial⟩ ?_
      by_cases h21 : (f_Mo_goalOf (rv M3) (c - 1)) ≤ ((f_Mo_ofCrane (rv M) c 0) - (M3 24 2))
      · have k22 : (f_Mo_goalOf ((f_Mo_setCrane ((rv M)) c 6 ((f_Mo_ofCrane ((rv M)) c 6) + 1)).2) (c - 1)) ≤ ((f_Mo_ofCrane ((rv M)) c 0) - (((f_Mo_setCrane ((rv M)) c 6 ((f_Mo_ofCrane ((rv M)) c 6) + 1)).2) 0 2)) := by
          have q : (f_Mo_goalOf (rv M3) (c - 1)) ≤ ((f_Mo_ofCrane (rv M) c 0) - ((rv M3) 0 2)) := h21
          first | exact q | (simp only [a5] at q; exact q)
        refine wgo (g' := (M3, 102, [some (.inr (5, 24)), some (.inl (nI c)), some (.inl (f_Mo_ofCrane (rv M) c 0)), none], [])) [oz 1] rfl ⟨h21, trivial⟩ ?_
        have x23 : f_Mo_givesWay (rv M) c = f_gw102 ((f_Mo_setCrane ((rv M)) c 6 ((f_Mo_ofCrane ((rv M)) c 6) + 1)).2) c (f_Mo_ofCrane ((rv M)) c 0) := by
          unfold f_Mo_givesWay
          rw [if_neg k12, if_neg k19, if_pos k22]
        rw [x23]
        have q24 := sg_gw102 (d := d)  (M := M) (Mz := M3) (c := c) (a := (f_Mo_ofCrane (rv M) c 0))  a5 w6 hc hn hg
        have z25 : f_gw102 ((f_Mo_setCrane ((rv M)) c 6 ((f_Mo_ofCrane ((rv M)) c 6) + 1)).2) c (f_Mo_ofCrane (rv M) c 0) = f_gw102 ((f_Mo_setCrane ((rv M)) c 6 ((f_Mo_ofCrane ((rv M)) c 6) + 1)).2) c (f_Mo_ofCrane ((rv M)) c 0) := (show f_gw102 ((f_Mo_setCrane ((rv M)) c 6 ((f_Mo_ofCrane ((rv M)) c 6) + 1)).2) c (f_Mo_ofCrane (rv M) c 0) = f_gw102 ((f_Mo_setCrane ((rv M)) c 6 ((f_Mo_ofCrane ((rv M)) c 6) + 1)).2) c (f_Mo_ofCrane ((rv M)) c 0) from by first | rfl | simp only [a5])
        rw [z25] at q24
        exact q24
      · have k26 : ¬ ((f_Mo_goalOf ((f_Mo_setCrane ((rv M)) c 6 ((f_Mo_ofCrane ((rv M)) c 6) + 1)).2) (c - 1)) ≤ ((f_Mo_ofCrane ((rv M)) c 0) - (((f_Mo_setCrane ((rv M)) c 6 ((f_Mo_ofCrane ((rv M)) c 6) + 1)).2) 0 2))) := by
          have q : ¬ ((f_Mo_goalOf (rv M3) (c - 1)) ≤ ((f_Mo_ofCrane (rv M) c 0) - ((rv M3) 0 2))) := h21
          first | exact q | (simp only [a5] at q; exact q)
        refine wgo (g' := (M3, 57, [some (.inr (5, 24)), some (.inl (nI c)), some (.inl (f_Mo_ofCrane (rv M) c 0)), none], [.inl ((nI c) - 1), .inr (5, 24)])) [oz 0, oz 0, oz 0, oz 0, oz 0] rfl ⟨h21, trivial, trivial, trivial, trivial, trivial⟩ ?_
        have s27 := sm_Mo_goalOf (d := d)  (M := M3) (c := c - 1) (by omega) (by rw [a5]; exact hg _ (by omega) k19)
        rw [← (nI_m1 (nI_gt0 k12))] at s27
        refine wgo (g' := (M3, 73, [some (.inr (5, 24)), some (.inl (nI c)), some (.inl (f_Mo_ofCrane (rv M) c 0)), some (.inl ((f_Mo_goalOf (rv M3) (c - 1)) + (M3 24 2)))], [.inl (M3 26 c), .inl ((f_Mo_goalOf (rv M3) (c - 1)) + (M3 24 2))])) [oc (some (f_Mo_goalOf (rv M3) (c - 1)), M3), oz 0, oz 0, oz 0, oz 0, oz 0, oz 0, oz 0, oz 0, oz c] rfl ⟨⟨s27, Nat.le_of_ble_eq_true rfl, Nat.le_of_ble_eq_true rfl, ⟨_, rfl⟩⟩, trivial, trivial, trivial, Nat.le_of_ble_eq_true rfl, trivial, trivial, trivial, trivial, ⟨rfl, (show c < 3 from by omega)⟩, trivial⟩ ?_
        by_cases h28 : ((f_Mo_goalOf (rv M3) (c - 1)) + (M3 24 2)) ≤ (M3 26 c)
        · have k29 : ((f_Mo_goalOf ((f_Mo_setCrane ((rv M)) c 6 ((f_Mo_ofCrane ((rv M)) c 6) + 1)).2) (c - 1)) + (((f_Mo_setCrane ((rv M)) c 6 ((f_Mo_ofCrane ((rv M)) c 6) + 1)).2) 0 2)) ≤ (((f_Mo_setCrane ((rv M)) c 6 ((f_Mo_ofCrane ((rv M)) c 6) + 1)).2) 2 c) := by
            have q : ((f_Mo_goalOf (rv M3) (c - 1)) + ((rv M3) 0 2)) ≤ ((rv M3) 2 c) := h28
            first | exact q | (simp only [a5] at q; exact q)
          refine wgo (g' := (M3, 87, [some (.inr (5, 24)), some (.inl (nI c)), some (.inl (f_Mo_ofCrane (rv M) c 0)), some (.inl ((f_Mo_goalOf (rv M3) (c - 1)) + (M3 24 2)))], [])) [oz 1, oz 0, oz 0] rfl ⟨h28, trivial, Nat.le_of_ble_eq_true rfl, trivial⟩ ?_
          have x30 : f_Mo_givesWay (rv M) c = f_gw87 ((f_Mo_setCrane ((rv M)) c 6 ((f_Mo_ofCrane ((rv M)) c 6) + 1)).2) c (f_Mo_ofCrane ((rv M)) c 0) ((f_Mo_goalOf ((f_Mo_setCrane ((rv M)) c 6 ((f_Mo_ofCrane ((rv M)) c 6) + 1)).2) (c - 1)) + (((f_Mo_setCrane ((rv M)) c 6 ((f_Mo_ofCrane ((rv M)) c 6) + 1)).2) 0 2)) := by
            unfold f_Mo_givesWay
            rw [if_neg k12, if_neg k19, if_neg k26, if_pos k29]
          rw [x30]
          have q31 := sg_gw87 (d := d)  (M := M) (Mz := M3) (c := c) (a := (f_Mo_ofCrane (rv M) c 0)) (t := ((f_Mo_goalOf (rv M3) (c - 1)) + (M3 24 2)))  a5 w6 hc
          have z32 : f_gw87 ((f_Mo_setCrane ((rv M)) c 6 ((f_Mo_ofCrane ((rv M)) c 6) + 1)).2) c (f_Mo_ofCrane (rv M) c 0) ((f_Mo_goalOf (rv M3) (c - 1)) + (M3 24 2)) = f_gw87 ((f_Mo_setCrane ((rv M)) c 6 ((f_Mo_ofCrane ((rv M)) c 6) + 1)).2) c (f_Mo_ofCrane ((rv M)) c 0) ((f_Mo_goalOf ((f_Mo_setCrane ((rv M)) c 6 ((f_Mo_ofCrane ((rv M)) c 6) + 1)).2) (c - 1)) + (((f_Mo_setCrane ((rv M)) c 6 ((f_Mo_ofCrane ((rv M)) c 6) + 1)).2) 0 2)) := (show f_gw87 ((f_Mo_setCrane ((rv M)) c 6 ((f_Mo_ofCrane ((rv M)) c 6) + 1)).2) c (f_Mo_ofCrane (rv M) c 0) ((f_Mo_goalOf (rv M3) (c - 1)) + ((rv M3) 0 2)) = f_gw87 ((f_Mo_setCrane ((rv M)) c 6 ((f_Mo_ofCrane ((rv M)) c 6) + 1)).2) c (f_Mo_ofCrane ((rv M)) c 0) ((f_Mo_goalOf ((f_Mo_setCrane ((rv M)) c 6 ((f_Mo_ofCrane ((rv M)) c 6) + 1)).2) (c - 1)) + (((f_Mo_setCrane ((rv M)) c 6 ((f_Mo_ofCrane ((rv M)) c 6) + 1)).2) 0 2)) from by first | rfl | simp only [a5])
          rw [z32] at q31
          exact q31
        · have k33 : ¬ (((f_Mo_goalOf ((f_Mo_setCrane ((rv M)) c 6 ((f_Mo_ofCrane ((rv M)) c 6) + 1)).2) (c - 1)) + (((f_Mo_setCrane ((rv M)) c 6 ((f_Mo_ofCrane ((rv M)) c 6) + 1)).2) 0 2)) ≤ (((f_Mo_setCrane ((rv M)) c 6 ((f_Mo_ofCrane ((rv M)) c 6) + 1)).2) 2 c)) := by
            have q : ¬ (((f_Mo_goalOf (rv M3) (c - 1)) + ((rv M3) 0 2)) ≤ ((rv M3) 2 c)) := h28
            first | exact q | (simp only [a5] at q; exact q)
          refine wgo (g' := (M3, 87, [some (.inr (5, 24)), some (.inl (nI c)), some (.inl (f_Mo_ofCrane (rv M) c 0)), some (.inl (M3 26 c))], [])) [oz 0, oz 0, oz 0, oz 0, oz c, oz 0, oz 0] rfl ⟨h28, trivial, trivial, trivial, ⟨rfl, (show c < 3 from by omega)⟩, trivial, Nat.le_of_ble_eq_true rfl, trivial⟩ ?_
          have x34 : f_Mo_givesWay (rv M) c = f_gw87 ((f_Mo_setCrane ((rv M)) c 6 ((f_Mo_ofCrane ((rv M)) c 6) + 1)).2) c (f_Mo_ofCrane ((rv M)) c 0) (((f_Mo_setCrane ((rv M)) c 6 ((f_Mo_ofCrane ((rv M)) c 6) + 1)).2) 2 c) := by
            unfold f_Mo_givesWay
            rw [if_neg k12, if_neg k19, if_neg k26, if_neg k33]
          rw [x34]
          have q35 := sg_gw87 (d := d)  (M := M) (Mz := M3) (c := c) (a := (f_Mo_ofCrane (rv M) c 0)) (t := (M3 26 c))  a5 w6 hc
          have z36 : f_gw87 ((f_Mo_setCrane ((rv M)) c 6 ((f_Mo_ofCrane ((rv M)) c 6) + 1)).2) c (f_Mo_ofCrane (rv M) c 0) (M3 26 c) = f_gw87 ((f_Mo_setCrane ((rv M)) c 6 ((f_Mo_ofCrane ((rv M)) c 6) + 1)).2) c (f_Mo_ofCrane ((rv M)) c 0) (((f_Mo_setCrane ((rv M)) c 6 ((f_Mo_ofCrane ((rv M)) c 6) + 1)).2) 2 c) := (show f_gw87 ((f_Mo_setCrane ((rv M)) c 6 ((f_Mo_ofCrane ((rv M)) c 6) + 1)).2) c (f_Mo_ofCrane (rv M) c 0) ((rv M3) 2 c) = f_gw87 ((f_Mo_setCrane ((rv M)) c 6 ((f_Mo_ofCrane ((rv M)) c 6) + 1)).2) c (f_Mo_ofCrane ((rv M)) c 0) (((f_Mo_setCrane ((rv M)) c 6 ((f_Mo_ofCrane ((rv M)) c 6) + 1)).2) 2 c) from by first | rfl | simp only [a5])
          rw [z36] at q35
          exact q35
def f_se120 (A : mm_M) (c : Nat) (w : Int32) : Int32 × mm_M := (if w = 0 then (if w = 0 then (0, (f_Mo_setCrane (A) c 5 ((f_Mo_ofCrane (A) c 5) + 1)).2) else (0, (f_Mo_setCrane (A) c 5 ((f_Mo_ofCrane (A) c 4) + 1)).2)) else (if w = 0 then (0, (f_Mo_setCrane (A) c 4 ((f_Mo_ofCrane (A) c 5) + 1)).2) else (0, (f_Mo_setCrane (A) c 4 ((f_Mo_ofCrane (A) c 4) + 1)).2)))
set_option maxRecDepth 20000 in
set_option maxHeartbeats 1000000 in
theorem sg_se120 {d : Nat} {M : mm_M} {A : mm_M} {Mz : mm_M} {c : Nat} {w : Int32}  (hA : rv Mz = A) (hf : rf M Mz) (hc : c < 3) : mm_Wp pg_Mo_second rt_Mo_second (ct_Sem (d + 1)) (Mz, 120, [some (.inr (5, 24)), some (.inl (nI c)), some (.inl w)], []) (rQ M (none) (f_se120 A c w).2) := by
  refine wgo (g' := (Mz, 123, [some (.inr (5, 24)), some (.inl (nI c)), some (.inl w)], [.inl w, .inl (nI c), .inr (5, 24)])) [oz 0, oz 0, oz 0] rfl ⟨trivial, trivial, trivial, trivial⟩ ?_
  by_cases h1 : w = 0
  · have k2 : w = 0 := by
      have q : w = 0 := h1
      first | exact q | (simp only [hA] at q; exact q)
    refine wgo (g' := (Mz, 134, [some (.inr (5, 24)), some (.inl (nI c)), some (.inl w)], [.inl w, .inl (nI c), .inr (5, 24), .inl 5, .inl (nI c), .inr (5, 24)])) [oz 1, oz 0, oz 0, oz 0, oz 0] rfl ⟨h1, trivial, trivial, trivial, trivial, trivial⟩ ?_
    by_cases h3 : w = 0
    · have k4 : w = 0 := by
        have q : w = 0 := h3
        first | exact q | (simp only [hA] at q; exact q)
      refine wgo (g' := (Mz, 142, [some (.inr (5, 24)), some (.inl (nI c)), some (.inl w)], [.inl 5, .inl (nI c), .inr (5, 24), .inl 5, .inl (nI c), .inr (5, 24)])) [oz 1, oz 0] rfl ⟨h3, trivial, trivial⟩ ?_
      have s5 := sm_Mo_ofCrane (d := d)  (M := Mz) (c := c) (w := 5) (by omega)
      refine wgo (g' := (Mz, 147, [some (.inr (5, 24)), some (.inl (nI c)), some (.inl w)], [.inl ((f_Mo_ofCrane (rv Mz) c 5) + 1), .inl 5, .inl (nI c), .inr (5, 24)])) [oc (some (f_Mo_ofCrane (rv Mz) c 5), Mz), oz 0, oz 0] rfl ⟨⟨s5, Nat.le_of_ble_eq_true rfl, Nat.le_of_ble_eq_true rfl, ⟨_, rfl⟩⟩, trivial, trivial, trivial⟩ ?_
      obtain ⟨M6, s7, a8, w9⟩ := rs_Mo_setCrane (d := d)  (M := Mz) (c := c) (w := 5) (x := (f_Mo_ofCrane (rv Mz) c 5) + 1)  (by omega)
      have a8 : rv M6 = (f_Mo_setCrane (A) c 5 ((f_Mo_ofCrane (A) c 5) + 1)).2 := a8.trans (show (f_Mo_setCrane ((rv Mz)) c 5 ((f_Mo_ofCrane (rv Mz) c 5) + 1)).2 = _ from by first | rfl | simp only [hA])
      have w9 : rf M M6 := rf_tr hf w9
      refine wgo (g' := (M6, 150, [some (.inr (5, 24)), some (.inl (nI c)), some (.inl w)], [])) [oc (none, M6)] rfl ⟨⟨s7, Nat.le_of_ble_eq_true rfl, Nat.le_of_ble_eq_true rfl, ⟨_, rfl⟩⟩, trivial⟩ ?_
      have x10 : f_se120 A c w = (0, (f_Mo_setCrane (A) c 5 ((f_Mo_ofCrane (A) c 5) + 1)).2) := by
        unfold f_se120
        rw [if_pos k2, if_pos k4]
      exact wend ⟨rfl, rfl⟩ ⟨rfl, a8.trans (congrArg Prod.snd x10).symm, w9⟩
    · have k11 : ¬ (w = 0) := by
        have q : ¬ (w = 0) := h3
        first | exact q | (simp only [hA] at q; exact q)
      refine wgo (g' := (Mz, 142, [some (.inr (5, 24)), some (.inl (nI c)), some (.inl w)], [.inl 4, .inl (nI c), .inr (5, 24), .inl 5, .inl (nI c), .inr (5, 24)])) [oz 0, oz 0, oz 0] rfl ⟨h3, trivial, trivial, trivial⟩ ?_
      have s12 := sm_Mo_ofCrane (d := d)  (M := Mz) (c := c) (w := 4) (by omega)
      refine wgo (g' := (Mz, 147, [some (.inr (5, 24)), some (.inl (nI c)), some (.inl w)], [.inl ((f_Mo_ofCrane (rv Mz) c 4) + 1), .inl 5, .inl (nI c), .inr (5, 24)])) [oc (some (f_Mo_ofCrane (rv Mz) c 4), Mz), oz 0, oz 0] rfl ⟨⟨s12, Nat.le_of_ble_eq_true rfl, Nat.le_of_ble_eq_true rfl, ⟨_, rfl⟩⟩, trivial, trivial, trivial⟩ ?_
      obtain ⟨M13, s14, a15, w16⟩ := rs_Mo_setCrane (d := d)  (M := Mz) (c := c) (w := 5) (x := (f_Mo_ofCrane (rv Mz) c 4) + 1)  (by omega)
      have a15 : rv M13 = (f_Mo_setCrane (A) c 5 ((f_Mo_ofCrane (A) c 4) + 1)).2 := a15.trans (show (f_Mo_setCrane ((rv Mz)) c 5 ((f_Mo_ofCrane (rv Mz) c 4) + 1)).2 = _ from by first | rfl | simp only [hA])
      have w16 : rf M M13 := rf_tr hf w16
      refine wgo (g' := (M13, 150, [some (.inr (5, 24)), some (.inl (nI c)), some (.inl w)], [])) [oc (none, M13)] rfl ⟨⟨s14, Nat.le_of_ble_eq_true rfl, Nat.le_of_ble_eq_true rfl, ⟨_, rfl⟩⟩, trivial⟩ ?_
      have x17 : f_se120 A c w = (0, (f_Mo_setCrane (A) c 5 ((f_Mo_ofCrane (A) c 4) + 1)).2) := by
        unfold f_se120
        rw [if_pos k2, if_neg k11]
      exact wend ⟨rfl, rfl⟩ ⟨rfl, a15.trans (congrArg Prod.snd x17).symm, w16⟩
  · have k18 : ¬ (w = 0) := by
      have q : ¬ (w = 0) := h1
      first | exact q | (simp only [hA] at q; exact q)
    refine wgo (g' := (Mz, 134, [some (.inr (5, 24)), some (.inl (nI c)), some (.inl w)], [.inl w, .inl (nI c), .inr (5, 24), .inl 4, .inl (nI c), .inr (5, 24)])) [oz 0, oz 0, oz 0, oz 0, oz 0, oz 0] rfl ⟨h1, trivial, trivial, trivial, trivial, trivial, trivial⟩ ?_
    by_cases h19 : w = 0
    · have k20 : w = 0 := by
        have q : w = 0 := h19
        first | exact q | (simp only [hA] at q; exact q)
      refine wgo (g' := (Mz, 142, [some (.inr (5, 24)), some (.inl (nI c)), some (.inl w)], [.inl 5, .inl (nI c), .inr (5, 24), .inl 4, .inl (nI c), .inr (5, 24)])) [oz 1, oz 0] rfl ⟨h19, trivial, trivial⟩ ?_
      have s21 := sm_Mo_ofCrane (d := d)  (M := Mz) (c := c) (w := 5) (by omega)
      refine wgo (g' := (Mz, 147, [some (.inr (5, 24)), some (.inl (nI c)), some (.inl w)], [.inl ((f_Mo_ofCrane (rv Mz) c 5) + 1), .inl 4, .inl (nI c), .inr (5, 24)])) [oc (some (f_Mo_ofCrane (rv Mz) c 5), Mz), oz 0, oz 0] rfl ⟨⟨s21, Nat.le_of_ble_eq_true rfl, Nat.le_of_ble_eq_true rfl, ⟨_, rfl⟩⟩, trivial, trivial, trivial⟩ ?_
      obtain ⟨M22, s23, a24, w25⟩ := rs_Mo_setCrane (d := d)  (M := Mz) (c := c) (w := 4) (x := (f_Mo_ofCrane (rv Mz) c 5) + 1)  (by omega)
      have a24 : rv M22 = (f_Mo_setCrane (A) c 4 ((f_Mo_ofCrane (A) c 5) + 1)).2 := a24.trans (show (f_Mo_setCrane ((rv Mz)) c 4 ((f_Mo_ofCrane (rv Mz) c 5) + 1)).2 = _ from by first | rfl | simp only [hA])
      have w25 : rf M M22 := rf_tr hf w25
      refine wgo (g' := (M22, 150, [some (.inr (5, 24)), some (.inl (nI c)), some (.inl w)], [])) [oc (none, M22)] rfl ⟨⟨s23, Nat.le_of_ble_eq_true rfl, Nat.le_of_ble_eq_true rfl, ⟨_, rfl⟩⟩, trivial⟩ ?_
      have x26 : f_se120 A c w = (0, (f_Mo_setCrane (A) c 4 ((f_Mo_ofCrane (A) c 5) + 1)).2) := by
        unfold f_se120
        rw [if_neg k18, if_pos k20]
      exact wend ⟨rfl, rfl⟩ ⟨rfl, a24.trans (congrArg Prod.snd x26).symm, w25⟩
    · have k27 : ¬ (w = 0) := by
        have q : ¬ (w = 0) := h19
        first | exact q | (simp only [hA] at q; exact q)
      refine wgo (g' := (Mz, 142, [some (.inr (5, 24)), some (.inl (nI c)), some (.inl w)], [.inl 4, .inl (nI c), .inr (5, 24), .inl 4, .inl (nI c), .inr (5, 24)])) [oz 0, oz 0, oz 0] rfl ⟨h19, trivial, trivial, trivial⟩ ?_
      have s28 := sm_Mo_ofCrane (d := d)  (M := Mz) (c := c) (w := 4) (by omega)
      refine wgo (g' := (Mz, 147, [some (.inr (5, 24)), some (.inl (nI c)), some (.inl w)], [.inl ((f_Mo_ofCrane (rv Mz) c 4) + 1), .inl 4, .inl (nI c), .inr (5, 24)])) [oc (some (f_Mo_ofCrane (rv Mz) c 4), Mz), oz 0, oz 0] rfl ⟨⟨s28, Nat.le_of_ble_eq_true rfl, Nat.le_of_ble_eq_true rfl, ⟨_, rfl⟩⟩, trivial, trivial, trivial⟩ ?_
      obtain ⟨M29, s30, a31, w32⟩ := rs_Mo_setCrane (d := d)  (M := Mz) (c := c) (w := 4) (x := (f_Mo_ofCrane (rv Mz) c 4) + 1)  (by omega)
      have a31 : rv M29 = (f_Mo_setCrane (A) c 4 ((f_Mo_ofCrane (A) c 4) + 1)).2 := a31.trans (show (f_Mo_setCrane ((rv Mz)) c 4 ((f_Mo_ofCrane (rv Mz) c 4) + 1)).2 = _ from by first | rfl | simp only [hA])
      have w32 : rf M M29 := rf_tr hf w32
      refine wgo (g' := (M29, 150, [some (.inr (5, 24)), some (.inl (nI c)), some (.inl w)], [])) [oc (none, M29)] rfl ⟨⟨s30, Nat.le_of_ble_eq_true rfl, Nat.le_of_ble_eq_true rfl, ⟨_, rfl⟩⟩, trivial⟩ ?_
      have x33 : f_se120 A c w = (0, (f_Mo_setCrane (A) c 4 ((f_Mo_ofCrane (A) c 4) + 1)).2) := by
        unfold f_se120
        rw [if_neg k18, if_neg k27]
      exact wend ⟨rfl, rfl⟩ ⟨rfl, a31.trans (congrArg Prod.snd x33).symm, w32⟩
/-- what the reference's second of crane c needs, the first job taken -/
def rtwo (A : mm_M) (n c : Nat) : Prop := rnn ((f_Mo_setCrane A c 6 (f_Mo_ofCrane A c 6 + 1)).2) n ∧ rgl ((f_Mo_setCrane A c 6 (f_Mo_ofCrane A c 6 + 1)).2) ∧ (0 ≤ f_Mo_ofCrane A c 2 → okx 8 (f_Mo_ofCrane A c 2)) ∧ (0 ≤ f_Mo_ofCrane A c 2 → ∀ t, okx 8 (f_Mo_ofCrane (f_Mo_goes A c t).2 c 2))
def f_se42 (A : mm_M) (c : Nat) : Int32 × mm_M := (if 0 ≤ (f_Mo_ofCrane (A) c 2) then (if (f_Mo_hasGoal (A) c) = 0 then (f_se120 ((f_Mo_lessToGo (A) c).2) c 1) else (if (f_Mo_ofCrane ((f_Mo_goes (A) c (f_Mo_goalOf (A) c)).2) c 0) = (f_Mo_goalOf ((f_Mo_goes (A) c (f_Mo_goalOf (A) c)).2) c) then (if (f_Mo_ofCrane ((f_Mo_goes (A) c (f_Mo_goalOf (A) c)).2) c 1) = 1 then (f_se120 ((f_Mo_begins ((f_Mo_goes (A) c (f_Mo_goalOf (A) c)).2) c 2).2) c ((f_Mo_goes (A) c (f_Mo_goalOf (A) c)).1)) else (f_se120 ((f_Mo_begins ((f_Mo_goes (A) c (f_Mo_goalOf (A) c)).2) c 4).2) c ((f_Mo_goes (A) c (f_Mo_goalOf (A) c)).1))) else (f_se120 ((f_Mo_goes (A) c (f_Mo_goalOf (A) c)).2) c ((f_Mo_goes (A) c (f_Mo_goalOf (A) c)).1)))) else (0, (f_Mo_givesWay (A) c).2))
set_option maxRecDepth 20000 in
set_option maxHeartbeats 1000000 in
theorem sg_se42 {d : Nat} {M : mm_M} {A : mm_M} {Mz : mm_M} {c : Nat}  (hA : rv Mz = A) (hf : rf M Mz) {n : Nat} (hc : c < 3) (hy : rtwo A n c) : mm_Wp pg_Mo_second rt_Mo_second (ct_Sem (d + 3)) (Mz, 42, [some (.inr (5, 24)), some (.inl (nI c)), none], []) (rQ M (none) (f_se42 A c).2) := by
  refine wgo (g' := (Mz, 45, [some (.inr (5, 24)), some (.inl (nI c)), none], [.inl 2, .inl (nI c), .inr (5, 24)])) [oz 0, oz 0, oz 0] rfl ⟨trivial, trivial, trivial, trivial⟩ ?_
  have s1 := sm_Mo_ofCrane (d := d + 2)  (M := Mz) (c := c) (w := 2) (by omega)
  refine wgo (g' := (Mz, 48, [some (.inr (5, 24)), some (.inl (nI c)), none], [.inl (f_Mo_ofCrane (rv Mz) c 2)])) [oc (some (f_Mo_ofCrane (rv Mz) c 2), Mz)] rfl ⟨⟨s1, Nat.le_of_ble_eq_true rfl, Nat.le_of_ble_eq_true rfl, ⟨_, rfl⟩⟩, trivial⟩ ?_
  by_cases h2 : 0 ≤ (f_Mo_ofCrane (rv Mz) c 2)
  · have k3 : 0 ≤ (f_Mo_ofCrane (A) c 2) := by
      have q : 0 ≤ (f_Mo_ofCrane (rv Mz) c 2) := h2
      first | exact q | (simp only [hA] at q; exact q)
    refine wgo (g' := (Mz, 61, [some (.inr (5, 24)), some (.inl (nI c)), some (.inl 1)], [.inl (nI c), .inr (5, 24)])) [oz 1, oz 0, oz 0, oz 0, oz 0] rfl ⟨h2, trivial, Nat.le_of_ble_eq_true rfl, trivial, trivial, trivial⟩ ?_
    have s4 := sm_Mo_hasGoal (d := d + 1)  (M := Mz) (c := c) hc
    refine wgo (g' := (Mz, 64, [some (.inr (5, 24)), some (.inl (nI c)), some (.inl 1)], [.inl (f_Mo_hasGoal (rv Mz) c)])) [oc (some (f_Mo_hasGoal (rv Mz) c), Mz)] rfl ⟨⟨s4, Nat.le_of_ble_eq_true rfl, Nat.le_of_ble_eq_true rfl, ⟨_, rfl⟩⟩, trivial⟩ ?_
    by_cases h5 : (f_Mo_hasGoal (rv Mz) c) = 0
    · have k6 : (f_Mo_hasGoal (A) c) = 0 := by
        have q : (f_Mo_hasGoal (rv Mz) c) = 0 := h5
        first | exact q | (simp only [hA] at q; exact q)
      refine wgo (g' := (Mz, 117, [some (.inr (5, 24)), some (.inl (nI c)), some (.inl 1)], [.inl (nI c), .inr (5, 24)])) [oz 1, oz 0, oz 0] rfl ⟨h5, trivial, trivial, trivial⟩ ?_
      obtain ⟨M7, s8, a9, w10⟩ := rs_Mo_lessToGo (d := d)  (M := Mz) (c := c)  hc (by rw [hA]; exact (hy.2.2.1 k3))
      have a9 : rv M7 = (f_Mo_lessToGo (A) c).2 := a9.trans (show (f_Mo_lessToGo ((rv Mz)) c).2 = _ from by first | rfl | simp only [hA])
      have w10 : rf M M7 := rf_tr hf w10
      refine wgo (g' := (M7, 120, [some (.inr (5, 24)), some (.inl (nI c)), some (.inl 1)], [])) [oc (none, M7)] rfl ⟨⟨s8, Nat.le_of_ble_eq_true rfl, Nat.le_of_ble_eq_true rfl, ⟨_, rfl⟩⟩, trivial⟩ ?_
      have x11 : f_se42 A c = f_se120 ((f_Mo_lessToGo (A) c).2) c 1 := by
        unfold f_se42
        rw [if_pos k3, if_pos k6]
      rw [x11]
      exact sg_se120 (d := d + 2)  (M := M) (Mz := M7) (c := c) (w := 1)  a9 w10 hc
    · have k12 : ¬ ((f_Mo_hasGoal (A) c) = 0) := by
        have q : ¬ ((f_Mo_hasGoal (rv Mz) c) = 0) := h5
        first | exact q | (simp only [hA] at q; exact q)
      refine wgo (g' := (Mz, 71, [some (.inr (5, 24)), some (.inl (nI c)), some (.inl 1)], [.inl (nI c), .inr (5, 24), .inl (nI c), .inr (5, 24)])) [oz 0, oz 0, oz 0, oz 0, oz 0] rfl ⟨h5, trivial, trivial, trivial, trivial, trivial⟩ ?_
      have s13 := sm_Mo_goalOf (d := d + 1)  (M := Mz) (c := c) hc (by rw [hA]; exact (hy.2.2.1 k3))
      refine wgo (g' := (Mz, 74, [some (.inr (5, 24)), some (.inl (nI c)), some (.inl 1)], [.inl (f_Mo_goalOf (rv Mz) c), .inl (nI c), .inr (5, 24)])) [oc (some (f_Mo_goalOf (rv Mz) c), Mz)] rfl ⟨⟨s13, Nat.le_of_ble_eq_true rfl, Nat.le_of_ble_eq_true rfl, ⟨_, rfl⟩⟩, trivial⟩ ?_
      obtain ⟨M14, s15, a16, w17⟩ := rs_Mo_goes (d := d + 1)  (M := Mz) (c := c) (t := f_Mo_goalOf (rv Mz) c)  hc
      have a16 : rv M14 = (f_Mo_goes (A) c (f_Mo_goalOf (A) c)).2 := a16.trans (show (f_Mo_goes ((rv Mz)) c (f_Mo_goalOf (rv Mz) c)).2 = _ from by first | rfl | simp only [hA])
      have w17 : rf M M14 := rf_tr hf w17
      refine wgo (g' := (M14, 81, [some (.inr (5, 24)), some (.inl (nI c)), some (.inl ((f_Mo_goes ((rv Mz)) c (f_Mo_goalOf (rv Mz) c)).1))], [.inl 0, .inl (nI c), .inr (5, 24)])) [oc (some ((f_Mo_goes ((rv Mz)) c (f_Mo_goalOf (rv Mz) c)).1), M14), oz 0, oz 0, oz 0, oz 0] rfl ⟨⟨s15, Nat.le_of_ble_eq_true rfl, Nat.le_of_ble_eq_true rfl, ⟨_, rfl⟩⟩, Nat.le_of_ble_eq_true rfl, trivial, trivial, trivial, trivial⟩ ?_
      have s18 := sm_Mo_ofCrane (d := d + 2)  (M := M14) (c := c) (w := 0) (by omega)
      refine wgo (g' := (M14, 86, [some (.inr (5, 24)), some (.inl (nI c)), some (.inl ((f_Mo_goes ((rv Mz)) c (f_Mo_goalOf (rv Mz) c)).1))], [.inl (nI c), .inr (5, 24), .inl (f_Mo_ofCrane (rv M14) c 0)])) [oc (some (f_Mo_ofCrane (rv M14) c 0), M14), oz 0, oz 0] rfl ⟨⟨s18, Nat.le_of_ble_eq_true rfl, Nat.le_of_ble_eq_true rfl, ⟨_, rfl⟩⟩, trivial, trivial, trivial⟩ ?_
      have s19 := sm_Mo_goalOf (d := d + 1)  (M := M14) (c := c) hc (by rw [a16]; exact hy.2.2.2 k3 _)
      refine wgo (g' := (M14, 89, [some (.inr (5, 24)), some (.inl (nI c)), some (.inl ((f_Mo_goes ((rv Mz)) c (f_Mo_goalOf (rv Mz) c)).1))], [.inl (f_Mo_goalOf (rv M14) c), .inl (f_Mo_ofCrane (rv M14) c 0)])) [oc (some (f_Mo_goalOf (rv M14) c), M14)] rfl ⟨⟨s19, Nat.le_of_ble_eq_true rfl, Nat.le_of_ble_eq_true rfl, ⟨_, rfl⟩⟩, trivial⟩ ?_
      by_cases h20 : (f_Mo_ofCrane (rv M14) c 0) = (f_Mo_goalOf (rv M14) c)
      · have k21 : (f_Mo_ofCrane ((f_Mo_goes (A) c (f_Mo_goalOf (A) c)).2) c 0) = (f_Mo_goalOf ((f_Mo_goes (A) c (f_Mo_goalOf (A) c)).2) c) := by
          have q : (f_Mo_ofCrane (rv M14) c 0) = (f_Mo_goalOf (rv M14) c) := h20
          first | exact q | (simp only [hA, a16] at q; exact q)
        refine wgo (g' := (M14, 97, [some (.inr (5, 24)), some (.inl (nI c)), some (.inl ((f_Mo_goes ((rv Mz)) c (f_Mo_goalOf (rv Mz) c)).1))], [.inl 1, .inl (nI c), .inr (5, 24), .inl (nI c), .inr (5, 24)])) [oz 0, oz 0, oz 0, oz 0, oz 0, oz 0] rfl ⟨(fun z => z h20), trivial, trivial, trivial, trivial, trivial, trivial⟩ ?_
        have s22 := sm_Mo_ofCrane (d := d + 2)  (M := M14) (c := c) (w := 1) (by omega)
        refine wgo (g' := (M14, 101, [some (.inr (5, 24)), some (.inl (nI c)), some (.inl ((f_Mo_goes ((rv Mz)) c (f_Mo_goalOf (rv Mz) c)).1))], [.inl 1, .inl (f_Mo_ofCrane (rv M14) c 1), .inl (nI c), .inr (5, 24)])) [oc (some (f_Mo_ofCrane (rv M14) c 1), M14), oz 0] rfl ⟨⟨s22, Nat.le_of_ble_eq_true rfl, Nat.le_of_ble_eq_true rfl, ⟨_, rfl⟩⟩, trivial, trivial⟩ ?_
        by_cases h23 : (f_Mo_ofCrane (rv M14) c 1) = 1
        · have k24 : (f_Mo_ofCrane ((f_Mo_goes (A) c (f_Mo_goalOf (A) c)).2) c 1) = 1 := by
            have q : (f_Mo_ofCrane (rv M14) c 1) = 1 := h23
            first | exact q | (simp only [hA, a16] at q; exact q)
          refine wgo (g' := (M14, 109, [some (.inr (5, 24)), some (.inl (nI c)), some (.inl ((f_Mo_goes ((rv Mz)) c (f_Mo_goalOf (rv Mz) c)).1))], [.inl 2, .inl (nI c), .inr (5, 24)])) [oz 0, oz 0, oz 0] rfl ⟨(fun z => z h23), trivial, trivial, trivial⟩ ?_
          obtain ⟨M25, s26, a27, w28⟩ := rs_Mo_begins (d := d + 1)  (M := M14) (c := c) (x := 2)  hc
          have a27 : rv M25 = (f_Mo_begins ((f_Mo_goes (A) c (f_Mo_goalOf (A) c)).2) c 2).2 := a27.trans (show (f_Mo_begins ((rv M14)) c 2).2 = _ from by first | rfl | simp only [hA, a16])
          have w28 : rf M M25 := rf_tr w17 w28
          refine wgo (g' := (M25, 120, [some (.inr (5, 24)), some (.inl (nI c)), some (.inl ((f_Mo_goes ((rv Mz)) c (f_Mo_goalOf (rv Mz) c)).1))], [])) [oc (none, M25), oz 0] rfl ⟨⟨s26, Nat.le_of_ble_eq_true rfl, Nat.le_of_ble_eq_true rfl, ⟨_, rfl⟩⟩, trivial, trivial⟩ ?_
          have x29 : f_se42 A c = f_se120 ((f_Mo_begins ((f_Mo_goes (A) c (f_Mo_goalOf (A) c)).2) c 2).2) c ((f_Mo_goes (A) c (f_Mo_goalOf (A) c)).1) := by
            unfold f_se42
            rw [if_pos k3, if_neg k12, if_pos k21, if_pos k24]
          rw [x29]
          have q30 := sg_se120 (d := d + 2)  (M := M) (Mz := M25) (c := c) (w := ((f_Mo_goes ((rv Mz)) c (f_Mo_goalOf (rv Mz) c)).1))  a27 w28 hc
          have z31 : f_se120 ((f_Mo_begins ((f_Mo_goes (A) c (f_Mo_goalOf (A) c)).2) c 2).2) c ((f_Mo_goes ((rv Mz)) c (f_Mo_goalOf (rv Mz) c)).1) = f_se120 ((f_Mo_begins ((f_Mo_goes (A) c (f_Mo_goalOf (A) c)).2) c 2).2) c ((f_Mo_goes (A) c (f_Mo_goalOf (A) c)).1) := (show f_se120 ((f_Mo_begins ((f_Mo_goes (A) c (f_Mo_goalOf (A) c)).2) c 2).2) c ((f_Mo_goes ((rv Mz)) c (f_Mo_goalOf (rv Mz) c)).1) = f_se120 ((f_Mo_begins ((f_Mo_goes (A) c (f_Mo_goalOf (A) c)).2) c 2).2) c ((f_Mo_goes (A) c (f_Mo_goalOf (A) c)).1) from by first | rfl | simp only [hA, a16, a27])
          rw [z31] at q30
          exact q30
        · have k32 : ¬ ((f_Mo_ofCrane ((f_Mo_goes (A) c (f_Mo_goalOf (A) c)).2) c 1) = 1) := by
            have q : ¬ ((f_Mo_ofCrane (rv M14) c 1) = 1) := h23
            first | exact q | (simp only [hA, a16] at q; exact q)
          refine wgo (g' := (M14, 109, [some (.inr (5, 24)), some (.inl (nI c)), some (.inl ((f_Mo_goes ((rv Mz)) c (f_Mo_goalOf (rv Mz) c)).1))], [.inl 4, .inl (nI c), .inr (5, 24)])) [oz 1, oz 0] rfl ⟨h23, trivial, trivial⟩ ?_
          obtain ⟨M33, s34, a35, w36⟩ := rs_Mo_begins (d := d + 1)  (M := M14) (c := c) (x := 4)  hc
          have a35 : rv M33 = (f_Mo_begins ((f_Mo_goes (A) c (f_Mo_goalOf (A) c)).2) c 4).2 := a35.trans (show (f_Mo_begins ((rv M14)) c 4).2 = _ from by first | rfl | simp only [hA, a16])
          have w36 : rf M M33 := rf_tr w17 w36
          refine wgo (g' := (M33, 120, [some (.inr (5, 24)), some (.inl (nI c)), some (.inl ((f_Mo_goes ((rv Mz)) c (f_Mo_goalOf (rv Mz) c)).1))], [])) [oc (none, M33), oz 0] rfl ⟨⟨s34, Nat.le_of_ble_eq_true rfl, Nat.le_of_ble_eq_true rfl, ⟨_, rfl⟩⟩, trivial, trivial⟩ ?_
          have x37 : f_se42 A c = f_se120 ((f_Mo_begins ((f_Mo_goes (A) c (f_Mo_goalOf (A) c)).2) c 4).2) c ((f_Mo_goes (A) c (f_Mo_goalOf (A) c)).1) := by
            unfold f_se42
            rw [if_pos k3, if_neg k12, if_pos k21, if_neg k32]
          rw [x37]
          have q38 := sg_se120 (d := d + 2)  (M := M) (Mz := M33) (c := c) (w := ((f_Mo_goes ((rv Mz)) c (f_Mo_goalOf (rv Mz) c)).1))  a35 w36 hc
          have z39 : f_se120 ((f_Mo_begins ((f_Mo_goes (A) c (f_Mo_goalOf (A) c)).2) c 4).2) c ((f_Mo_goes ((rv Mz)) c (f_Mo_goalOf (rv Mz) c)).1) = f_se120 ((f_Mo_begins ((f_Mo_goes (A) c (f_Mo_goalOf (A) c)).2) c 4).2) c ((f_Mo_goes (A) c (f_Mo_goalOf (A) c)).1) := (show f_se120 ((f_Mo_begins ((f_Mo_goes (A) c (f_Mo_goalOf (A) c)).2) c 4).2) c ((f_Mo_goes ((rv Mz)) c (f_Mo_goalOf (rv Mz) c)).1) = f_se120 ((f_Mo_begins ((f_Mo_goes (A) c (f_Mo_goalOf (A) c)).2) c 4).2) c ((f_Mo_goes (A) c (f_Mo_goalOf (A) c)).1) from by first | rfl | simp only [hA, a16, a35])
          rw [z39] at q38
          exact q38
      · have k40 : ¬ ((f_Mo_ofCrane ((f_Mo_goes (A) c (f_Mo_goalOf (A) c)).2) c 0) = (f_Mo_goalOf ((f_Mo_goes (A) c (f_Mo_goalOf (A) c)).2) c)) := by
          have q : ¬ ((f_Mo_ofCrane (rv M14) c 0) = (f_Mo_goalOf (rv M14) c)) := h20
          first | exact q | (simp only [hA, a16] at q; exact q)
        refine wgo (g' := (M14, 120, [some (.inr (5, 24)), some (.inl (nI c)), some (.inl ((f_Mo_goes ((rv Mz)) c (f_Mo_goalOf (rv Mz) c)).1))], [])) [oz 1] rfl ⟨h20, trivial⟩ ?_
        have x41 : f_se42 A c = f_se120 ((f_Mo_goes (A) c (f_Mo_goalOf (A) c)).2) c ((f_Mo_goes (A) c (f_Mo_goalOf (A) c)).1) := by
          unfold f_se42
          rw [if_pos k3, if_neg k12, if_neg k40]
        rw [x41]
        have q42 := sg_se120 (d := d + 2)  (M := M) (Mz := M14) (c := c) (w := ((f_Mo_goes ((rv Mz)) c (f_Mo_goalOf (rv Mz) c)).1))  a16 w17 hc
        have z43 : f_se120 ((f_Mo_goes (A) c (f_Mo_goalOf (A) c)).2) c ((f_Mo_goes ((rv Mz)) c (f_Mo_goalOf (rv Mz) c)).1) = f_se120 ((f_Mo_goes (A) c (f_Mo_goalOf (A) c)).2) c ((f_Mo_goes (A) c (f_Mo_goalOf (A) c)).1) := (show f_se120 ((f_Mo_goes (A) c (f_Mo_goalOf (A) c)).2) c ((f_Mo_goes ((rv Mz)) c (f_Mo_goalOf (rv Mz) c)).1) = f_se120 ((f_Mo_goes (A) c (f_Mo_goalOf (A) c)).2) c ((f_Mo_goes (A) c (f_Mo_goalOf (A) c)).1) from by first | rfl | simp only [hA, a16])
        rw [z43] at q42
        exact q42
  · have k44 : ¬ (0 ≤ (f_Mo_ofCrane (A) c 2)) := by
      have q : ¬ (0 ≤ (f_Mo_ofCrane (rv Mz) c 2)) := h2
      first | exact q | (simp only [hA] at q; exact q)
    refine wgo (g' := (Mz, 53, [some (.inr (5, 24)), some (.inl (nI c)), none], [.inl (nI c), .inr (5, 24)])) [oz 0, oz 0, oz 0] rfl ⟨h2, trivial, trivial, trivial⟩ ?_
    obtain ⟨M45, s46, a47, w48⟩ := rs_Mo_givesWay (d := d)  (M := Mz) (c := c)  hc (by rw [hA]; exact hy.1) (by rw [hA]; exact hy.2.1)
    have a47 : rv M45 = (f_Mo_givesWay (A) c).2 := a47.trans (show (f_Mo_givesWay ((rv Mz)) c).2 = _ from by first | rfl | simp only [hA])
    have w48 : rf M M45 := rf_tr hf w48
    refine wgo (g' := (M45, 56, [some (.inr (5, 24)), some (.inl (nI c)), none], [])) [oc (none, M45)] rfl ⟨⟨s46, Nat.le_of_ble_eq_true rfl, Nat.le_of_ble_eq_true rfl, ⟨_, rfl⟩⟩, trivial⟩ ?_
    have x49 : f_se42 A c = (0, (f_Mo_givesWay (A) c).2) := by
      unfold f_se42
      rw [if_neg k44]
    exact wend ⟨rfl, rfl⟩ ⟨rfl, a47.trans (congrArg Prod.snd x49).symm, w48⟩
def f_Mo_second (A : mm_M) (c : Nat) : Int32 × mm_M := (if (f_Mo_ofCrane (A) c 8) = 1 then (0, (f_Mo_setCrane (A) c 7 ((f_Mo_ofCrane (A) c 7) + 1)).2) else (if 0 ≤ (f_Mo_ofCrane (A) c 2) then (f_se42 (A) c) else (f_se42 ((f_Mo_takesJob (A) c).2) c)))
set_option maxRecDepth 20000 in
set_option maxHeartbeats 1000000 in
theorem rs_Mo_second {d : Nat} {M : mm_M} {c : Nat}  {n m : Nat} (hc : c < 3) (hm : rv M 0 5 = nI m) (hm8 : m ≤ 8) (hy1 : 0 ≤ f_Mo_ofCrane (rv M) c 2 → rtwo (rv M) n c) (hy2 : rtwo (f_Mo_takesJob (rv M) c).2 n c) : RS (d + 4) 58  M [.inr (5, 24), .inl (nI c)] (none) (f_Mo_second (rv M) c).2 := by
  refine RS_of (Nat.le_of_ble_eq_true rfl) ?_
  show mm_Wp pg_Mo_second rt_Mo_second (ct_Sem (d + 3)) (M, 0, [some (.inr (5, 24)), some (.inl (nI c)), none], []) _
  refine wgo (g' := (M, 4, [some (.inr (5, 24)), some (.inl (nI c)), none], [.inl 8, .inl (nI c), .inr (5, 24)])) [oz 0, oz 0, oz 0] rfl ⟨trivial, trivial, trivial, trivial⟩ ?_
  have s1 := sm_Mo_ofCrane (d := d + 2)  (M := M) (c := c) (w := 8) (by omega)
  refine wgo (g' := (M, 8, [some (.inr (5, 24)), some (.inl (nI c)), none], [.inl 1, .inl (f_Mo_ofCrane (rv M) c 8)])) [oc (some (f_Mo_ofCrane (rv M) c 8), M), oz 0] rfl ⟨⟨s1, Nat.le_of_ble_eq_true rfl, Nat.le_of_ble_eq_true rfl, ⟨_, rfl⟩⟩, trivial, trivial⟩ ?_
  by_cases h2 : (f_Mo_ofCrane (rv M) c 8) = 1
  · have k3 : (f_Mo_ofCrane ((rv M)) c 8) = 1 := by
      have q : (f_Mo_ofCrane (rv M) c 8) = 1 := h2
      exact q
    refine wgo (g' := (M, 19, [some (.inr (5, 24)), some (.inl (nI c)), none], [.inl 7, .inl (nI c), .inr (5, 24), .inl 7, .inl (nI c), .inr (5, 24)])) [oz 0, oz 0, oz 0, oz 0, oz 0, oz 0, oz 0] rfl ⟨(fun z => z h2), trivial, trivial, trivial, trivial, trivial, trivial, trivial⟩ ?_
    have s4 := sm_Mo_ofCrane (d := d + 2)  (M := M) (c := c) (w := 7) (by omega)
    refine wgo (g' := (M, 24, [some (.inr (5, 24)), some (.inl (nI c)), none], [.inl ((f_Mo_ofCrane (rv M) c 7) + 1), .inl 7, .inl (nI c), .inr (5, 24)])) [oc (some (f_Mo_ofCrane (rv M) c 7), M), oz 0, oz 0] rfl ⟨⟨s4, Nat.le_of_ble_eq_true rfl, Nat.le_of_ble_eq_true rfl, ⟨_, rfl⟩⟩, trivial, trivial, trivial⟩ ?_
    obtain ⟨M5, s6, a7, w8⟩ := rs_Mo_setCrane (d := d + 2)  (M := M) (c := c) (w := 7) (x := (f_Mo_ofCrane (rv M) c 7) + 1)  (by omega)
    have a7 : rv M5 = (f_Mo_setCrane ((rv M)) c 7 ((f_Mo_ofCrane ((rv M)) c 7) + 1)).2 := a7.trans (show (f_Mo_setCrane ((rv M)) c 7 ((f_Mo_ofCrane (rv M) c 7) + 1)).2 = _ from by first | rfl | simp only [rv])
    have w8 : rf M M5 := rf_tr rf_rf w8
    refine wgo (g' := (M5, 27, [some (.inr (5, 24)), some (.inl (nI c)), none], [])) [oc (none, M5)] rfl ⟨⟨s6, Nat.le_of_ble_eq_true rfl, Nat.le_of_ble_eq_true rfl, ⟨_, rfl⟩⟩, trivial⟩ ?_
    have x9 : f_Mo_second (rv M) c = (0, (f_Mo_setCrane ((rv M)) c 7 ((f_Mo_ofCrane ((rv M)) c 7) + 1)).2) := by
      unfold f_Mo_second
      rw [if_pos k3]
    exact wend ⟨rfl, rfl⟩ ⟨rfl, a7.trans (congrArg Prod.snd x9).symm, w8⟩
  · have k10 : ¬ ((f_Mo_ofCrane ((rv M)) c 8) = 1) := by
      have q : ¬ ((f_Mo_ofCrane (rv M) c 8) = 1) := h2
      exact q
    refine wgo (g' := (M, 31, [some (.inr (5, 24)), some (.inl (nI c)), none], [.inl 2, .inl (nI c), .inr (5, 24)])) [oz 1, oz 0, oz 0, oz 0] rfl ⟨h2, trivial, trivial, trivial, trivial⟩ ?_
    have s11 := sm_Mo_ofCrane (d := d + 2)  (M := M) (c := c) (w := 2) (by omega)
    refine wgo (g' := (M, 34, [some (.inr (5, 24)), some (.inl (nI c)), none], [.inl (f_Mo_ofCrane (rv M) c 2)])) [oc (some (f_Mo_ofCrane (rv M) c 2), M)] rfl ⟨⟨s11, Nat.le_of_ble_eq_true rfl, Nat.le_of_ble_eq_true rfl, ⟨_, rfl⟩⟩, trivial⟩ ?_
    by_cases h12 : 0 ≤ (f_Mo_ofCrane (rv M) c 2)
    · have k13 : 0 ≤ (f_Mo_ofCrane ((rv M)) c 2) := by
        have q : 0 ≤ (f_Mo_ofCrane (rv M) c 2) := h12
        exact q
      refine wgo (g' := (M, 42, [some (.inr (5, 24)), some (.inl (nI c)), none], [])) [oz 1] rfl ⟨h12, trivial⟩ ?_
      have x14 : f_Mo_second (rv M) c = f_se42 ((rv M)) c := by
        unfold f_Mo_second
        rw [if_neg k10, if_pos k13]
      rw [x14]
      exact sg_se42 (d := d)  (M := M) (Mz := M) (c := c)  rfl rf_rf hc (hy1 k13)
    · have k15 : ¬ (0 ≤ (f_Mo_ofCrane ((rv M)) c 2)) := by
        have q : ¬ (0 ≤ (f_Mo_ofCrane (rv M) c 2)) := h12
        exact q
      refine wgo (g' := (M, 39, [some (.inr (5, 24)), some (.inl (nI c)), none], [.inl (nI c), .inr (5, 24)])) [oz 0, oz 0, oz 0] rfl ⟨h12, trivial, trivial, trivial⟩ ?_
      obtain ⟨M16, s17, a18, w19⟩ := rs_Mo_takesJob (d := d)  (M := M) (c := c)  hc hm hm8
      have a18 : rv M16 = (f_Mo_takesJob ((rv M)) c).2 := a18.trans (show (f_Mo_takesJob ((rv M)) c).2 = _ from by first | rfl | simp only [rv])
      have w19 : rf M M16 := rf_tr rf_rf w19
      refine wgo (g' := (M16, 42, [some (.inr (5, 24)), some (.inl (nI c)), none], [])) [oc (none, M16)] rfl ⟨⟨s17, Nat.le_of_ble_eq_true rfl, Nat.le_of_ble_eq_true rfl, ⟨_, rfl⟩⟩, trivial⟩ ?_
      have x20 : f_Mo_second (rv M) c = f_se42 ((f_Mo_takesJob ((rv M)) c).2) c := by
        unfold f_Mo_second
        rw [if_neg k10, if_neg k15]
      rw [x20]
      exact sg_se42 (d := d)  (M := M) (Mz := M16) (c := c)  a18 w19 hc hy2
