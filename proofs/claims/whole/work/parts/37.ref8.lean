theorem nI_p0 (a : Nat) : nI a + 0 = nI a := by simp
theorem thr1 {X : mm_M} {p1 p2 p3 p4 : Int32} (h : ¬ p1 = 0) : ¬ (f_Mo_throwing X p1 p2 p3 p4).1 = 0 := by
  unfold f_Mo_throwing
  rw [if_neg h]
  unfold f_thr
  rw [if_neg (by simp [mm_up])]
  exact (by decide : ¬ (1 : Int32) = 0)
theorem thr_row {X : mm_M} {p1 p2 p3 p4 : Int32} {r k : Nat} (h : ¬ (r = 0 ∧ k = 0)) : (f_Mo_throwing X p1 p2 p3 p4).2 r k = X r k := by
  have key : ∀ t : Int32, (f_thr X p1 p2 p3 p4 t).2 r k = X r k := by
    intro t
    unfold f_thr
    split <;> simp [mm_up, h]
  unfold f_Mo_throwing
  repeat' split
  all_goals exact key _
theorem okin {x a : Int32} {n : Nat} (hn : n ≤ 8) (ha : a = nI n) (h : ¬ f_Mo_in x 0 (a - 1) = 0) : okx n x := by
  subst ha
  unfold f_Mo_in at h
  by_cases q1 : x < 0
  · rw [if_pos q1] at h; exact absurd rfl h
  · rw [if_neg q1] at h
    by_cases q2 : nI n - 1 < x
    · rw [if_pos q2] at h; exact absurd rfl h
    · obtain ⟨j, hj, rfl⟩ := nI_of q1
      rcases n with _ | n
      · exfalso
        apply q2
        have e : nI 0 - 1 = -1 := by decide
        rw [e, Int32.lt_iff_toInt_lt, nI_toInt hj]
        have e2 : (-1 : Int32).toInt = -1 := by decide
        rw [e2]; omega
      · rw [nI_pred] at q2
        have q3 : ¬ n < j := fun z => q2 (nI_lt z hj)
        exact okx_nI (by omega) (by omega)
theorem okx_mono {n m : Nat} {x : Int32} (h : okx n x) (hm : n ≤ m) : okx m x := ⟨h.1, Nat.lt_of_lt_of_le h.2 hm⟩
theorem okJ {X : mm_M} {x : Int32} {n : Nat} (hn : n ≤ 8) (h5 : X 0 5 = nI n) (h : ¬ f_Mo_isJob X x = 0) : okx 8 x := okx_mono (okin hn h5 h) hn
theorem okC {X : mm_M} {x : Int32} {n : Nat} (hn : n ≤ 3) (h1 : X 0 1 = nI n) (h : ¬ f_Mo_isCrane X x = 0) : okx 3 x := okx_mono (okin (by omega) h1 h) hn
def f_Mo_near (A : mm_M)  : Int32 × mm_M := ((mm_up (A) 0 0 0) 3 1, mm_up (A) 0 0 0)
set_option maxRecDepth 20000 in
set_option maxHeartbeats 1000000 in
theorem rs_Mo_near {d : Nat} {M : mm_M}    : RS (d + 1) 63  M [.inr (5, 24)] (some (f_Mo_near (rv M) ).1) (f_Mo_near (rv M) ).2 := by
  refine RS_of (Nat.le_of_ble_eq_true rfl) ?_
  show mm_Wp pg_Mo_near rt_Mo_near (ct_Sem (d + 0)) (M, 0, [some (.inr (5, 24))], []) _
  refine wgo (g' := (mm_up M 24 0 0, 5, [some (.inr (5, 24))], [])) [oz 0, oz 0, oz 0] rfl ⟨trivial, trivial, trivial, trivial⟩ ?_
  generalize e2 : mm_up M 24 0 0 = M1
  have a3 : rv M1 = mm_up ((rv M)) 0 0 0 := by
    rw [← e2]
    refine (rv_up 0).trans ?_
    show mm_up ((rv M)) 0 0 0 = _
    rfl
  have w4 : rf M M1 := by rw [← e2]; exact rf_up rf_rf (by decide)
  refine wgo (g' := (M1, 11, [some (.inr (5, 24))], [.inl (M1 27 1)])) [oz 0, oz 0, oz 0, oz 1] rfl ⟨trivial, trivial, trivial, ⟨rfl, by decide⟩, trivial⟩ ?_
  have x5 : f_Mo_near (rv M) = ((mm_up ((rv M)) 0 0 0) 3 1, mm_up ((rv M)) 0 0 0) := by
    unfold f_Mo_near
    rfl
  exact wend ⟨_, rfl, rfl⟩ ⟨congrArg some ((show ((rv M1) 3 1 : Int32) = (mm_up ((rv M)) 0 0 0) 3 1 from by first | rfl | simp only [a3]).trans (congrArg Prod.fst x5).symm), a3.trans (congrArg Prod.snd x5).symm, w4⟩
def f_Mo_planned (A : mm_M) (k : Int32) : Int32 × mm_M := (if 0 ≤ k then (if ((f_Mo_throwing (A) 0 0 0 0).1) = 0 then (if (((f_Mo_throwing (A) 0 0 0 0).2) 0 12) ≤ k then ((-1), (f_Mo_throwing (A) 0 0 0 0).2) else (((f_Mo_throwing (A) 0 0 0 0).2) 6 (ix k), (f_Mo_throwing (A) 0 0 0 0).2)) else (0, (f_Mo_throwing (A) 0 0 0 0).2)) else (0, (f_Mo_throwing (A) 1 0 0 0).2))
set_option maxRecDepth 20000 in
set_option maxHeartbeats 1000000 in
theorem rs_Mo_planned {d : Nat} {M : mm_M} {k : Int32}  (hb : ∀ m, rv M 0 12 = m → ¬ k < 0 → ¬ m ≤ k → okx 4 k) : RS (d + 2) 69  M [.inr (5, 24), .inl k] (some (f_Mo_planned (rv M) k).1) (f_Mo_planned (rv M) k).2 := by
  refine RS_of (Nat.le_of_ble_eq_true rfl) ?_
  show mm_Wp pg_Mo_planned rt_Mo_planned (ct_Sem (d + 1)) (M, 0, [some (.inr (5, 24)), some (.inl k)], []) _
  refine wgo (g' := (M, 2, [some (.inr (5, 24)), some (.inl k)], [.inl k, .inr (5, 24)])) [oz 0, oz 0] rfl ⟨trivial, trivial, trivial⟩ ?_
  by_cases h1 : 0 ≤ k
  · have k2 : 0 ≤ k := by
      have q : 0 ≤ k := h1
      exact q
    refine wgo (g' := (M, 13, [some (.inr (5, 24)), some (.inl k)], [.inl 0, .inl 0, .inl 0, .inl 0, .inr (5, 24)])) [oz 1, oz 0, oz 0, oz 0, oz 0] rfl ⟨h1, trivial, trivial, trivial, trivial, trivial⟩ ?_
    obtain ⟨M3, s4, a5, w6⟩ := rs_Mo_throwing (d := d)  (M := M) (p1 := 0) (p2 := 0) (p3 := 0) (p4 := 0)  
    have a5 : rv M3 = (f_Mo_throwing ((rv M)) 0 0 0 0).2 := a5.trans (show (f_Mo_throwing ((rv M)) 0 0 0 0).2 = _ from by first | rfl | simp only [rv])
    have w6 : rf M M3 := rf_tr rf_rf w6
    refine wgo (g' := (M3, 16, [some (.inr (5, 24)), some (.inl k)], [.inl ((f_Mo_throwing ((rv M)) 0 0 0 0).1)])) [oc (some ((f_Mo_throwing ((rv M)) 0 0 0 0).1), M3)] rfl ⟨⟨s4, Nat.le_of_ble_eq_true rfl, Nat.le_of_ble_eq_true rfl, ⟨_, rfl⟩⟩, trivial⟩ ?_
    by_cases h7 : ((f_Mo_throwing ((rv M)) 0 0 0 0).1) = 0
    · have k8 : ((f_Mo_throwing ((rv M)) 0 0 0 0).1) = 0 := by
        have q : ((f_Mo_throwing ((rv M)) 0 0 0 0).1) = 0 := h7
        first | exact q | (simp only [a5] at q; exact q)
      refine wgo (g' := (M3, 26, [some (.inr (5, 24)), some (.inl k)], [.inl (M3 24 12), .inl k])) [oz 1, oz 0, oz 0, oz 0] rfl ⟨h7, trivial, trivial, trivial, trivial⟩ ?_
      by_cases h9 : (M3 24 12) ≤ k
      · have k10 : (((f_Mo_throwing ((rv M)) 0 0 0 0).2) 0 12) ≤ k := by
          have q : ((rv M3) 0 12) ≤ k := h9
          first | exact q | (simp only [a5] at q; exact q)
        refine wgo (g' := (M3, 39, [some (.inr (5, 24)), some (.inl k)], [.inl ((-1))])) [oz 1, oz 0] rfl ⟨h9, trivial, trivial⟩ ?_
        have x11 : f_Mo_planned (rv M) k = ((-1), (f_Mo_throwing ((rv M)) 0 0 0 0).2) := by
          unfold f_Mo_planned
          rw [if_pos k2, if_pos k8, if_pos k10]
        exact wend ⟨_, rfl, rfl⟩ ⟨congrArg some ((show ((-1) : Int32) = (-1) from by first | rfl | simp only [a5]).trans (congrArg Prod.fst x11).symm), a5.trans (congrArg Prod.snd x11).symm, w6⟩
      · have k12 : ¬ ((((f_Mo_throwing ((rv M)) 0 0 0 0).2) 0 12) ≤ k) := by
          have q : ¬ (((rv M3) 0 12) ≤ k) := h9
          first | exact q | (simp only [a5] at q; exact q)
        refine wgo (g' := (M3, 39, [some (.inr (5, 24)), some (.inl k)], [.inl (M3 30 (ix k))])) [oz 0, oz 0, oz 0, oz 0, oz (ix k), oz 0] rfl ⟨h9, trivial, trivial, trivial, (hb _ rfl (Int32.not_lt.mpr k2) (by have q := k12; rw [thr_row (by decide)] at q; exact q)), trivial, trivial⟩ ?_
        have x13 : f_Mo_planned (rv M) k = (((f_Mo_throwing ((rv M)) 0 0 0 0).2) 6 (ix k), (f_Mo_throwing ((rv M)) 0 0 0 0).2) := by
          unfold f_Mo_planned
          rw [if_pos k2, if_pos k8, if_neg k12]
        exact wend ⟨_, rfl, rfl⟩ ⟨congrArg some ((show ((rv M3) 6 (ix k) : Int32) = ((f_Mo_throwing ((rv M)) 0 0 0 0).2) 6 (ix k) from by first | rfl | simp only [a5]).trans (congrArg Prod.fst x13).symm), a5.trans (congrArg Prod.snd x13).symm, w6⟩
    · have k14 : ¬ (((f_Mo_throwing ((rv M)) 0 0 0 0).1) = 0) := by
        have q : ¬ (((f_Mo_throwing ((rv M)) 0 0 0 0).1) = 0) := h7
        first | exact q | (simp only [a5] at q; exact q)
      refine wgo (g' := (M3, 20, [some (.inr (5, 24)), some (.inl k)], [.inl 0])) [oz 0, oz 0] rfl ⟨h7, trivial, trivial⟩ ?_
      have x15 : f_Mo_planned (rv M) k = (0, (f_Mo_throwing ((rv M)) 0 0 0 0).2) := by
        unfold f_Mo_planned
        rw [if_pos k2, if_neg k14]
      exact wend ⟨_, rfl, rfl⟩ ⟨congrArg some ((show (0 : Int32) = 0 from by first | rfl | simp only [a5]).trans (congrArg Prod.fst x15).symm), a5.trans (congrArg Prod.snd x15).symm, w6⟩
  · have k16 : ¬ (0 ≤ k) := by
      have q : ¬ (0 ≤ k) := h1
      exact q
    refine wgo (g' := (M, 13, [some (.inr (5, 24)), some (.inl k)], [.inl 0, .inl 0, .inl 0, .inl 1, .inr (5, 24)])) [oz 0, oz 0, oz 0, oz 0, oz 0, oz 0] rfl ⟨h1, trivial, trivial, trivial, trivial, trivial, trivial⟩ ?_
    obtain ⟨M17, s18, a19, w20⟩ := rs_Mo_throwing (d := d)  (M := M) (p1 := 1) (p2 := 0) (p3 := 0) (p4 := 0)  
    have a19 : rv M17 = (f_Mo_throwing ((rv M)) 1 0 0 0).2 := a19.trans (show (f_Mo_throwing ((rv M)) 1 0 0 0).2 = _ from by first | rfl | simp only [rv])
    have w20 : rf M M17 := rf_tr rf_rf w20
    refine wgo (g' := (M17, 20, [some (.inr (5, 24)), some (.inl k)], [.inl 0])) [oc (some ((f_Mo_throwing ((rv M)) 1 0 0 0).1), M17), oz 0, oz 0] rfl ⟨⟨s18, Nat.le_of_ble_eq_true rfl, Nat.le_of_ble_eq_true rfl, ⟨_, rfl⟩⟩, (thr1 (by decide)), trivial, trivial⟩ ?_
    have x21 : f_Mo_planned (rv M) k = (0, (f_Mo_throwing ((rv M)) 1 0 0 0).2) := by
      unfold f_Mo_planned
      rw [if_neg k16]
    exact wend ⟨_, rfl, rfl⟩ ⟨congrArg some ((show (0 : Int32) = 0 from by first | rfl | simp only [a19]).trans (congrArg Prod.fst x21).symm), a19.trans (congrArg Prod.snd x21).symm, w20⟩
def f_Mo_state (A : mm_M) (x : Int32) (w : Int32) : Int32 × mm_M := (if (f_Mo_isJob (A) x) = 0 then (0, (f_Mo_throwing (A) 1 0 0 0).2) else (if (f_Mo_in w 0 2) = 0 then (0, (f_Mo_throwing (A) 1 0 0 0).2) else (if ((f_Mo_throwing (A) 0 0 0 0).1) = 0 then (if w = 0 then (f_Mo_ofJob ((f_Mo_throwing (A) 0 0 0 0).2) (ix x) 3, (f_Mo_throwing (A) 0 0 0 0).2) else (if w = 1 then (f_Mo_ofJob ((f_Mo_throwing (A) 0 0 0 0).2) (ix x) 4, (f_Mo_throwing (A) 0 0 0 0).2) else (f_Mo_ofJob ((f_Mo_throwing (A) 0 0 0 0).2) (ix x) 5, (f_Mo_throwing (A) 0 0 0 0).2))) else (0, (f_Mo_throwing (A) 0 0 0 0).2))))
set_option maxRecDepth 20000 in
set_option maxHeartbeats 1000000 in
theorem rs_Mo_state {d : Nat} {M : mm_M} {x : Int32} {w : Int32}  {j : Nat} (hj8 : j ≤ 8) (hj : rv M 0 5 = nI j) : RS (d + 3) 62  M [.inr (5, 24), .inl x, .inl w] (some (f_Mo_state (rv M) x w).1) (f_Mo_state (rv M) x w).2 := by
  refine RS_of (Nat.le_of_ble_eq_true rfl) ?_
  show mm_Wp pg_Mo_state rt_Mo_state (ct_Sem (d + 2)) (M, 0, [some (.inr (5, 24)), some (.inl x), some (.inl w)], []) _
  refine wgo (g' := (M, 3, [some (.inr (5, 24)), some (.inl x), some (.inl w)], [.inl x, .inr (5, 24), .inr (5, 24)])) [oz 0, oz 0, oz 0] rfl ⟨trivial, trivial, trivial, trivial⟩ ?_
  have s1 := sm_Mo_isJob (d := d)  (M := M) (j := x) 
  refine wgo (g' := (M, 6, [some (.inr (5, 24)), some (.inl x), some (.inl w)], [.inl (f_Mo_isJob (rv M) x), .inr (5, 24)])) [oc (some (f_Mo_isJob (rv M) x), M)] rfl ⟨⟨s1, Nat.le_of_ble_eq_true rfl, Nat.le_of_ble_eq_true rfl, ⟨_, rfl⟩⟩, trivial⟩ ?_
  by_cases h2 : (f_Mo_isJob (rv M) x) = 0
  · have k3 : (f_Mo_isJob ((rv M)) x) = 0 := by
      have q : (f_Mo_isJob (rv M) x) = 0 := h2
      exact q
    refine wgo (g' := (M, 26, [some (.inr (5, 24)), some (.inl x), some (.inl w)], [.inl 0, .inl 0, .inl 0, .inl 1, .inr (5, 24)])) [oz 1, oz 0, oz 0, oz 0, oz 0, oz 0] rfl ⟨h2, trivial, trivial, trivial, trivial, trivial, trivial⟩ ?_
    obtain ⟨M4, s5, a6, w7⟩ := rs_Mo_throwing (d := d + 1)  (M := M) (p1 := 1) (p2 := 0) (p3 := 0) (p4 := 0)  
    have a6 : rv M4 = (f_Mo_throwing ((rv M)) 1 0 0 0).2 := a6.trans (show (f_Mo_throwing ((rv M)) 1 0 0 0).2 = _ from by first | rfl | simp only [rv])
    have w7 : rf M M4 := rf_tr rf_rf w7
    refine wgo (g' := (M4, 33, [some (.inr (5, 24)), some (.inl x), some (.inl w)], [.inl 0])) [oc (some ((f_Mo_throwing ((rv M)) 1 0 0 0).1), M4), oz 0, oz 0] rfl ⟨⟨s5, Nat.le_of_ble_eq_true rfl, Nat.le_of_ble_eq_true rfl, ⟨_, rfl⟩⟩, (thr1 (by decide)), trivial, trivial⟩ ?_
    have x8 : f_Mo_state (rv M) x w = (0, (f_Mo_throwing ((rv M)) 1 0 0 0).2) := by
      unfold f_Mo_state
      rw [if_pos k3]
    exact wend ⟨_, rfl, rfl⟩ ⟨congrArg some ((show (0 : Int32) = 0 from by first | rfl | simp only [a6]).trans (congrArg Prod.fst x8).symm), a6.trans (congrArg Prod.snd x8).symm, w7⟩
  · have k9 : ¬ ((f_Mo_isJob ((rv M)) x) = 0) := by
      have q : ¬ ((f_Mo_isJob (rv M) x) = 0) := h2
      exact q
    refine wgo (g' := (M, 12, [some (.inr (5, 24)), some (.inl x), some (.inl w)], [.inl 2, .inl 0, .inl w, .inr (5, 24)])) [oz 0, oz 0, oz 0, oz 0] rfl ⟨h2, trivial, trivial, trivial, trivial⟩ ?_
    have s10 := sm_Mo_in (d := d + 1)  (M := M) (v := w) (a := 0) (e := 2) 
    refine wgo (g' := (M, 15, [some (.inr (5, 24)), some (.inl x), some (.inl w)], [.inl (f_Mo_in w 0 2), .inr (5, 24)])) [oc (some (f_Mo_in w 0 2), M)] rfl ⟨⟨s10, Nat.le_of_ble_eq_true rfl, Nat.le_of_ble_eq_true rfl, trivial⟩, trivial⟩ ?_
    by_cases h11 : (f_Mo_in w 0 2) = 0
    · have k12 : (f_Mo_in w 0 2) = 0 := by
        have q : (f_Mo_in w 0 2) = 0 := h11
        exact q
      refine wgo (g' := (M, 26, [some (.inr (5, 24)), some (.inl x), some (.inl w)], [.inl 0, .inl 0, .inl 0, .inl 1, .inr (5, 24)])) [oz 0, oz 0, oz 0, oz 0, oz 0, oz 0] rfl ⟨(fun z => z h11), trivial, trivial, trivial, trivial, trivial, trivial⟩ ?_
      obtain ⟨M13, s14, a15, w16⟩ := rs_Mo_throwing (d := d + 1)  (M := M) (p1 := 1) (p2 := 0) (p3 := 0) (p4 := 0)  
      have a15 : rv M13 = (f_Mo_throwing ((rv M)) 1 0 0 0).2 := a15.trans (show (f_Mo_throwing ((rv M)) 1 0 0 0).2 = _ from by first | rfl | simp only [rv])
      have w16 : rf M M13 := rf_tr rf_rf w16
      refine wgo (g' := (M13, 33, [some (.inr (5, 24)), some (.inl x), some (.inl w)], [.inl 0])) [oc (some ((f_Mo_throwing ((rv M)) 1 0 0 0).1), M13), oz 0, oz 0] rfl ⟨⟨s14, Nat.le_of_ble_eq_true rfl, Nat.le_of_ble_eq_true rfl, ⟨_, rfl⟩⟩, (thr1 (by decide)), trivial, trivial⟩ ?_
      have x17 : f_Mo_state (rv M) x w = (0, (f_Mo_throwing ((rv M)) 1 0 0 0).2) := by
        unfold f_Mo_state
        rw [if_neg k9, if_pos k12]
      exact wend ⟨_, rfl, rfl⟩ ⟨congrArg some ((show (0 : Int32) = 0 from by first | rfl | simp only [a15]).trans (congrArg Prod.fst x17).symm), a15.trans (congrArg Prod.snd x17).symm, w16⟩
    · have k18 : ¬ ((f_Mo_in w 0 2) = 0) := by
        have q : ¬ ((f_Mo_in w 0 2) = 0) := h11
        exact q
      refine wgo (g' := (M, 26, [some (.inr (5, 24)), some (.inl x), some (.inl w)], [.inl 0, .inl 0, .inl 0, .inl 0, .inr (5, 24)])) [oz 1, oz 0, oz 0, oz 0, oz 0] rfl ⟨h11, trivial, trivial, trivial, trivial, trivial⟩ ?_
      obtain ⟨M19, s20, a21, w22⟩ := rs_Mo_throwing (d := d + 1)  (M := M) (p1 := 0) (p2 := 0) (p3 := 0) (p4 := 0)  
      have a21 : rv M19 = (f_Mo_throwing ((rv M)) 0 0 0 0).2 := a21.trans (show (f_Mo_throwing ((rv M)) 0 0 0 0).2 = _ from by first | rfl | simp only [rv])
      have w22 : rf M M19 := rf_tr rf_rf w22
      refine wgo (g' := (M19, 29, [some (.inr (5, 24)), some (.inl x), some (.inl w)], [.inl ((f_Mo_throwing ((rv M)) 0 0 0 0).1)])) [oc (some ((f_Mo_throwing ((rv M)) 0 0 0 0).1), M19)] rfl ⟨⟨s20, Nat.le_of_ble_eq_true rfl, Nat.le_of_ble_eq_true rfl, ⟨_, rfl⟩⟩, trivial⟩ ?_
      by_cases h23 : ((f_Mo_throwing ((rv M)) 0 0 0 0).1) = 0
      · have k24 : ((f_Mo_throwing ((rv M)) 0 0 0 0).1) = 0 := by
          have q : ((f_Mo_throwing ((rv M)) 0 0 0 0).1) = 0 := h23
          first | exact q | (simp only [a21] at q; exact q)
        refine wgo (g' := (M19, 35, [some (.inr (5, 24)), some (.inl x), some (.inl w)], [.inl w])) [oz 1, oz 0] rfl ⟨h23, trivial, trivial⟩ ?_
        by_cases h25 : w = 0
        · have k26 : w = 0 := by
            have q : w = 0 := h25
            first | exact q | (simp only [a21] at q; exact q)
          refine wgo (g' := (M19, 41, [some (.inr (5, 24)), some (.inl x), some (.inl w)], [.inl 3, .inl x, .inr (5, 24)])) [oz 0, oz 0, oz 0, oz 0] rfl ⟨(fun z => z h25), trivial, trivial, trivial, trivial⟩ ?_
          have s27 := sm_Mo_ofJob (d := d + 1)  (M := M19) (j := ix x) (w := 3) (by have q := (okJ hj8 hj k9).2; omega)
          rw [← ((okJ hj8 hj k9)).1] at s27
          refine wgo (g' := (M19, 67, [some (.inr (5, 24)), some (.inl x), some (.inl w)], [.inl (f_Mo_ofJob (rv M19) (ix x) 3)])) [oc (some (f_Mo_ofJob (rv M19) (ix x) 3), M19), oz 0] rfl ⟨⟨s27, Nat.le_of_ble_eq_true rfl, Nat.le_of_ble_eq_true rfl, ⟨_, rfl⟩⟩, trivial, trivial⟩ ?_
          have x28 : f_Mo_state (rv M) x w = (f_Mo_ofJob ((f_Mo_throwing ((rv M)) 0 0 0 0).2) (ix x) 3, (f_Mo_throwing ((rv M)) 0 0 0 0).2) := by
            unfold f_Mo_state
            rw [if_neg k9, if_neg k18, if_pos k24, if_pos k26]
          exact wend ⟨_, rfl, rfl⟩ ⟨congrArg some ((show (f_Mo_ofJob (rv M19) (ix x) 3 : Int32) = f_Mo_ofJob ((f_Mo_throwing ((rv M)) 0 0 0 0).2) (ix x) 3 from by first | rfl | simp only [a21]).trans (congrArg Prod.fst x28).symm), a21.trans (congrArg Prod.snd x28).symm, w22⟩
        · have k29 : ¬ (w = 0) := by
            have q : ¬ (w = 0) := h25
            first | exact q | (simp only [a21] at q; exact q)
          refine wgo (g' := (M19, 49, [some (.inr (5, 24)), some (.inl x), some (.inl w)], [.inl 1, .inl w])) [oz 1, oz 0, oz 0] rfl ⟨h25, trivial, trivial, trivial⟩ ?_
          by_cases h30 : w = 1
          · have k31 : w = 1 := by
              have q : w = 1 := h30
              first | exact q | (simp only [a21] at q; exact q)
            refine wgo (g' := (M19, 55, [some (.inr (5, 24)), some (.inl x), some (.inl w)], [.inl 4, .inl x, .inr (5, 24)])) [oz 0, oz 0, oz 0, oz 0] rfl ⟨(fun z => z h30), trivial, trivial, trivial, trivial⟩ ?_
            have s32 := sm_Mo_ofJob (d := d + 1)  (M := M19) (j := ix x) (w := 4) (by have q := (okJ hj8 hj k9).2; omega)
            rw [← ((okJ hj8 hj k9)).1] at s32
            refine wgo (g' := (M19, 67, [some (.inr (5, 24)), some (.inl x), some (.inl w)], [.inl (f_Mo_ofJob (rv M19) (ix x) 4)])) [oc (some (f_Mo_ofJob (rv M19) (ix x) 4), M19), oz 0] rfl ⟨⟨s32, Nat.le_of_ble_eq_true rfl, Nat.le_of_ble_eq_true rfl, ⟨_, rfl⟩⟩, trivial, trivial⟩ ?_
            have x33 : f_Mo_state (rv M) x w = (f_Mo_ofJob ((f_Mo_throwing ((rv M)) 0 0 0 0).2) (ix x) 4, (f_Mo_throwing ((rv M)) 0 0 0 0).2) := by
              unfold f_Mo_state
              rw [if_neg k9, if_neg k18, if_pos k24, if_neg k29, if_pos k31]
            exact wend ⟨_, rfl, rfl⟩ ⟨congrArg some ((show (f_Mo_ofJob (rv M19) (ix x) 4 : Int32) = f_Mo_ofJob ((f_Mo_throwing ((rv M)) 0 0 0 0).2) (ix x) 4 from by first | rfl | simp only [a21]).trans (congrArg Prod.fst x33).symm), a21.trans (congrArg Prod.snd x33).symm, w22⟩
          · have k34 : ¬ (w = 1) := by
              have q : ¬ (w = 1) := h30
              first | exact q | (simp only [a21] at q; exact q)
            refine wgo (g' := (M19, 64, [some (.inr (5, 24)), some (.inl x), some (.inl w)], [.inl 5, .inl x, .inr (5, 24)])) [oz 1, oz 0, oz 0, oz 0] rfl ⟨h30, trivial, trivial, trivial, trivial⟩ ?_
            have s35 := sm_Mo_ofJob (d := d + 1)  (M := M19) (j := ix x) (w := 5) (by have q := (okJ hj8 hj k9).2; omega)
            rw [← ((okJ hj8 hj k9)).1] at s35
            refine wgo (g' := (M19, 67, [some (.inr (5, 24)), some (.inl x), some (.inl w)], [.inl (f_Mo_ofJob (rv M19) (ix x) 5)])) [oc (some (f_Mo_ofJob (rv M19) (ix x) 5), M19)] rfl ⟨⟨s35, Nat.le_of_ble_eq_true rfl, Nat.le_of_ble_eq_true rfl, ⟨_, rfl⟩⟩, trivial⟩ ?_
            have x36 : f_Mo_state (rv M) x w = (f_Mo_ofJob ((f_Mo_throwing ((rv M)) 0 0 0 0).2) (ix x) 5, (f_Mo_throwing ((rv M)) 0 0 0 0).2) := by
              unfold f_Mo_state
              rw [if_neg k9, if_neg k18, if_pos k24, if_neg k29, if_neg k34]
            exact wend ⟨_, rfl, rfl⟩ ⟨congrArg some ((show (f_Mo_ofJob (rv M19) (ix x) 5 : Int32) = f_Mo_ofJob ((f_Mo_throwing ((rv M)) 0 0 0 0).2) (ix x) 5 from by first | rfl | simp only [a21]).trans (congrArg Prod.fst x36).symm), a21.trans (congrArg Prod.snd x36).symm, w22⟩
      · have k37 : ¬ (((f_Mo_throwing ((rv M)) 0 0 0 0).1) = 0) := by
          have q : ¬ (((f_Mo_throwing ((rv M)) 0 0 0 0).1) = 0) := h23
          first | exact q | (simp only [a21] at q; exact q)
        refine wgo (g' := (M19, 33, [some (.inr (5, 24)), some (.inl x), some (.inl w)], [.inl 0])) [oz 0, oz 0] rfl ⟨h23, trivial, trivial⟩ ?_
        have x38 : f_Mo_state (rv M) x w = (0, (f_Mo_throwing ((rv M)) 0 0 0 0).2) := by
          unfold f_Mo_state
          rw [if_neg k9, if_neg k18, if_neg k37]
        exact wend ⟨_, rfl, rfl⟩ ⟨congrArg some ((show (0 : Int32) = 0 from by first | rfl | simp only [a21]).trans (congrArg Prod.fst x38).symm), a21.trans (congrArg Prod.snd x38).symm, w22⟩
def f_Mo_take (A : mm_M) (x : Int32) : Int32 × mm_M := (if (f_Mo_isJob (A) x) = 0 then (0, (f_Mo_throwing (A) 1 0 0 0).2) else (if (f_Mo_ofJob (A) (ix x) 3) = 1 then (if ((f_Mo_throwing (A) 0 0 0 0).1) = 0 then (0, (f_Mo_setJob ((f_Mo_setJob ((f_Mo_throwing (A) 0 0 0 0).2) (ix x) 3 0).2) (ix x) 4 ((-1))).2) else (0, (f_Mo_throwing (A) 0 0 0 0).2)) else (if ((f_Mo_throwing (A) 0 1 0 0).1) = 0 then (0, (f_Mo_setJob ((f_Mo_setJob ((f_Mo_throwing (A) 0 1 0 0).2) (ix x) 3 0).2) (ix x) 4 ((-1))).2) else (0, (f_Mo_throwing (A) 0 1 0 0).2))))
set_option maxRecDepth 20000 in
set_option maxHeartbeats 1000000 in
theorem rs_Mo_take {d : Nat} {M : mm_M} {x : Int32}  {j : Nat} (hj8 : j ≤ 8) (hj : rv M 0 5 = nI j) : RS (d + 3) 48  M [.inr (5, 24), .inl x] (none) (f_Mo_take (rv M) x).2 := by
  refine RS_of (Nat.le_of_ble_eq_true rfl) ?_
  show mm_Wp pg_Mo_take rt_Mo_take (ct_Sem (d + 2)) (M, 0, [some (.inr (5, 24)), some (.inl x), none], []) _
  refine wgo (g' := (M, 2, [some (.inr (5, 24)), some (.inl x), none], [.inl x, .inr (5, 24)])) [oz 0, oz 0] rfl ⟨trivial, trivial, trivial⟩ ?_
  have s1 := sm_Mo_isJob (d := d)  (M := M) (j := x) 
  refine wgo (g' := (M, 5, [some (.inr (5, 24)), some (.inl x), none], [.inl (f_Mo_isJob (rv M) x)])) [oc (some (f_Mo_isJob (rv M) x), M)] rfl ⟨⟨s1, Nat.le_of_ble_eq_true rfl, Nat.le_of_ble_eq_true rfl, ⟨_, rfl⟩⟩, trivial⟩ ?_
  by_cases h2 : (f_Mo_isJob (rv M) x) = 0
  · have k3 : (f_Mo_isJob ((rv M)) x) = 0 := by
      have q : (f_Mo_isJob (rv M) x) = 0 := h2
      exact q
    refine wgo (g' := (M, 37, [some (.inr (5, 24)), some (.inl x), some (.inl 1)], [.inl 0, .inl 0, .inl 0, .inl 1, .inr (5, 24)])) [oz 0, oz 0, oz 0, oz 0, oz 0, oz 0, oz 0, oz 1, oz 0, oz 0, oz 0] rfl ⟨(fun z => z h2), trivial, trivial, Nat.le_of_ble_eq_true rfl, trivial, trivial, trivial, (by decide), trivial, trivial, trivial, trivial⟩ ?_
    obtain ⟨M4, s5, a6, w7⟩ := rs_Mo_throwing (d := d + 1)  (M := M) (p1 := 1) (p2 := 0) (p3 := 0) (p4 := 0)  
    have a6 : rv M4 = (f_Mo_throwing ((rv M)) 1 0 0 0).2 := a6.trans (show (f_Mo_throwing ((rv M)) 1 0 0 0).2 = _ from by first | rfl | simp only [rv])
    have w7 : rf M M4 := rf_tr rf_rf w7
    refine wgo (g' := (M4, 43, [some (.inr (5, 24)), some (.inl x), some (.inl 1)], [])) [oc (some ((f_Mo_throwing ((rv M)) 1 0 0 0).1), M4), oz 0] rfl ⟨⟨s5, Nat.le_of_ble_eq_true rfl, Nat.le_of_ble_eq_true rfl, ⟨_, rfl⟩⟩, (thr1 (by decide)), trivial⟩ ?_
    have x8 : f_Mo_take (rv M) x = (0, (f_Mo_throwing ((rv M)) 1 0 0 0).2) := by
      unfold f_Mo_take
      rw [if_pos k3]
    exact wend ⟨rfl, rfl⟩ ⟨rfl, a6.trans (congrArg Prod.snd x8).symm, w7⟩
  · have k9 : ¬ ((f_Mo_isJob ((rv M)) x) = 0) := by
      have q : ¬ ((f_Mo_isJob (rv M) x) = 0) := h2
      exact q
    refine wgo (g' := (M, 23, [some (.inr (5, 24)), some (.inl x), some (.inl 0)], [.inl 3, .inl x, .inr (5, 24), .inl 0, .inr (5, 24)])) [oz 1, oz 0, oz 0, oz 0, oz 0, oz 0, oz 0, oz 0, oz 0, oz 0] rfl ⟨h2, trivial, Nat.le_of_ble_eq_true rfl, trivial, trivial, trivial, (fun z => z rfl), trivial, trivial, trivial, trivial⟩ ?_
    have s10 := sm_Mo_ofJob (d := d + 1)  (M := M) (j := ix x) (w := 3) (by have q := (okJ hj8 hj k9).2; omega)
    rw [← ((okJ hj8 hj k9)).1] at s10
    refine wgo (g' := (M, 27, [some (.inr (5, 24)), some (.inl x), some (.inl 0)], [.inl 1, .inl (f_Mo_ofJob (rv M) (ix x) 3), .inl 0, .inr (5, 24)])) [oc (some (f_Mo_ofJob (rv M) (ix x) 3), M), oz 0] rfl ⟨⟨s10, Nat.le_of_ble_eq_true rfl, Nat.le_of_ble_eq_true rfl, ⟨_, rfl⟩⟩, trivial, trivial⟩ ?_
    by_cases h11 : (f_Mo_ofJob (rv M) (ix x) 3) = 1
    · have k12 : (f_Mo_ofJob ((rv M)) (ix x) 3) = 1 := by
        have q : (f_Mo_ofJob (rv M) (ix x) 3) = 1 := h11
        exact q
      refine wgo (g' := (M, 37, [some (.inr (5, 24)), some (.inl x), some (.inl 0)], [.inl 0, .inl 0, .inl 0, .inl 0, .inr (5, 24)])) [oz 1, oz 0, oz 0, oz 0] rfl ⟨h11, trivial, trivial, trivial, trivial⟩ ?_
      obtain ⟨M13, s14, a15, w16⟩ := rs_Mo_throwing (d := d + 1)  (M := M) (p1 := 0) (p2 := 0) (p3 := 0) (p4 := 0)  
      have a15 : rv M13 = (f_Mo_throwing ((rv M)) 0 0 0 0).2 := a15.trans (show (f_Mo_throwing ((rv M)) 0 0 0 0).2 = _ from by first | rfl | simp only [rv])
      have w16 : rf M M13 := rf_tr rf_rf w16
      refine wgo (g' := (M13, 40, [some (.inr (5, 24)), some (.inl x), some (.inl 0)], [.inl ((f_Mo_throwing ((rv M)) 0 0 0 0).1)])) [oc (some ((f_Mo_throwing ((rv M)) 0 0 0 0).1), M13)] rfl ⟨⟨s14, Nat.le_of_ble_eq_true rfl, Nat.le_of_ble_eq_true rfl, ⟨_, rfl⟩⟩, trivial⟩ ?_
      by_cases h17 : ((f_Mo_throwing ((rv M)) 0 0 0 0).1) = 0
      · have k18 : ((f_Mo_throwing ((rv M)) 0 0 0 0).1) = 0 := by
          have q : ((f_Mo_throwing ((rv M)) 0 0 0 0).1) = 0 := h17
          first | exact q | (simp only [a15] at q; exact q)
        refine wgo (g' := (M13, 48, [some (.inr (5, 24)), some (.inl x), some (.inl 0)], [.inl 0, .inl 3, .inl x, .inr (5, 24)])) [oz 1, oz 0, oz 0, oz 0, oz 0] rfl ⟨h17, trivial, trivial, trivial, trivial, trivial⟩ ?_
        obtain ⟨M19, s20, a21, w22⟩ := rs_Mo_setJob (d := d + 1)  (M := M13) (j := ix x) (w := 3) (x := 0)  (by have q := (okJ hj8 hj k9).2; omega)
        rw [← ((okJ hj8 hj k9)).1] at s20
        have a21 : rv M19 = (f_Mo_setJob ((f_Mo_throwing ((rv M)) 0 0 0 0).2) (ix x) 3 0).2 := a21.trans (show (f_Mo_setJob ((rv M13)) (ix x) 3 0).2 = _ from by first | rfl | simp only [a15])
        have w22 : rf M M19 := rf_tr w16 w22
        refine wgo (g' := (M19, 55, [some (.inr (5, 24)), some (.inl x), some (.inl 0)], [.inl ((-1)), .inl 4, .inl x, .inr (5, 24)])) [oc (none, M19), oz 0, oz 0, oz 0, oz 0] rfl ⟨⟨s20, Nat.le_of_ble_eq_true rfl, Nat.le_of_ble_eq_true rfl, ⟨_, rfl⟩⟩, trivial, trivial, trivial, trivial, trivial⟩ ?_
        obtain ⟨M23, s24, a25, w26⟩ := rs_Mo_setJob (d := d + 1)  (M := M19) (j := ix x) (w := 4) (x := (-1))  (by have q := (okJ hj8 hj k9).2; omega)
        rw [← ((okJ hj8 hj k9)).1] at s24
        have a25 : rv M23 = (f_Mo_setJob ((f_Mo_setJob ((f_Mo_throwing ((rv M)) 0 0 0 0).2) (ix x) 3 0).2) (ix x) 4 ((-1))).2 := a25.trans (show (f_Mo_setJob ((rv M19)) (ix x) 4 ((-1))).2 = _ from by first | rfl | simp only [a15, a21])
        have w26 : rf M M23 := rf_tr w22 w26
        refine wgo (g' := (M23, 58, [some (.inr (5, 24)), some (.inl x), some (.inl 0)], [])) [oc (none, M23)] rfl ⟨⟨s24, Nat.le_of_ble_eq_true rfl, Nat.le_of_ble_eq_true rfl, ⟨_, rfl⟩⟩, trivial⟩ ?_
        have x27 : f_Mo_take (rv M) x = (0, (f_Mo_setJob ((f_Mo_setJob ((f_Mo_throwing ((rv M)) 0 0 0 0).2) (ix x) 3 0).2) (ix x) 4 ((-1))).2) := by
          unfold f_Mo_take
          rw [if_neg k9, if_pos k12, if_pos k18]
        exact wend ⟨rfl, rfl⟩ ⟨rfl, a25.trans (congrArg Prod.snd x27).symm, w26⟩
      · have k28 : ¬ (((f_Mo_throwing ((rv M)) 0 0 0 0).1) = 0) := by
          have q : ¬ (((f_Mo_throwing ((rv M)) 0 0 0 0).1) = 0) := h17
          first | exact q | (simp only [a15] at q; exact q)
        refine wgo (g' := (M13, 43, [some (.inr (5, 24)), some (.inl x), some (.inl 0)], [])) [oz 0] rfl ⟨h17, trivial⟩ ?_
        have x29 : f_Mo_take (rv M) x = (0, (f_Mo_throwing ((rv M)) 0 0 0 0).2) := by
          unfold f_Mo_take
          rw [if_neg k9, if_pos k12, if_neg k28]
        exact wend ⟨rfl, rfl⟩ ⟨rfl, a15.trans (congrArg Prod.snd x29).symm, w16⟩
    · have k30 : ¬ ((f_Mo_ofJob ((rv M)) (ix x) 3) = 1) := by
        have q : ¬ ((f_Mo_ofJob (rv M) (ix x) 3) = 1) := h11
        exact q
      refine wgo (g' := (M, 37, [some (.inr (5, 24)), some (.inl x), some (.inl 0)], [.inl 0, .inl 0, .inl 1, .inl 0, .inr (5, 24)])) [oz 0, oz 0, oz 0, oz 0, oz 0] rfl ⟨h11, trivial, trivial, trivial, trivial, trivial⟩ ?_
      obtain ⟨M31, s32, a33, w34⟩ := rs_Mo_throwing (d := d + 1)  (M := M) (p1 := 0) (p2 := 1) (p3 := 0) (p4 := 0)  
      have a33 : rv M31 = (f_Mo_throwing ((rv M)) 0 1 0 0).2 := a33.trans (show (f_Mo_throwing ((rv M)) 0 1 0 0).2 = _ from by first | rfl | simp only [rv])
      have w34 : rf M M31 := rf_tr rf_rf w34
      refine wgo (g' := (M31, 40, [some (.inr (5, 24)), some (.inl x), some (.inl 0)], [.inl ((f_Mo_throwing ((rv M)) 0 1 0 0).1)])) [oc (some ((f_Mo_throwing ((rv M)) 0 1 0 0).1), M31)] rfl ⟨⟨s32, Nat.le_of_ble_eq_true rfl, Nat.le_of_ble_eq_true rfl, ⟨_, rfl⟩⟩, trivial⟩ ?_
      by_cases h35 : ((f_Mo_throwing ((rv M)) 0 1 0 0).1) = 0
      · have k36 : ((f_Mo_throwing ((rv M)) 0 1 0 0).1) = 0 := by
          have q : ((f_Mo_throwing ((rv M)) 0 1 0 0).1) = 0 := h35
          first | exact q | (simp only [a33] at q; exact q)
        refine wgo (g' := (M31, 48, [some (.inr (5, 24)), some (.inl x), some (.inl 0)], [.inl 0, .inl 3, .inl x, .inr (5, 24)])) [oz 1, oz 0, oz 0, oz 0, oz 0] rfl ⟨h35, trivial, trivial, trivial, trivial, trivial⟩ ?_
        obtain ⟨M37, s38, a39, w40⟩ := rs_Mo_setJob (d := d + 1)  (M := M31) (j := ix x) (w := 3) (x := 0)  (by have q := (okJ hj8 hj k9).2; omega)
        rw [← ((okJ hj8 hj k9)).1] at s38
        have a39 : rv M37 = (f_Mo_setJob ((f_Mo_throwing ((rv M)) 0 1 0 0).2) (ix x) 3 0).2 := a39.trans (show (f_Mo_setJob ((rv M31)) (ix x) 3 0).2 = _ from by first | rfl | simp only [a33])
        have w40 : rf M M37 := rf_tr w34 w40
        refine wgo (g' := (M37, 55, [some (.inr (5, 24)), some (.inl x), some (.inl 0)], [.inl ((-1)), .inl 4, .inl x, .inr (5, 24)])) [oc (none, M37), oz 0, oz 0, oz 0, oz 0] rfl ⟨⟨s38, Nat.le_of_ble_eq_true rfl, Nat.le_of_ble_eq_true rfl, ⟨_, rfl⟩⟩, trivial, trivial, trivial, trivial, trivial⟩ ?_
        obtain ⟨M41, s42, a43, w44⟩ := rs_Mo_setJob (d := d + 1)  (M := M37) (j := ix x) (w := 4) (x := (-1))  (by have q := (okJ hj8 hj k9).2; omega)
        rw [← ((okJ hj8 hj k9)).1] at s42
        have a43 : rv M41 = (f_Mo_setJob ((f_Mo_setJob ((f_Mo_throwing ((rv M)) 0 1 0 0).2) (ix x) 3 0).2) (ix x) 4 ((-1))).2 := a43.trans (show (f_Mo_setJob ((rv M37)) (ix x) 4 ((-1))).2 = _ from by first | rfl | simp only [a33, a39])
        have w44 : rf M M41 := rf_tr w40 w44
        refine wgo (g' := (M41, 58, [some (.inr (5, 24)), some (.inl x), some (.inl 0)], [])) [oc (none, M41)] rfl ⟨⟨s42, Nat.le_of_ble_eq_true rfl, Nat.le_of_ble_eq_true rfl, ⟨_, rfl⟩⟩, trivial⟩ ?_
        have x45 : f_Mo_take (rv M) x = (0, (f_Mo_setJob ((f_Mo_setJob ((f_Mo_throwing ((rv M)) 0 1 0 0).2) (ix x) 3 0).2) (ix x) 4 ((-1))).2) := by
          unfold f_Mo_take
          rw [if_neg k9, if_neg k30, if_pos k36]
        exact wend ⟨rfl, rfl⟩ ⟨rfl, a43.trans (congrArg Prod.snd x45).symm, w44⟩
      · have k46 : ¬ (((f_Mo_throwing ((rv M)) 0 1 0 0).1) = 0) := by
          have q : ¬ (((f_Mo_throwing ((rv M)) 0 1 0 0).1) = 0) := h35
          first | exact q | (simp only [a33] at q; exact q)
        refine wgo (g' := (M31, 43, [some (.inr (5, 24)), some (.inl x), some (.inl 0)], [])) [oz 0] rfl ⟨h35, trivial⟩ ?_
        have x47 : f_Mo_take (rv M) x = (0, (f_Mo_throwing ((rv M)) 0 1 0 0).2) := by
          unfold f_Mo_take
          rw [if_neg k9, if_neg k30, if_neg k46]
        exact wend ⟨rfl, rfl⟩ ⟨rfl, a33.trans (congrArg Prod.snd x47).symm, w34⟩
def f_Mo_broken (A : mm_M) (x : Int32) (w : Int32) : Int32 × mm_M := (if (f_Mo_isCrane (A) x) = 0 then (0, (f_Mo_throwing (A) 1 0 0 0).2) else (if w = 0 then (if (f_Mo_ofCrane (A) (ix x) 8) = 0 then (if ((f_Mo_throwing (A) 0 1 0 0).1) = 0 then (if w = 0 then (0, (f_Mo_setCrane ((f_Mo_throwing (A) 0 1 0 0).2) (ix x) 8 0).2) else (0, (f_Mo_setCrane ((f_Mo_throwing (A) 0 1 0 0).2) (ix x) 8 1).2)) else (0, (f_Mo_throwing (A) 0 1 0 0).2)) else (if ((f_Mo_throwing (A) 0 0 0 0).1) = 0 then (if w = 0 then (0, (f_Mo_setCrane ((f_Mo_throwing (A) 0 0 0 0).2) (ix x) 8 0).2) else (0, (f_Mo_setCrane ((f_Mo_throwing (A) 0 0 0 0).2) (ix x) 8 1).2)) else (0, (f_Mo_throwing (A) 0 0 0 0).2))) else (if (f_Mo_ofCrane (A) (ix x) 8) = 1 then (if ((f_Mo_throwing (A) 0 1 0 0).1) = 0 then (if w = 0 then (0, (f_Mo_setCrane ((f_Mo_throwing (A) 0 1 0 0).2) (ix x) 8 0).2) else (0, (f_Mo_setCrane ((f_Mo_throwing (A) 0 1 0 0).2) (ix x) 8 1).2)) else (0, (f_Mo_throwing (A) 0 1 0 0).2)) else (if ((f_Mo_throwing (A) 0 0 0 0).1) = 0 then (if w = 0 then (0, (f_Mo_setCrane ((f_Mo_throwing (A) 0 0 0 0).2) (ix x) 8 0).2) else (0, (f_Mo_setCrane ((f_Mo_throwing (A) 0 0 0 0).2) (ix x) 8 1).2)) else (0, (f_Mo_throwing (A) 0 0 0 0).2)))))
set_option maxRecDepth 20000 in
set_option maxHeartbeats 1000000 in
theorem rs_Mo_broken {d : Nat} {M : mm_M} {x : Int32} {w : Int32}  {n : Nat} (hn3 : n ≤ 3) (hn : rv M 0 1 = nI n) : RS (d + 3) 49  M [.inr (5, 24), .inl x, .inl w] (none) (f_Mo_broken (rv M) x w).2 := by
  refine RS_of (Nat.le_of_ble_eq_true rfl) ?_
  show mm_Wp pg_Mo_broken rt_Mo_broken (ct_Sem (d + 2)) (M, 0, [some (.inr (5, 24)), some (.inl x), some (.inl w), none], []) _
  refine wgo (g' := (M, 2, [some (.inr (5, 24)), some (.inl x), some (.inl w), none], [.inl x, .inr (5, 24)])) [oz 0, oz 0] rfl ⟨trivial, trivial, trivial⟩ ?_
  have s1 := sm_Mo_isCrane (d := d)  (M := M) (c := x) 
  refine wgo (g' := (M, 5, [some (.inr (5, 24)), some (.inl x), some (.inl w), none], [.inl (f_Mo_isCrane (rv M) x)])) [oc (some (f_Mo_isCrane (rv M) x), M)] rfl ⟨⟨s1, Nat.le_of_ble_eq_true rfl, Nat.le_of_ble_eq_true rfl, ⟨_, rfl⟩⟩, trivial⟩ ?_
  by_cases h2 : (f_Mo_isCrane (rv M) x) = 0
  · have k3 : (f_Mo_isCrane ((rv M)) x) = 0 := by
      have q : (f_Mo_isCrane (rv M) x) = 0 := h2
      exact q
    refine wgo (g' := (M, 46, [some (.inr (5, 24)), some (.inl x), some (.inl w), some (.inl 1)], [.inl 0, .inl 0, .inl 0, .inl 1, .inr (5, 24)])) [oz 0, oz 0, oz 0, oz 0, oz 0, oz 0, oz 0, oz 1, oz 0, oz 0, oz 0] rfl ⟨(fun z => z h2), trivial, trivial, Nat.le_of_ble_eq_true rfl, trivial, trivial, trivial, (by decide), trivial, trivial, trivial, trivial⟩ ?_
    obtain ⟨M4, s5, a6, w7⟩ := rs_Mo_throwing (d := d + 1)  (M := M) (p1 := 1) (p2 := 0) (p3 := 0) (p4 := 0)  
    have a6 : rv M4 = (f_Mo_throwing ((rv M)) 1 0 0 0).2 := a6.trans (show (f_Mo_throwing ((rv M)) 1 0 0 0).2 = _ from by first | rfl | simp only [rv])
    have w7 : rf M M4 := rf_tr rf_rf w7
    refine wgo (g' := (M4, 52, [some (.inr (5, 24)), some (.inl x), some (.inl w), some (.inl 1)], [])) [oc (some ((f_Mo_throwing ((rv M)) 1 0 0 0).1), M4), oz 0] rfl ⟨⟨s5, Nat.le_of_ble_eq_true rfl, Nat.le_of_ble_eq_true rfl, ⟨_, rfl⟩⟩, (thr1 (by decide)), trivial⟩ ?_
    have x8 : f_Mo_broken (rv M) x w = (0, (f_Mo_throwing ((rv M)) 1 0 0 0).2) := by
      unfold f_Mo_broken
      rw [if_pos k3]
    exact wend ⟨rfl, rfl⟩ ⟨rfl, a6.trans (congrArg Prod.snd x8).symm, w7⟩
  · have k9 : ¬ ((f_Mo_isCrane ((rv M)) x) = 0) := by
      have q : ¬ ((f_Mo_isCrane (rv M) x) = 0) := h2
      exact q
    refine wgo (g' := (M, 24, [some (.inr (5, 24)), some (.inl x), some (.inl w), some (.inl 0)], [.inl 8, .inl x, .inr (5, 24), .inl 0, .inr (5, 24)])) [oz 1, oz 0, oz 0, oz 0, oz 0, oz 0, oz 0, oz 0, oz 0, oz 0] rfl ⟨h2, trivial, Nat.le_of_ble_eq_true rfl, trivial, trivial, trivial, (fun z => z rfl), trivial, trivial, trivial, trivial⟩ ?_
    have s10 := sm_Mo_ofCrane (d := d + 1)  (M := M) (c := ix x) (w := 8) (by have q := (okC hn3 hn k9).2; omega)
    rw [← ((okC hn3 hn k9)).1] at s10
    refine wgo (g' := (M, 28, [some (.inr (5, 24)), some (.inl x), some (.inl w), some (.inl 0)], [.inl w, .inl (f_Mo_ofCrane (rv M) (ix x) 8), .inl 0, .inr (5, 24)])) [oc (some (f_Mo_ofCrane (rv M) (ix x) 8), M), oz 0] rfl ⟨⟨s10, Nat.le_of_ble_eq_true rfl, Nat.le_of_ble_eq_true rfl, ⟨_, rfl⟩⟩, trivial, trivial⟩ ?_
    by_cases h11 : w = 0
    · have k12 : w = 0 := by
        have q : w = 0 := h11
        exact q
      refine wgo (g' := (M, 36, [some (.inr (5, 24)), some (.inl x), some (.inl w), some (.inl 0)], [.inl 0, .inl (f_Mo_ofCrane (rv M) (ix x) 8), .inl 0, .inr (5, 24)])) [oz 1, oz 0] rfl ⟨h11, trivial, trivial⟩ ?_
      by_cases h13 : (f_Mo_ofCrane (rv M) (ix x) 8) = 0
      · have k14 : (f_Mo_ofCrane ((rv M)) (ix x) 8) = 0 := by
          have q : (f_Mo_ofCrane (rv M) (ix x) 8) = 0 := h13
          exact q
        refine wgo (g' := (M, 46, [some (.inr (5, 24)), some (.inl x), some (.inl w), some (.inl 0)], [.inl 0, .inl 0, .inl 1, .inl 0, .inr (5, 24)])) [oz 0, oz 0, oz 0, oz 0, oz 0] rfl ⟨(fun z => z h13), trivial, trivial, trivial, trivial, trivial⟩ ?_
        obtain ⟨M15, s16, a17, w18⟩ := rs_Mo_throwing (d := d + 1)  (M := M) (p1 := 0) (p2 := 1) (p3 := 0) (p4 := 0)  
        have a17 : rv M15 = (f_Mo_throwing ((rv M)) 0 1 0 0).2 := a17.trans (show (f_Mo_throwing ((rv M)) 0 1 0 0).2 = _ from by first | rfl | simp only [rv])
        have w18 : rf M M15 := rf_tr rf_rf w18
        refine wgo (g' := (M15, 49, [some (.inr (5, 24)), some (.inl x), some (.inl w), some (.inl 0)], [.inl ((f_Mo_throwing ((rv M)) 0 1 0 0).1)])) [oc (some ((f_Mo_throwing ((rv M)) 0 1 0 0).1), M15)] rfl ⟨⟨s16, Nat.le_of_ble_eq_true rfl, Nat.le_of_ble_eq_true rfl, ⟨_, rfl⟩⟩, trivial⟩ ?_
        by_cases h19 : ((f_Mo_throwing ((rv M)) 0 1 0 0).1) = 0
        · have k20 : ((f_Mo_throwing ((rv M)) 0 1 0 0).1) = 0 := by
            have q : ((f_Mo_throwing ((rv M)) 0 1 0 0).1) = 0 := h19
            first | exact q | (simp only [a17] at q; exact q)
          refine wgo (g' := (M15, 58, [some (.inr (5, 24)), some (.inl x), some (.inl w), some (.inl 0)], [.inl w, .inl 8, .inl x, .inr (5, 24)])) [oz 1, oz 0, oz 0, oz 0, oz 0] rfl ⟨h19, trivial, trivial, trivial, trivial, trivial⟩ ?_
          by_cases h21 : w = 0
          · have k22 : w = 0 := by
              have q : w = 0 := h21
              first | exact q | (simp only [a17] at q; exact q)
            refine wgo (g' := (M15, 66, [some (.inr (5, 24)), some (.inl x), some (.inl w), some (.inl 0)], [.inl 0, .inl 8, .inl x, .inr (5, 24)])) [oz 1, oz 0] rfl ⟨h21, trivial, trivial⟩ ?_
            obtain ⟨M23, s24, a25, w26⟩ := rs_Mo_setCrane (d := d + 1)  (M := M15) (c := ix x) (w := 8) (x := 0)  (by have q := (okC hn3 hn k9).2; omega)
            rw [← ((okC hn3 hn k9)).1] at s24
            have a25 : rv M23 = (f_Mo_setCrane ((f_Mo_throwing ((rv M)) 0 1 0 0).2) (ix x) 8 0).2 := a25.trans (show (f_Mo_setCrane ((rv M15)) (ix x) 8 0).2 = _ from by first | rfl | simp only [a17])
            have w26 : rf M M23 := rf_tr w18 w26
            refine wgo (g' := (M23, 69, [some (.inr (5, 24)), some (.inl x), some (.inl w), some (.inl 0)], [])) [oc (none, M23)] rfl ⟨⟨s24, Nat.le_of_ble_eq_true rfl, Nat.le_of_ble_eq_true rfl, ⟨_, rfl⟩⟩, trivial⟩ ?_
            have x27 : f_Mo_broken (rv M) x w = (0, (f_Mo_setCrane ((f_Mo_throwing ((rv M)) 0 1 0 0).2) (ix x) 8 0).2) := by
              unfold f_Mo_broken
              rw [if_neg k9, if_pos k12, if_pos k14, if_pos k20, if_pos k22]
            exact wend ⟨rfl, rfl⟩ ⟨rfl, a25.trans (congrArg Prod.snd x27).symm, w26⟩
          · have k28 : ¬ (w = 0) := by
              have q : ¬ (w = 0) := h21
              first | exact q | (simp only [a17] at q; exact q)
            refine wgo (g' := (M15, 66, [some (.inr (5, 24)), some (.inl x), some (.inl w), some (.inl 0)], [.inl 1, .inl 8, .inl x, .inr (5, 24)])) [oz 0, oz 0, oz 0] rfl ⟨h21, trivial, trivial, trivial⟩ ?_
            obtain ⟨M29, s30, a31, w32⟩ := rs_Mo_setCrane (d := d + 1)  (M := M15) (c := ix x) (w := 8) (x := 1)  (by have q := (okC hn3 hn k9).2; omega)
            rw [← ((okC hn3 hn k9)).1] at s30
            have a31 : rv M29 = (f_Mo_setCrane ((f_Mo_throwing ((rv M)) 0 1 0 0).2) (ix x) 8 1).2 := a31.trans (show (f_Mo_setCrane ((rv M15)) (ix x) 8 1).2 = _ from by first | rfl | simp only [a17])
            have w32 : rf M M29 := rf_tr w18 w32
            refine wgo (g' := (M29, 69, [some (.inr (5, 24)), some (.inl x), some (.inl w), some (.inl 0)], [])) [oc (none, M29)] rfl ⟨⟨s30, Nat.le_of_ble_eq_true rfl, Nat.le_of_ble_eq_true rfl, ⟨_, rfl⟩⟩, trivial⟩ ?_
            have x33 : f_Mo_broken (rv M) x w = (0, (f_Mo_setCrane ((f_Mo_throwing ((rv M)) 0 1 0 0).2) (ix x) 8 1).2) := by
              unfold f_Mo_broken
              rw [if_neg k9, if_pos k12, if_pos k14, if_pos k20, if_neg k28]
            exact wend ⟨rfl, rfl⟩ ⟨rfl, a31.trans (congrArg Prod.snd x33).symm, w32⟩
        · have k34 : ¬ (((f_Mo_throwing ((rv M)) 0 1 0 0).1) = 0) := by
            have q : ¬ (((f_Mo_throwing ((rv M)) 0 1 0 0).1) = 0) := h19
            first | exact q | (simp only [a17] at q; exact q)
          refine wgo (g' := (M15, 52, [some (.inr (5, 24)), some (.inl x), some (.inl w), some (.inl 0)], [])) [oz 0] rfl ⟨h19, trivial⟩ ?_
          have x35 : f_Mo_broken (rv M) x w = (0, (f_Mo_throwing ((rv M)) 0 1 0 0).2) := by
            unfold f_Mo_broken
            rw [if_neg k9, if_pos k12, if_pos k14, if_neg k34]
          exact wend ⟨rfl, rfl⟩ ⟨rfl, a17.trans (congrArg Prod.snd x35).symm, w18⟩
      · have k36 : ¬ ((f_Mo_ofCrane ((rv M)) (ix x) 8) = 0) := by
          have q : ¬ ((f_Mo_ofCrane (rv M) (ix x) 8) = 0) := h13
          exact q
        refine wgo (g' := (M, 46, [some (.inr (5, 24)), some (.inl x), some (.inl w), some (.inl 0)], [.inl 0, .inl 0, .inl 0, .inl 0, .inr (5, 24)])) [oz 1, oz 0, oz 0, oz 0] rfl ⟨h13, trivial, trivial, trivial, trivial⟩ ?_
        obtain ⟨M37, s38, a39, w40⟩ := rs_Mo_throwing (d := d + 1)  (M := M) (p1 := 0) (p2 := 0) (p3 := 0) (p4 := 0)  
        have a39 : rv M37 = (f_Mo_throwing ((rv M)) 0 0 0 0).2 := a39.trans (show (f_Mo_throwing ((rv M)) 0 0 0 0).2 = _ from by first | rfl | simp only [rv])
        have w40 : rf M M37 := rf_tr rf_rf w40
        refine wgo (g' := (M37, 49, [some (.inr (5, 24)), some (.inl x), some (.inl w), some (.inl 0)], [.inl ((f_Mo_throwing ((rv M)) 0 0 0 0).1)])) [oc (some ((f_Mo_throwing ((rv M)) 0 0 0 0).1), M37)] rfl ⟨⟨s38, Nat.le_of_ble_eq_true rfl, Nat.le_of_ble_eq_true rfl, ⟨_, rfl⟩⟩, trivial⟩ ?_
        by_cases h41 : ((f_Mo_throwing ((rv M)) 0 0 0 0).1) = 0
        · have k42 : ((f_Mo_throwing ((rv M)) 0 0 0 0).1) = 0 := by
            have q : ((f_Mo_throwing ((rv M)) 0 0 0 0).1) = 0 := h41
            first | exact q | (simp only [a39] at q; exact q)
          refine wgo (g' := (M37, 58, [some (.inr (5, 24)), some (.inl x), some (.inl w), some (.inl 0)], [.inl w, .inl 8, .inl x, .inr (5, 24)])) [oz 1, oz 0, oz 0, oz 0, oz 0] rfl ⟨h41, trivial, trivial, trivial, trivial, trivial⟩ ?_
          by_cases h43 : w = 0
          · have k44 : w = 0 := by
              have q : w = 0 := h43
              first | exact q | (simp only [a39] at q; exact q)
            refine wgo (g' := (M37, 66, [some (.inr (5, 24)), some (.inl x), some (.inl w), some (.inl 0)], [.inl 0, .inl 8, .inl x, .inr (5, 24)])) [oz 1, oz 0] rfl ⟨h43, trivial, trivial⟩ ?_
            obtain ⟨M45, s46, a47, w48⟩ := rs_Mo_setCrane (d := d + 1)  (M := M37) (c := ix x) (w := 8) (x := 0)  (by have q := (okC hn3 hn k9).2; omega)
            rw [← ((okC hn3 hn k9)).1] at s46
            have a47 : rv M45 = (f_Mo_setCrane ((f_Mo_throwing ((rv M)) 0 0 0 0).2) (ix x) 8 0).2 := a47.trans (show (f_Mo_setCrane ((rv M37)) (ix x) 8 0).2 = _ from by first | rfl | simp only [a39])
            have w48 : rf M M45 := rf_tr w40 w48
            refine wgo (g' := (M45, 69, [some (.inr (5, 24)), some (.inl x), some (.inl w), some (.inl 0)], [])) [oc (none, M45)] rfl ⟨⟨s46, Nat.le_of_ble_eq_true rfl, Nat.le_of_ble_eq_true rfl, ⟨_, rfl⟩⟩, trivial⟩ ?_
            have x49 : f_Mo_broken (rv M) x w = (0, (f_Mo_setCrane ((f_Mo_throwing ((rv M)) 0 0 0 0).2) (ix x) 8 0).2) := by
              unfold f_Mo_broken
              rw [if_neg k9, if_pos k12, if_neg k36, if_pos k42, if_pos k44]
            exact wend ⟨rfl, rfl⟩ ⟨rfl, a47.trans (congrArg Prod.snd x49).symm, w48⟩
          · have k50 : ¬ (w = 0) := by
              have q : ¬ (w = 0) := h43
              first | exact q | (simp only [a39] at q; exact q)
            refine wgo (g' := (M37, 66, [some (.inr (5, 24)), some (.inl x), some (.inl w), some (.inl 0)], [.inl 1, .inl 8, .inl x, .inr (5, 24)])) [oz 0, oz 0, oz 0] rfl ⟨h43, trivial, trivial, trivial⟩ ?_
            obtain ⟨M51, s52, a53, w54⟩ := rs_Mo_setCrane (d := d + 1)  (M := M37) (c := ix x) (w := 8) (x := 1)  (by have q := (okC hn3 hn k9).2; omega)
            rw [← ((okC hn3 hn k9)).1] at s52
            have a53 : rv M51 = (f_Mo_setCrane ((f_Mo_throwing ((rv M)) 0 0 0 0).2) (ix x) 8 1).2 := a53.trans (show (f_Mo_setCrane ((rv M37)) (ix x) 8 1).2 = _ from by first | rfl | simp only [a39])
            have w54 : rf M M51 := rf_tr w40 w54
            refine wgo (g' := (M51, 69, [some (.inr (5, 24)), some (.inl x), some (.inl w), some (.inl 0)], [])) [oc (none, M51)] rfl ⟨⟨s52, Nat.le_of_ble_eq_true rfl, Nat.le_of_ble_eq_true rfl, ⟨_, rfl⟩⟩, trivial⟩ ?_
            have x55 : f_Mo_broken (rv M) x w = (0, (f_Mo_setCrane ((f_Mo_throwing ((rv M)) 0 0 0 0).2) (ix x) 8 1).2) := by
              unfold f_Mo_broken
              rw [if_neg k9, if_pos k12, if_neg k36, if_pos k42, if_neg k50]
            exact wend ⟨rfl, rfl⟩ ⟨rfl, a53.trans (congrArg Prod.snd x55).symm, w54⟩
        · have k56 : ¬ (((f_Mo_throwing ((rv M)) 0 0 0 0).1) = 0) := by
            have q : ¬ (((f_Mo_throwing ((rv M)) 0 0 0 0).1) = 0) := h41
            first | exact q | (simp only [a39] at q; exact q)
          refine wgo (g' := (M37, 52, [some (.inr (5, 24)), some (.inl x), some (.inl w), some (.inl 0)], [])) [oz 0] rfl ⟨h41, trivial⟩ ?_
          have x57 : f_Mo_broken (rv M) x w = (0, (f_Mo_throwing ((rv M)) 0 0 0 0).2) := by
            unfold f_Mo_broken
            rw [if_neg k9, if_pos k12, if_neg k36, if_neg k56]
          exact wend ⟨rfl, rfl⟩ ⟨rfl, a39.trans (congrArg Prod.snd x57).symm, w40⟩
    · have k58 : ¬ (w = 0) := by
        have q : ¬ (w = 0) := h11
        exact q
      refine wgo (g' := (M, 36, [some (.inr (5, 24)), some (.inl x), some (.inl w), some (.inl 0)], [.inl 1, .inl (f_Mo_ofCrane (rv M) (ix x) 8), .inl 0, .inr (5, 24)])) [oz 0, oz 0, oz 0] rfl ⟨h11, trivial, trivial, trivial⟩ ?_
      by_cases h59 : (f_Mo_ofCrane (rv M) (ix x) 8) = 1
      · have k60 : (f_Mo_ofCrane ((rv M)) (ix x) 8) = 1 := by
          have q : (f_Mo_ofCrane (rv M) (ix x) 8) = 1 := h59
          exact q
        refine wgo (g' := (M, 46, [some (.inr (5, 24)), some (.inl x), some (.inl w), some (.inl 0)], [.inl 0, .inl 0, .inl 1, .inl 0, .inr (5, 24)])) [oz 0, oz 0, oz 0, oz 0, oz 0] rfl ⟨(fun z => z h59), trivial, trivial, trivial, trivial, trivial⟩ ?_
        obtain ⟨M61, s62, a63, w64⟩ := rs_Mo_throwing (d := d + 1)  (M := M) (p1 := 0) (p2 := 1) (p3 := 0) (p4 := 0)  
        have a63 : rv M61 = (f_Mo_throwing ((rv M)) 0 1 0 0).2 := a63.trans (show (f_Mo_throwing ((rv M)) 0 1 0 0).2 = _ from by first | rfl | simp only [rv])
        have w64 : rf M M61 := rf_tr rf_rf w64
        refine wgo (g' := (M61, 49, [some (.inr (5, 24)), some (.inl x), some (.inl w), some (.inl 0)], [.inl ((f_Mo_throwing ((rv M)) 0 1 0 0).1)])) [oc (some ((f_Mo_throwing ((rv M)) 0 1 0 0).1), M61)] rfl ⟨⟨s62, Nat.le_of_ble_eq_true rfl, Nat.le_of_ble_eq_true rfl, ⟨_, rfl⟩⟩, trivial⟩ ?_
        by_cases h65 : ((f_Mo_throwing ((rv M)) 0 1 0 0).1) = 0
        · have k66 : ((f_Mo_throwing ((rv M)) 0 1 0 0).1) = 0 := by
            have q : ((f_Mo_throwing ((rv M)) 0 1 0 0).1) = 0 := h65
            first | exact q | (simp only [a63] at q; exact q)
          refine wgo (g' := (M61, 58, [some (.inr (5, 24)), some (.inl x), some (.inl w), some (.inl 0)], [.inl w, .inl 8, .inl x, .inr (5, 24)])) [oz 1, oz 0, oz 0, oz 0, oz 0] rfl ⟨h65, trivial, trivial, trivial, trivial, trivial⟩ ?_
          by_cases h67 : w = 0
          · have k68 : w = 0 := by
              have q : w = 0 := h67
              first | exact q | (simp only [a63] at q; exact q)
            refine wgo (g' := (M61, 66, [some (.inr (5, 24)), some (.inl x), some (.inl w), some (.inl 0)], [.inl 0, .inl 8, .inl x, .inr (5, 24)])) [oz 1, oz 0] rfl ⟨h67, trivial, trivial⟩ ?_
            obtain ⟨M69, s70, a71, w72⟩ := rs_Mo_setCrane (d := d + 1)  (M := M61) (c := ix x) (w := 8) (x := 0)  (by have q := (okC hn3 hn k9).2; omega)
            rw [← ((okC hn3 hn k9)).1] at s70
            have a71 : rv M69 = (f_Mo_setCrane ((f_Mo_throwing ((rv M)) 0 1 0 0).2) (ix x) 8 0).2 := a71.trans (show (f_Mo_setCrane ((rv M61)) (ix x) 8 0).2 = _ from by first | rfl | simp only [a63])
            have w72 : rf M M69 := rf_tr w64 w72
            refine wgo (g' := (M69, 69, [some (.inr (5, 24)), some (.inl x), some (.inl w), some (.inl 0)], [])) [oc (none, M69)] rfl ⟨⟨s70, Nat.le_of_ble_eq_true rfl, Nat.le_of_ble_eq_true rfl, ⟨_, rfl⟩⟩, trivial⟩ ?_
            have x73 : f_Mo_broken (rv M) x w = (0, (f_Mo_setCrane ((f_Mo_throwing ((rv M)) 0 1 0 0).2) (ix x) 8 0).2) := by
              unfold f_Mo_broken
              rw [if_neg k9, if_neg k58, if_pos k60, if_pos k66, if_pos k68]
            exact wend ⟨rfl, rfl⟩ ⟨rfl, a71.trans (congrArg Prod.snd x73).symm, w72⟩
          · have k74 : ¬ (w = 0) := by
              have q : ¬ (w = 0) := h67
              first | exact q | (simp only [a63] at q; exact q)
            refine wgo (g' := (M61, 66, [some (.inr (5, 24)), some (.inl x), some (.inl w), some (.inl 0)], [.inl 1, .inl 8, .inl x, .inr (5, 24)])) [oz 0, oz 0, oz 0] rfl ⟨h67, trivial, trivial, trivial⟩ ?_
            obtain ⟨M75, s76, a77, w78⟩ := rs_Mo_setCrane (d := d + 1)  (M := M61) (c := ix x) (w := 8) (x := 1)  (by have q := (okC hn3 hn k9).2; omega)
            rw [← ((okC hn3 hn k9)).1] at s76
            have a77 : rv M75 = (f_Mo_setCrane ((f_Mo_throwing ((rv M)) 0 1 0 0).2) (ix x) 8 1).2 := a77.trans (show (f_Mo_setCrane ((rv M61)) (ix x) 8 1).2 = _ from by first | rfl | simp only [a63])
            have w78 : rf M M75 := rf_tr w64 w78
            refine wgo (g' := (M75, 69, [some (.inr (5, 24)), some (.inl x), some (.inl w), some (.inl 0)], [])) [oc (none, M75)] rfl ⟨⟨s76, Nat.le_of_ble_eq_true rfl, Nat.le_of_ble_eq_true rfl, ⟨_, rfl⟩⟩, trivial⟩ ?_
            have x79 : f_Mo_broken (rv M) x w = (0, (f_Mo_setCrane ((f_Mo_throwing ((rv M)) 0 1 0 0).2) (ix x) 8 1).2) := by
              unfold f_Mo_broken
              rw [if_neg k9, if_neg k58, if_pos k60, if_pos k66, if_neg k74]
            exact wend ⟨rfl, rfl⟩ ⟨rfl, a77.trans (congrArg Prod.snd x79).symm, w78⟩
        · have k80 : ¬ (((f_Mo_throwing ((rv M)) 0 1 0 0).1) = 0) := by
            have q : ¬ (((f_Mo_throwing ((rv M)) 0 1 0 0).1) = 0) := h65
            first | exact q | (simp only [a63] at q; exact q)
          refine wgo (g' := (M61, 52, [some (.inr (5, 24)), some (.inl x), some (.inl w), some (.inl 0)], [])) [oz 0] rfl ⟨h65, trivial⟩ ?_
          have x81 : f_Mo_broken (rv M) x w = (0, (f_Mo_throwing ((rv M)) 0 1 0 0).2) := by
            unfold f_Mo_broken
            rw [if_neg k9, if_neg k58, if_pos k60, if_neg k80]
          exact wend ⟨rfl, rfl⟩ ⟨rfl, a63.trans (congrArg Prod.snd x81).symm, w64⟩
      · have k82 : ¬ ((f_Mo_ofCrane ((rv M)) (ix x) 8) = 1) := by
          have q : ¬ ((f_Mo_ofCrane (rv M) (ix x) 8) = 1) := h59
          exact q
        refine wgo (g' := (M, 46, [some (.inr (5, 24)), some (.inl x), some (.inl w), some (.inl 0)], [.inl 0, .inl 0, .inl 0, .inl 0, .inr (5, 24)])) [oz 1, oz 0, oz 0, oz 0] rfl ⟨h59, trivial, trivial, trivial, trivial⟩ ?_
        obtain ⟨M83, s84, a85, w86⟩ := rs_Mo_throwing (d := d + 1)  (M := M) (p1 := 0) (p2 := 0) (p3 := 0) (p4 := 0)  
        have a85 : rv M83 = (f_Mo_throwing ((rv M)) 0 0 0 0).2 := a85.trans (show (f_Mo_throwing ((rv M)) 0 0 0 0).2 = _ from by first | rfl | simp only [rv])
        have w86 : rf M M83 := rf_tr rf_rf w86
        refine wgo (g' := (M83, 49, [some (.inr (5, 24)), some (.inl x), some (.inl w), some (.inl 0)], [.inl ((f_Mo_throwing ((rv M)) 0 0 0 0).1)])) [oc (some ((f_Mo_throwing ((rv M)) 0 0 0 0).1), M83)] rfl ⟨⟨s84, Nat.le_of_ble_eq_true rfl, Nat.le_of_ble_eq_true rfl, ⟨_, rfl⟩⟩, trivial⟩ ?_
        by_cases h87 : ((f_Mo_throwing ((rv M)) 0 0 0 0).1) = 0
        · have k88 : ((f_Mo_throwing ((rv M)) 0 0 0 0).1) = 0 := by
            have q : ((f_Mo_throwing ((rv M)) 0 0 0 0).1) = 0 := h87
            first | exact q | (simp only [a85] at q; exact q)
          refine wgo (g' := (M83, 58, [some (.inr (5, 24)), some (.inl x), some (.inl w), some (.inl 0)], [.inl w, .inl 8, .inl x, .inr (5, 24)])) [oz 1, oz 0, oz 0, oz 0, oz 0] rfl ⟨h87, trivial, trivial, trivial, trivial, trivial⟩ ?_
          by_cases h89 : w = 0
          · have k90 : w = 0 := by
              have q : w = 0 := h89
              first | exact q | (simp only [a85] at q; exact q)
            refine wgo (g' := (M83, 66, [some (.inr (5, 24)), some (.inl x), some (.inl w), some (.inl 0)], [.inl 0, .inl 8, .inl x, .inr (5, 24)])) [oz 1, oz 0] rfl ⟨h89, trivial, trivial⟩ ?_
            obtain ⟨M91, s92, a93, w94⟩ := rs_Mo_setCrane (d := d + 1)  (M := M83) (c := ix x) (w := 8) (x := 0)  (by have q := (okC hn3 hn k9).2; omega)
            rw [← ((okC hn3 hn k9)).1] at s92
            have a93 : rv M91 = (f_Mo_setCrane ((f_Mo_throwing ((rv M)) 0 0 0 0).2) (ix x) 8 0).2 := a93.trans (show (f_Mo_setCrane ((rv M83)) (ix x) 8 0).2 = _ from by first | rfl | simp only [a85])
            have w94 : rf M M91 := rf_tr w86 w94
            refine wgo (g' := (M91, 69, [some (.inr (5, 24)), some (.inl x), some (.inl w), some (.inl 0)], [])) [oc (none, M91)] rfl ⟨⟨s92, Nat.le_of_ble_eq_true rfl, Nat.le_of_ble_eq_true rfl, ⟨_, rfl⟩⟩, trivial⟩ ?_
            have x95 : f_Mo_broken (rv M) x w = (0, (f_Mo_setCrane ((f_Mo_throwing ((rv M)) 0 0 0 0).2) (ix x) 8 0).2) := by
              unfold f_Mo_broken
              rw [if_neg k9, if_neg k58, if_neg k82, if_pos k88, if_pos k90]
            exact wend ⟨rfl, rfl⟩ ⟨rfl, a93.trans (congrArg Prod.snd x95).symm, w94⟩
          · have k96 : ¬ (w = 0) := by
              have q : ¬ (w = 0) := h89
              first | exact q | (simp only [a85] at q; exact q)
            refine wgo (g' := (M83, 66, [some (.inr (5, 24)), some (.inl x), some (.inl w), some (.inl 0)], [.inl 1, .inl 8, .inl x, .inr (5, 24)])) [oz 0, oz 0, oz 0] rfl ⟨h89, trivial, trivial, trivial⟩ ?_
            obtain ⟨M97, s98, a99, w100⟩ := rs_Mo_setCrane (d := d + 1)  (M := M83) (c := ix x) (w := 8) (x := 1)  (by have q := (okC hn3 hn k9).2; omega)
            rw [← ((okC hn3 hn k9)).1] at s98
            have a99 : rv M97 = (f_Mo_setCrane ((f_Mo_throwing ((rv M)) 0 0 0 0).2) (ix x) 8 1).2 := a99.trans (show (f_Mo_setCrane ((rv M83)) (ix x) 8 1).2 = _ from by first | rfl | simp only [a85])
            have w100 : rf M M97 := rf_tr w86 w100
            refine wgo (g' := (M97, 69, [some (.inr (5, 24)), some (.inl x), some (.inl w), some (.inl 0)], [])) [oc (none, M97)] rfl ⟨⟨s98, Nat.le_of_ble_eq_true rfl, Nat.le_of_ble_eq_true rfl, ⟨_, rfl⟩⟩, trivial⟩ ?_
            have x101 : f_Mo_broken (rv M) x w = (0, (f_Mo_setCrane ((f_Mo_throwing ((rv M)) 0 0 0 0).2) (ix x) 8 1).2) := by
              unfold f_Mo_broken
              rw [if_neg k9, if_neg k58, if_neg k82, if_pos k88, if_neg k96]
            exact wend ⟨rfl, rfl⟩ ⟨rfl, a99.trans (congrArg Prod.snd x101).symm, w100⟩
        · have k102 : ¬ (((f_Mo_throwing ((rv M)) 0 0 0 0).1) = 0) := by
            have q : ¬ (((f_Mo_throwing ((rv M)) 0 0 0 0).1) = 0) := h87
            first | exact q | (simp only [a85] at q; exact q)
          refine wgo (g' := (M83, 52, [some (.inr (5, 24)), some (.inl x), some (.inl w), some (.inl 0)], [])) [oz 0] rfl ⟨h87, trivial⟩ ?_
          have x103 : f_Mo_broken (rv M) x w = (0, (f_Mo_throwing ((rv M)) 0 0 0 0).2) := by
            unfold f_Mo_broken
            rw [if_neg k9, if_neg k58, if_neg k82, if_neg k102]
          exact wend ⟨rfl, rfl⟩ ⟨rfl, a85.trans (congrArg Prod.snd x103).symm, w86⟩
def f_Mo_give (A : mm_M) (x : Int32) (w : Int32) : Int32 × mm_M := (if (f_Mo_isJob (A) x) = 0 then (0, (f_Mo_throwing (A) 1 0 0 0).2) else (if (f_Mo_isCrane (A) w) = 0 then (0, (f_Mo_throwing (A) 1 0 0 0).2) else (if (f_Mo_ofJob (A) (ix x) 3) ≤ 0 then (if (f_Mo_reaches (A) (ix w) (ix x)) = 0 then (if ((f_Mo_throwing (A) 0 0 1 0).1) = 0 then (0, (f_Mo_giveTo ((f_Mo_throwing (A) 0 0 1 0).2) (ix x) (ix w)).2) else (0, (f_Mo_throwing (A) 0 0 1 0).2)) else (if ((f_Mo_throwing (A) 0 0 0 0).1) = 0 then (0, (f_Mo_giveTo ((f_Mo_throwing (A) 0 0 0 0).2) (ix x) (ix w)).2) else (0, (f_Mo_throwing (A) 0 0 0 0).2))) else (if (f_Mo_reaches (A) (ix w) (ix x)) = 0 then (if ((f_Mo_throwing (A) 0 1 1 0).1) = 0 then (0, (f_Mo_giveTo ((f_Mo_throwing (A) 0 1 1 0).2) (ix x) (ix w)).2) else (0, (f_Mo_throwing (A) 0 1 1 0).2)) else (if ((f_Mo_throwing (A) 0 1 0 0).1) = 0 then (0, (f_Mo_giveTo ((f_Mo_throwing (A) 0 1 0 0).2) (ix x) (ix w)).2) else (0, (f_Mo_throwing (A) 0 1 0 0).2))))))
set_option maxRecDepth 20000 in
set_option maxHeartbeats 1000000 in
theorem rs_Mo_give {d : Nat} {M : mm_M} {x : Int32} {w : Int32}  {j : Nat} (hj8 : j ≤ 8) (hj : rv M 0 5 = nI j){n : Nat} (hn3 : n ≤ 3) (hn : rv M 0 1 = nI n) : RS (d + 3) 47  M [.inr (5, 24), .inl x, .inl w] (none) (f_Mo_give (rv M) x w).2 := by
  refine RS_of (Nat.le_of_ble_eq_true rfl) ?_
  show mm_Wp pg_Mo_give rt_Mo_give (ct_Sem (d + 2)) (M, 0, [some (.inr (5, 24)), some (.inl x), some (.inl w), none], []) _
  refine wgo (g' := (M, 2, [some (.inr (5, 24)), some (.inl x), some (.inl w), none], [.inl x, .inr (5, 24)])) [oz 0, oz 0] rfl ⟨trivial, trivial, trivial⟩ ?_
  have s1 := sm_Mo_isJob (d := d)  (M := M) (j := x) 
  refine wgo (g' := (M, 5, [some (.inr (5, 24)), some (.inl x), some (.inl w), none], [.inl (f_Mo_isJob (rv M) x)])) [oc (some (f_Mo_isJob (rv M) x), M)] rfl ⟨⟨s1, Nat.le_of_ble_eq_true rfl, Nat.le_of_ble_eq_true rfl, ⟨_, rfl⟩⟩, trivial⟩ ?_
  by_cases h2 : (f_Mo_isJob (rv M) x) = 0
  · have k3 : (f_Mo_isJob ((rv M)) x) = 0 := by
      have q : (f_Mo_isJob (rv M) x) = 0 := h2
      exact q
    refine wgo (g' := (M, 61, [some (.inr (5, 24)), some (.inl x), some (.inl w), some (.inl 1)], [.inl 0, .inl 0, .inl 0, .inl 1, .inr (5, 24)])) [oz 1, oz 0, oz 0, oz 0, oz 0, oz 0, oz 0, oz 1, oz 0, oz 0, oz 1, oz 0, oz 0] rfl ⟨h2, trivial, trivial, Nat.le_of_ble_eq_true rfl, trivial, trivial, trivial, (by decide), trivial, trivial, (by decide), trivial, trivial, trivial⟩ ?_
    obtain ⟨M4, s5, a6, w7⟩ := rs_Mo_throwing (d := d + 1)  (M := M) (p1 := 1) (p2 := 0) (p3 := 0) (p4 := 0)  
    have a6 : rv M4 = (f_Mo_throwing ((rv M)) 1 0 0 0).2 := a6.trans (show (f_Mo_throwing ((rv M)) 1 0 0 0).2 = _ from by first | rfl | simp only [rv])
    have w7 : rf M M4 := rf_tr rf_rf w7
    refine wgo (g' := (M4, 67, [some (.inr (5, 24)), some (.inl x), some (.inl w), some (.inl 1)], [])) [oc (some ((f_Mo_throwing ((rv M)) 1 0 0 0).1), M4), oz 0] rfl ⟨⟨s5, Nat.le_of_ble_eq_true rfl, Nat.le_of_ble_eq_true rfl, ⟨_, rfl⟩⟩, (thr1 (by decide)), trivial⟩ ?_
    have x8 : f_Mo_give (rv M) x w = (0, (f_Mo_throwing ((rv M)) 1 0 0 0).2) := by
      unfold f_Mo_give
      rw [if_pos k3]
    exact wend ⟨rfl, rfl⟩ ⟨rfl, a6.trans (congrArg Prod.snd x8).symm, w7⟩
  · have k9 : ¬ ((f_Mo_isJob ((rv M)) x) = 0) := by
      have q : ¬ ((f_Mo_isJob (rv M) x) = 0) := h2
      exact q
    refine wgo (g' := (M, 10, [some (.inr (5, 24)), some (.inl x), some (.inl w), none], [.inl w, .inr (5, 24)])) [oz 0, oz 0, oz 0] rfl ⟨h2, trivial, trivial, trivial⟩ ?_
    have s10 := sm_Mo_isCrane (d := d)  (M := M) (c := w) 
    refine wgo (g' := (M, 13, [some (.inr (5, 24)), some (.inl x), some (.inl w), none], [.inl (f_Mo_isCrane (rv M) w)])) [oc (some (f_Mo_isCrane (rv M) w), M)] rfl ⟨⟨s10, Nat.le_of_ble_eq_true rfl, Nat.le_of_ble_eq_true rfl, ⟨_, rfl⟩⟩, trivial⟩ ?_
    by_cases h11 : (f_Mo_isCrane (rv M) w) = 0
    · have k12 : (f_Mo_isCrane ((rv M)) w) = 0 := by
        have q : (f_Mo_isCrane (rv M) w) = 0 := h11
        exact q
      refine wgo (g' := (M, 61, [some (.inr (5, 24)), some (.inl x), some (.inl w), some (.inl 1)], [.inl 0, .inl 0, .inl 0, .inl 1, .inr (5, 24)])) [oz 0, oz 0, oz 0, oz 0, oz 0, oz 0, oz 0, oz 1, oz 0, oz 0, oz 1, oz 0, oz 0] rfl ⟨(fun z => z h11), trivial, trivial, Nat.le_of_ble_eq_true rfl, trivial, trivial, trivial, (by decide), trivial, trivial, (by decide), trivial, trivial, trivial⟩ ?_
      obtain ⟨M13, s14, a15, w16⟩ := rs_Mo_throwing (d := d + 1)  (M := M) (p1 := 1) (p2 := 0) (p3 := 0) (p4 := 0)  
      have a15 : rv M13 = (f_Mo_throwing ((rv M)) 1 0 0 0).2 := a15.trans (show (f_Mo_throwing ((rv M)) 1 0 0 0).2 = _ from by first | rfl | simp only [rv])
      have w16 : rf M M13 := rf_tr rf_rf w16
      refine wgo (g' := (M13, 67, [some (.inr (5, 24)), some (.inl x), some (.inl w), some (.inl 1)], [])) [oc (some ((f_Mo_throwing ((rv M)) 1 0 0 0).1), M13), oz 0] rfl ⟨⟨s14, Nat.le_of_ble_eq_true rfl, Nat.le_of_ble_eq_true rfl, ⟨_, rfl⟩⟩, (thr1 (by decide)), trivial⟩ ?_
      have x17 : f_Mo_give (rv M) x w = (0, (f_Mo_throwing ((rv M)) 1 0 0 0).2) := by
        unfold f_Mo_give
        rw [if_neg k9, if_pos k12]
      exact wend ⟨rfl, rfl⟩ ⟨rfl, a15.trans (congrArg Prod.snd x17).symm, w16⟩
    · have k18 : ¬ ((f_Mo_isCrane ((rv M)) w) = 0) := by
        have q : ¬ ((f_Mo_isCrane (rv M) w) = 0) := h11
        exact q
      refine wgo (g' := (M, 31, [some (.inr (5, 24)), some (.inl x), some (.inl w), some (.inl 0)], [.inl 3, .inl x, .inr (5, 24), .inl 0, .inr (5, 24)])) [oz 1, oz 0, oz 0, oz 0, oz 0, oz 0, oz 0, oz 0, oz 0, oz 0] rfl ⟨h11, trivial, Nat.le_of_ble_eq_true rfl, trivial, trivial, trivial, (fun z => z rfl), trivial, trivial, trivial, trivial⟩ ?_
      have s19 := sm_Mo_ofJob (d := d + 1)  (M := M) (j := ix x) (w := 3) (by have q := (okJ hj8 hj k9).2; omega)
      rw [← ((okJ hj8 hj k9)).1] at s19
      refine wgo (g' := (M, 34, [some (.inr (5, 24)), some (.inl x), some (.inl w), some (.inl 0)], [.inl (f_Mo_ofJob (rv M) (ix x) 3), .inl 0, .inr (5, 24)])) [oc (some (f_Mo_ofJob (rv M) (ix x) 3), M)] rfl ⟨⟨s19, Nat.le_of_ble_eq_true rfl, Nat.le_of_ble_eq_true rfl, ⟨_, rfl⟩⟩, trivial⟩ ?_
      by_cases h20 : (f_Mo_ofJob (rv M) (ix x) 3) ≤ 0
      · have k21 : (f_Mo_ofJob ((rv M)) (ix x) 3) ≤ 0 := by
          have q : (f_Mo_ofJob (rv M) (ix x) 3) ≤ 0 := h20
          exact q
        refine wgo (g' := (M, 49, [some (.inr (5, 24)), some (.inl x), some (.inl w), some (.inl 0)], [.inl x, .inl w, .inr (5, 24), .inl 0, .inl 0, .inr (5, 24)])) [oz 1, oz 0, oz 0, oz 0, oz 0, oz 0, oz 0] rfl ⟨h20, trivial, trivial, (fun z => z rfl), trivial, trivial, trivial, trivial⟩ ?_
        have s22 := sm_Mo_reaches (d := d)  (M := M) (c := ix w) (j := ix x) (okC hn3 hn k18).2 (okJ hj8 hj k9).2
        rw [← ((okC hn3 hn k18)).1] at s22
        rw [← ((okJ hj8 hj k9)).1] at s22
        refine wgo (g' := (M, 52, [some (.inr (5, 24)), some (.inl x), some (.inl w), some (.inl 0)], [.inl (f_Mo_reaches (rv M) (ix w) (ix x)), .inl 0, .inl 0, .inr (5, 24)])) [oc (some (f_Mo_reaches (rv M) (ix w) (ix x)), M)] rfl ⟨⟨s22, Nat.le_of_ble_eq_true rfl, Nat.le_of_ble_eq_true rfl, ⟨_, rfl⟩⟩, trivial⟩ ?_
        by_cases h23 : (f_Mo_reaches (rv M) (ix w) (ix x)) = 0
        · have k24 : (f_Mo_reaches ((rv M)) (ix w) (ix x)) = 0 := by
            have q : (f_Mo_reaches (rv M) (ix w) (ix x)) = 0 := h23
            exact q
          refine wgo (g' := (M, 61, [some (.inr (5, 24)), some (.inl x), some (.inl w), some (.inl 0)], [.inl 0, .inl 1, .inl 0, .inl 0, .inr (5, 24)])) [oz 0, oz 0, oz 0, oz 0] rfl ⟨(fun z => z h23), trivial, trivial, trivial, trivial⟩ ?_
          obtain ⟨M25, s26, a27, w28⟩ := rs_Mo_throwing (d := d + 1)  (M := M) (p1 := 0) (p2 := 0) (p3 := 1) (p4 := 0)  
          have a27 : rv M25 = (f_Mo_throwing ((rv M)) 0 0 1 0).2 := a27.trans (show (f_Mo_throwing ((rv M)) 0 0 1 0).2 = _ from by first | rfl | simp only [rv])
          have w28 : rf M M25 := rf_tr rf_rf w28
          refine wgo (g' := (M25, 64, [some (.inr (5, 24)), some (.inl x), some (.inl w), some (.inl 0)], [.inl ((f_Mo_throwing ((rv M)) 0 0 1 0).1)])) [oc (some ((f_Mo_throwing ((rv M)) 0 0 1 0).1), M25)] rfl ⟨⟨s26, Nat.le_of_ble_eq_true rfl, Nat.le_of_ble_eq_true rfl, ⟨_, rfl⟩⟩, trivial⟩ ?_
          by_cases h29 : ((f_Mo_throwing ((rv M)) 0 0 1 0).1) = 0
          · have k30 : ((f_Mo_throwing ((rv M)) 0 0 1 0).1) = 0 := by
              have q : ((f_Mo_throwing ((rv M)) 0 0 1 0).1) = 0 := h29
              first | exact q | (simp only [a27] at q; exact q)
            refine wgo (g' := (M25, 71, [some (.inr (5, 24)), some (.inl x), some (.inl w), some (.inl 0)], [.inl w, .inl x, .inr (5, 24)])) [oz 1, oz 0, oz 0, oz 0] rfl ⟨h29, trivial, trivial, trivial, trivial⟩ ?_
            obtain ⟨M31, s32, a33, w34⟩ := rs_Mo_giveTo (d := d)  (M := M25) (j := ix x) (c := ix w)  (okJ hj8 hj k9).2
            rw [← ((okJ hj8 hj k9)).1] at s32
            rw [← ((okC hn3 hn k18)).1] at s32
            have a33 : rv M31 = (f_Mo_giveTo ((f_Mo_throwing ((rv M)) 0 0 1 0).2) (ix x) (ix w)).2 := a33.trans (show (f_Mo_giveTo ((rv M25)) (ix x) (ix w)).2 = _ from by first | rfl | simp only [a27])
            have w34 : rf M M31 := rf_tr w28 w34
            refine wgo (g' := (M31, 74, [some (.inr (5, 24)), some (.inl x), some (.inl w), some (.inl 0)], [])) [oc (none, M31)] rfl ⟨⟨s32, Nat.le_of_ble_eq_true rfl, Nat.le_of_ble_eq_true rfl, ⟨_, rfl⟩⟩, trivial⟩ ?_
            have x35 : f_Mo_give (rv M) x w = (0, (f_Mo_giveTo ((f_Mo_throwing ((rv M)) 0 0 1 0).2) (ix x) (ix w)).2) := by
              unfold f_Mo_give
              rw [if_neg k9, if_neg k18, if_pos k21, if_pos k24, if_pos k30]
            exact wend ⟨rfl, rfl⟩ ⟨rfl, a33.trans (congrArg Prod.snd x35).symm, w34⟩
          · have k36 : ¬ (((f_Mo_throwing ((rv M)) 0 0 1 0).1) = 0) := by
              have q : ¬ (((f_Mo_throwing ((rv M)) 0 0 1 0).1) = 0) := h29
              first | exact q | (simp only [a27] at q; exact q)
            refine wgo (g' := (M25, 67, [some (.inr (5, 24)), some (.inl x), some (.inl w), some (.inl 0)], [])) [oz 0] rfl ⟨h29, trivial⟩ ?_
            have x37 : f_Mo_give (rv M) x w = (0, (f_Mo_throwing ((rv M)) 0 0 1 0).2) := by
              unfold f_Mo_give
              rw [if_neg k9, if_neg k18, if_pos k21, if_pos k24, if_neg k36]
            exact wend ⟨rfl, rfl⟩ ⟨rfl, a27.trans (congrArg Prod.snd x37).symm, w28⟩
        · have k38 : ¬ ((f_Mo_reaches ((rv M)) (ix w) (ix x)) = 0) := by
            have q : ¬ ((f_Mo_reaches (rv M) (ix w) (ix x)) = 0) := h23
            exact q
          refine wgo (g' := (M, 61, [some (.inr (5, 24)), some (.inl x), some (.inl w), some (.inl 0)], [.inl 0, .inl 0, .inl 0, .inl 0, .inr (5, 24)])) [oz 1, oz 0, oz 0] rfl ⟨h23, trivial, trivial, trivial⟩ ?_
          obtain ⟨M39, s40, a41, w42⟩ := rs_Mo_throwing (d := d + 1)  (M := M) (p1 := 0) (p2 := 0) (p3 := 0) (p4 := 0)  
          have a41 : rv M39 = (f_Mo_throwing ((rv M)) 0 0 0 0).2 := a41.trans (show (f_Mo_throwing ((rv M)) 0 0 0 0).2 = _ from by first | rfl | simp only [rv])
          have w42 : rf M M39 := rf_tr rf_rf w42
          refine wgo (g' := (M39, 64, [some (.inr (5, 24)), some (.inl x), some (.inl w), some (.inl 0)], [.inl ((f_Mo_throwing ((rv M)) 0 0 0 0).1)])) [oc (some ((f_Mo_throwing ((rv M)) 0 0 0 0).1), M39)] rfl ⟨⟨s40, Nat.le_of_ble_eq_true rfl, Nat.le_of_ble_eq_true rfl, ⟨_, rfl⟩⟩, trivial⟩ ?_
          by_cases h43 : ((f_Mo_throwing ((rv M)) 0 0 0 0).1) = 0
          · have k44 : ((f_Mo_throwing ((rv M)) 0 0 0 0).1) = 0 := by
              have q : ((f_Mo_throwing ((rv M)) 0 0 0 0).1) = 0 := h43
              first | exact q | (simp only [a41] at q; exact q)
            refine wgo (g' := (M39, 71, [some (.inr (5, 24)), some (.inl x), some (.inl w), some (.inl 0)], [.inl w, .inl x, .inr (5, 24)])) [oz 1, oz 0, oz 0, oz 0] rfl ⟨h43, trivial, trivial, trivial, trivial⟩ ?_
            obtain ⟨M45, s46, a47, w48⟩ := rs_Mo_giveTo (d := d)  (M := M39) (j := ix x) (c := ix w)  (okJ hj8 hj k9).2
            rw [← ((okJ hj8 hj k9)).1] at s46
            rw [← ((okC hn3 hn k18)).1] at s46
            have a47 : rv M45 = (f_Mo_giveTo ((f_Mo_throwing ((rv M)) 0 0 0 0).2) (ix x) (ix w)).2 := a47.trans (show (f_Mo_giveTo ((rv M39)) (ix x) (ix w)).2 = _ from by first | rfl | simp only [a41])
            have w48 : rf M M45 := rf_tr w42 w48
            refine wgo (g' := (M45, 74, [some (.inr (5, 24)), some (.inl x), some (.inl w), some (.inl 0)], [])) [oc (none, M45)] rfl ⟨⟨s46, Nat.le_of_ble_eq_true rfl, Nat.le_of_ble_eq_true rfl, ⟨_, rfl⟩⟩, trivial⟩ ?_
            have x49 : f_Mo_give (rv M) x w = (0, (f_Mo_giveTo ((f_Mo_throwing ((rv M)) 0 0 0 0).2) (ix x) (ix w)).2) := by
              unfold f_Mo_give
              rw [if_neg k9, if_neg k18, if_pos k21, if_neg k38, if_pos k44]
            exact wend ⟨rfl, rfl⟩ ⟨rfl, a47.trans (congrArg Prod.snd x49).symm, w48⟩
          · have k50 : ¬ (((f_Mo_throwing ((rv M)) 0 0 0 0).1) = 0) := by
              have q : ¬ (((f_Mo_throwing ((rv M)) 0 0 0 0).1) = 0) := h43
              first | exact q | (simp only [a41] at q; exact q)
            refine wgo (g' := (M39, 67, [some (.inr (5, 24)), some (.inl x), some (.inl w), some (.inl 0)], [])) [oz 0] rfl ⟨h43, trivial⟩ ?_
            have x51 : f_Mo_give (rv M) x w = (0, (f_Mo_throwing ((rv M)) 0 0 0 0).2) := by
              unfold f_Mo_give
              rw [if_neg k9, if_neg k18, if_pos k21, if_neg k38, if_neg k50]
            exact wend ⟨rfl, rfl⟩ ⟨rfl, a41.trans (congrArg Prod.snd x51).symm, w42⟩
      · have k52 : ¬ ((f_Mo_ofJob ((rv M)) (ix x) 3) ≤ 0) := by
          have q : ¬ ((f_Mo_ofJob (rv M) (ix x) 3) ≤ 0) := h20
          exact q
        refine wgo (g' := (M, 49, [some (.inr (5, 24)), some (.inl x), some (.inl w), some (.inl 0)], [.inl x, .inl w, .inr (5, 24), .inl 1, .inl 0, .inr (5, 24)])) [oz 0, oz 0, oz 0, oz 0, oz 0, oz 0, oz 0, oz 0] rfl ⟨h20, trivial, trivial, trivial, (fun z => z rfl), trivial, trivial, trivial, trivial⟩ ?_
        have s53 := sm_Mo_reaches (d := d)  (M := M) (c := ix w) (j := ix x) (okC hn3 hn k18).2 (okJ hj8 hj k9).2
        rw [← ((okC hn3 hn k18)).1] at s53
        rw [← ((okJ hj8 hj k9)).1] at s53
        refine wgo (g' := (M, 52, [some (.inr (5, 24)), some (.inl x), some (.inl w), some (.inl 0)], [.inl (f_Mo_reaches (rv M) (ix w) (ix x)), .inl 1, .inl 0, .inr (5, 24)])) [oc (some (f_Mo_reaches (rv M) (ix w) (ix x)), M)] rfl ⟨⟨s53, Nat.le_of_ble_eq_true rfl, Nat.le_of_ble_eq_true rfl, ⟨_, rfl⟩⟩, trivial⟩ ?_
        by_cases h54 : (f_Mo_reaches (rv M) (ix w) (ix x)) = 0
        · have k55 : (f_Mo_reaches ((rv M)) (ix w) (ix x)) = 0 := by
            have q : (f_Mo_reaches (rv M) (ix w) (ix x)) = 0 := h54
            exact q
          refine wgo (g' := (M, 61, [some (.inr (5, 24)), some (.inl x), some (.inl w), some (.inl 0)], [.inl 0, .inl 1, .inl 1, .inl 0, .inr (5, 24)])) [oz 0, oz 0, oz 0, oz 0] rfl ⟨(fun z => z h54), trivial, trivial, trivial, trivial⟩ ?_
          obtain ⟨M56, s57, a58, w59⟩ := rs_Mo_throwing (d := d + 1)  (M := M) (p1 := 0) (p2 := 1) (p3 := 1) (p4 := 0)  
          have a58 : rv M56 = (f_Mo_throwing ((rv M)) 0 1 1 0).2 := a58.trans (show (f_Mo_throwing ((rv M)) 0 1 1 0).2 = _ from by first | rfl | simp only [rv])
          have w59 : rf M M56 := rf_tr rf_rf w59
          refine wgo (g' := (M56, 64, [some (.inr (5, 24)), some (.inl x), some (.inl w), some (.inl 0)], [.inl ((f_Mo_throwing ((rv M)) 0 1 1 0).1)])) [oc (some ((f_Mo_throwing ((rv M)) 0 1 1 0).1), M56)] rfl ⟨⟨s57, Nat.le_of_ble_eq_true rfl, Nat.le_of_ble_eq_true rfl, ⟨_, rfl⟩⟩, trivial⟩ ?_
          by_cases h60 : ((f_Mo_throwing ((rv M)) 0 1 1 0).1) = 0
          · have k61 : ((f_Mo_throwing ((rv M)) 0 1 1 0).1) = 0 := by
              have q : ((f_Mo_throwing ((rv M)) 0 1 1 0).1) = 0 := h60
              first | exact q | (simp only [a58] at q; exact q)
            refine wgo (g' := (M56, 71, [some (.inr (5, 24)), some (.inl x), some (.inl w), some (.inl 0)], [.inl w, .inl x, .inr (5, 24)])) [oz 1, oz 0, oz 0, oz 0] rfl ⟨h60, trivial, trivial, trivial, trivial⟩ ?_
            obtain ⟨M62, s63, a64, w65⟩ := rs_Mo_giveTo (d := d)  (M := M56) (j := ix x) (c := ix w)  (okJ hj8 hj k9).2
            rw [← ((okJ hj8 hj k9)).1] at s63
            rw [← ((okC hn3 hn k18)).1] at s63
            have a64 : rv M62 = (f_Mo_giveTo ((f_Mo_throwing ((rv M)) 0 1 1 0).2) (ix x) (ix w)).2 := a64.trans (show (f_Mo_giveTo ((rv M56)) (ix x) (ix w)).2 = _ from by first | rfl | simp only [a58])
            have w65 : rf M M62 := rf_tr w59 w65
            refine wgo (g' := (M62, 74, [some (.inr (5, 24)), some (.inl x), some (.inl w), some (.inl 0)], [])) [oc (none, M62)] rfl ⟨⟨s63, Nat.le_of_ble_eq_true rfl, Nat.le_of_ble_eq_true rfl, ⟨_, rfl⟩⟩, trivial⟩ ?_
            have x66 : f_Mo_give (rv M) x w = (0, (f_Mo_giveTo ((f_Mo_throwing ((rv M)) 0 1 1 0).2) (ix x) (ix w)).2) := by
              unfold f_Mo_give
              rw [if_neg k9, if_neg k18, if_neg k52, if_pos k55, if_pos k61]
            exact wend ⟨rfl, rfl⟩ ⟨rfl, a64.trans (congrArg Prod.snd x66).symm, w65⟩
          · have k67 : ¬ (((f_Mo_throwing ((rv M)) 0 1 1 0).1) = 0) := by
              have q : ¬ (((f_Mo_throwing ((rv M)) 0 1 1 0).1) = 0) := h60
              first | exact q | (simp only [a58] at q; exact q)
            refine wgo (g' := (M56, 67, [some (.inr (5, 24)), some (.inl x), some (.inl w), some (.inl 0)], [])) [oz 0] rfl ⟨h60, trivial⟩ ?_
            have x68 : f_Mo_give (rv M) x w = (0, (f_Mo_throwing ((rv M)) 0 1 1 0).2) := by
              unfold f_Mo_give
              rw [if_neg k9, if_neg k18, if_neg k52, if_pos k55, if_neg k67]
            exact wend ⟨rfl, rfl⟩ ⟨rfl, a58.trans (congrArg Prod.snd x68).symm, w59⟩
        · have k69 : ¬ ((f_Mo_reaches ((rv M)) (ix w) (ix x)) = 0) := by
            have q : ¬ ((f_Mo_reaches (rv M) (ix w) (ix x)) = 0) := h54
            exact q
          refine wgo (g' := (M, 61, [some (.inr (5, 24)), some (.inl x), some (.inl w), some (.inl 0)], [.inl 0, .inl 0, .inl 1, .inl 0, .inr (5, 24)])) [oz 1, oz 0, oz 0] rfl ⟨h54, trivial, trivial, trivial⟩ ?_
          obtain ⟨M70, s71, a72, w73⟩ := rs_Mo_throwing (d := d + 1)  (M := M) (p1 := 0) (p2 := 1) (p3 := 0) (p4 := 0)  
          have a72 : rv M70 = (f_Mo_throwing ((rv M)) 0 1 0 0).2 := a72.trans (show (f_Mo_throwing ((rv M)) 0 1 0 0).2 = _ from by first | rfl | simp only [rv])
          have w73 : rf M M70 := rf_tr rf_rf w73
          refine wgo (g' := (M70, 64, [some (.inr (5, 24)), some (.inl x), some (.inl w), some (.inl 0)], [.inl ((f_Mo_throwing ((rv M)) 0 1 0 0).1)])) [oc (some ((f_Mo_throwing ((rv M)) 0 1 0 0).1), M70)] rfl ⟨⟨s71, Nat.le_of_ble_eq_true rfl, Nat.le_of_ble_eq_true rfl, ⟨_, rfl⟩⟩, trivial⟩ ?_
          by_cases h74 : ((f_Mo_throwing ((rv M)) 0 1 0 0).1) = 0
          · have k75 : ((f_Mo_throwing ((rv M)) 0 1 0 0).1) = 0 := by
              have q : ((f_Mo_throwing ((rv M)) 0 1 0 0).1) = 0 := h74
              first | exact q | (simp only [a72] at q; exact q)
            refine wgo (g' := (M70, 71, [some (.inr (5, 24)), some (.inl x), some (.inl w), some (.inl 0)], [.inl w, .inl x, .inr (5, 24)])) [oz 1, oz 0, oz 0, oz 0] rfl ⟨h74, trivial, trivial, trivial, trivial⟩ ?_
            obtain ⟨M76, s77, a78, w79⟩ := rs_Mo_giveTo (d := d)  (M := M70) (j := ix x) (c := ix w)  (okJ hj8 hj k9).2
            rw [← ((okJ hj8 hj k9)).1] at s77
            rw [← ((okC hn3 hn k18)).1] at s77
            have a78 : rv M76 = (f_Mo_giveTo ((f_Mo_throwing ((rv M)) 0 1 0 0).2) (ix x) (ix w)).2 := a78.trans (show (f_Mo_giveTo ((rv M70)) (ix x) (ix w)).2 = _ from by first | rfl | simp only [a72])
            have w79 : rf M M76 := rf_tr w73 w79
            refine wgo (g' := (M76, 74, [some (.inr (5, 24)), some (.inl x), some (.inl w), some (.inl 0)], [])) [oc (none, M76)] rfl ⟨⟨s77, Nat.le_of_ble_eq_true rfl, Nat.le_of_ble_eq_true rfl, ⟨_, rfl⟩⟩, trivial⟩ ?_
            have x80 : f_Mo_give (rv M) x w = (0, (f_Mo_giveTo ((f_Mo_throwing ((rv M)) 0 1 0 0).2) (ix x) (ix w)).2) := by
              unfold f_Mo_give
              rw [if_neg k9, if_neg k18, if_neg k52, if_neg k69, if_pos k75]
            exact wend ⟨rfl, rfl⟩ ⟨rfl, a78.trans (congrArg Prod.snd x80).symm, w79⟩
          · have k81 : ¬ (((f_Mo_throwing ((rv M)) 0 1 0 0).1) = 0) := by
              have q : ¬ (((f_Mo_throwing ((rv M)) 0 1 0 0).1) = 0) := h74
              first | exact q | (simp only [a72] at q; exact q)
            refine wgo (g' := (M70, 67, [some (.inr (5, 24)), some (.inl x), some (.inl w), some (.inl 0)], [])) [oz 0] rfl ⟨h74, trivial⟩ ?_
            have x82 : f_Mo_give (rv M) x w = (0, (f_Mo_throwing ((rv M)) 0 1 0 0).2) := by
              unfold f_Mo_give
              rw [if_neg k9, if_neg k18, if_neg k52, if_neg k69, if_neg k81]
            exact wend ⟨rfl, rfl⟩ ⟨rfl, a72.trans (congrArg Prod.snd x82).symm, w73⟩
