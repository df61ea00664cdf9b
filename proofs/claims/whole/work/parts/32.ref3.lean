theorem f_fst_ok {X : mm_M} {c n : Nat} (hn : X 0 5 = nI n) (hn8 : n ≤ 8) : ∀ (r i : Nat) (x : Int32), i ≤ n → (x < 0 ∨ okx 8 x) → (f_fst r X c x i < 0 ∨ okx 8 (f_fst r X c x i)) := by
  intro r
  induction r with
  | zero => exact fun i x _ _ => Or.inr (okx_nI (j := 0) (by decide) (by decide))
  | succ r ih =>
    intro i x hi hx
    rw [f_fst]
    by_cases h1 : X 0 5 ≤ nI i
    · rw [if_pos h1]; exact hx
    · rw [if_neg h1]
      have hlt := nI_sl hn (by omega) hi h1
      have hj : nI i < 0 ∨ okx 8 (nI i) := Or.inr (okx_nI (by omega) (by decide))
      repeat' split
      all_goals first | exact ih _ _ hlt hx | exact ih _ _ hlt hj
theorem f_first_ok {X : mm_M} {c n : Nat} (hn : X 0 5 = nI n) (hn8 : n ≤ 8) : f_Mo_firstOf X c < 0 ∨ okx 8 (f_Mo_firstOf X c) := f_fst_ok hn hn8 9 0 (-1) (Nat.zero_le _) (Or.inl (by decide))
def f_Mo_takesJob (A : mm_M) (c : Nat) : Int32 × mm_M := (if (f_Mo_firstOf (A) c) < 0 then (0, A) else (if (f_Mo_ofJob (A) (ix (f_Mo_firstOf (A) c)) 2) ≤ ((A) 3 0) then (if (f_Mo_ofCrane ((f_Mo_setCrane ((f_Mo_setJob (A) (ix (f_Mo_firstOf (A) c)) 3 2).2) c 2 (f_Mo_firstOf (A) c)).2) c 0) = (f_Mo_ofJob ((f_Mo_setCrane ((f_Mo_setJob (A) (ix (f_Mo_firstOf (A) c)) 3 2).2) c 2 (f_Mo_firstOf (A) c)).2) (ix (f_Mo_firstOf (A) c)) 0) then (0, (f_Mo_begins ((f_Mo_setCrane ((f_Mo_setJob (A) (ix (f_Mo_firstOf (A) c)) 3 2).2) c 2 (f_Mo_firstOf (A) c)).2) c 2).2) else (0, (f_Mo_setCrane ((f_Mo_setCrane ((f_Mo_setJob (A) (ix (f_Mo_firstOf (A) c)) 3 2).2) c 2 (f_Mo_firstOf (A) c)).2) c 1 1).2)) else (0, A)))
set_option maxRecDepth 20000 in
set_option maxHeartbeats 1000000 in
theorem rs_Mo_takesJob {d : Nat} {M : mm_M} {c : Nat}  {n : Nat} (hc : c < 3) (hn : rv M 0 5 = nI n) (hn8 : n ≤ 8) : RS (d + 3) 54  M [.inr (5, 24), .inl (nI c)] (none) (f_Mo_takesJob (rv M) c).2 := by
  refine RS_of (Nat.le_of_ble_eq_true rfl) ?_
  show mm_Wp pg_Mo_takesJob rt_Mo_takesJob (ct_Sem (d + 2)) (M, 0, [some (.inr (5, 24)), some (.inl (nI c)), none], []) _
  refine wgo (g' := (M, 2, [some (.inr (5, 24)), some (.inl (nI c)), none], [.inl (nI c), .inr (5, 24)])) [oz 0, oz 0] rfl ⟨trivial, trivial, trivial⟩ ?_
  have s1 := sm_Mo_firstOf (d := d)  (M := M) (c := c) hn hn8
  refine wgo (g' := (M, 7, [some (.inr (5, 24)), some (.inl (nI c)), some (.inl (f_Mo_firstOf (rv M) c))], [.inl (f_Mo_firstOf (rv M) c)])) [oc (some (f_Mo_firstOf (rv M) c), M), oz 0, oz 0] rfl ⟨⟨s1, Nat.le_of_ble_eq_true rfl, Nat.le_of_ble_eq_true rfl, ⟨_, rfl⟩⟩, Nat.le_of_ble_eq_true rfl, trivial, trivial⟩ ?_
  by_cases h2 : (f_Mo_firstOf (rv M) c) < 0
  · have k3 : (f_Mo_firstOf ((rv M)) c) < 0 := by
      have q : (f_Mo_firstOf (rv M) c) < 0 := h2
      exact q
    refine wgo (g' := (M, 25, [some (.inr (5, 24)), some (.inl (nI c)), some (.inl (f_Mo_firstOf (rv M) c))], [])) [oz 1] rfl ⟨h2, trivial⟩ ?_
    have x4 : f_Mo_takesJob (rv M) c = (0, (rv M)) := by
      unfold f_Mo_takesJob
      rw [if_pos k3]
    exact wend ⟨rfl, rfl⟩ ⟨rfl, (congrArg Prod.snd x4).symm, rf_rf⟩
  · have k5 : ¬ ((f_Mo_firstOf ((rv M)) c) < 0) := by
      have q : ¬ ((f_Mo_firstOf (rv M) c) < 0) := h2
      exact q
    refine wgo (g' := (M, 19, [some (.inr (5, 24)), some (.inl (nI c)), some (.inl (f_Mo_firstOf (rv M) c))], [.inl 2, .inl (f_Mo_firstOf (rv M) c), .inr (5, 24), .inl (M 27 0)])) [oz 0, oz 0, oz 0, oz 0, oz 0, oz 0, oz 0, oz 0] rfl ⟨h2, trivial, trivial, trivial, ⟨rfl, by decide⟩, trivial, trivial, trivial, trivial⟩ ?_
    have s6 := sm_Mo_ofJob (d := d + 1)  (M := M) (j := ix (f_Mo_firstOf (rv M) c)) (w := 2) (by have q := ((f_first_ok hn hn8).resolve_left k5).2; omega)
    rw [← (((f_first_ok hn hn8).resolve_left k5)).1] at s6
    refine wgo (g' := (M, 22, [some (.inr (5, 24)), some (.inl (nI c)), some (.inl (f_Mo_firstOf (rv M) c))], [.inl (f_Mo_ofJob (rv M) (ix (f_Mo_firstOf (rv M) c)) 2), .inl (M 27 0)])) [oc (some (f_Mo_ofJob (rv M) (ix (f_Mo_firstOf (rv M) c)) 2), M)] rfl ⟨⟨s6, Nat.le_of_ble_eq_true rfl, Nat.le_of_ble_eq_true rfl, ⟨_, rfl⟩⟩, trivial⟩ ?_
    by_cases h7 : (f_Mo_ofJob (rv M) (ix (f_Mo_firstOf (rv M) c)) 2) ≤ (M 27 0)
    · have k8 : (f_Mo_ofJob ((rv M)) (ix (f_Mo_firstOf ((rv M)) c)) 2) ≤ (((rv M)) 3 0) := by
        have q : (f_Mo_ofJob (rv M) (ix (f_Mo_firstOf (rv M) c)) 2) ≤ ((rv M) 3 0) := h7
        exact q
      refine wgo (g' := (M, 30, [some (.inr (5, 24)), some (.inl (nI c)), some (.inl (f_Mo_firstOf (rv M) c))], [.inl 2, .inl 3, .inl (f_Mo_firstOf (rv M) c), .inr (5, 24)])) [oz 1, oz 0, oz 0, oz 0, oz 0] rfl ⟨h7, trivial, trivial, trivial, trivial, trivial⟩ ?_
      obtain ⟨M9, s10, a11, w12⟩ := rs_Mo_setJob (d := d + 1)  (M := M) (j := ix (f_Mo_firstOf (rv M) c)) (w := 3) (x := 2)  (by have q := ((f_first_ok hn hn8).resolve_left k5).2; omega)
      rw [← (((f_first_ok hn hn8).resolve_left k5)).1] at s10
      have a11 : rv M9 = (f_Mo_setJob ((rv M)) (ix (f_Mo_firstOf ((rv M)) c)) 3 2).2 := a11.trans (show (f_Mo_setJob ((rv M)) (ix (f_Mo_firstOf (rv M) c)) 3 2).2 = _ from by first | rfl | simp only [rv])
      have w12 : rf M M9 := rf_tr rf_rf w12
      refine wgo (g' := (M9, 37, [some (.inr (5, 24)), some (.inl (nI c)), some (.inl (f_Mo_firstOf (rv M) c))], [.inl (f_Mo_firstOf (rv M) c), .inl 2, .inl (nI c), .inr (5, 24)])) [oc (none, M9), oz 0, oz 0, oz 0, oz 0] rfl ⟨⟨s10, Nat.le_of_ble_eq_true rfl, Nat.le_of_ble_eq_true rfl, ⟨_, rfl⟩⟩, trivial, trivial, trivial, trivial, trivial⟩ ?_
      obtain ⟨M13, s14, a15, w16⟩ := rs_Mo_setCrane (d := d + 1)  (M := M9) (c := c) (w := 2) (x := f_Mo_firstOf (rv M) c)  (by omega)
      have a15 : rv M13 = (f_Mo_setCrane ((f_Mo_setJob ((rv M)) (ix (f_Mo_firstOf ((rv M)) c)) 3 2).2) c 2 (f_Mo_firstOf ((rv M)) c)).2 := a15.trans (show (f_Mo_setCrane ((rv M9)) c 2 (f_Mo_firstOf (rv M) c)).2 = _ from by first | rfl | simp only [a11])
      have w16 : rf M M13 := rf_tr w12 w16
      refine wgo (g' := (M13, 43, [some (.inr (5, 24)), some (.inl (nI c)), some (.inl (f_Mo_firstOf (rv M) c))], [.inl 0, .inl (nI c), .inr (5, 24)])) [oc (none, M13), oz 0, oz 0, oz 0] rfl ⟨⟨s14, Nat.le_of_ble_eq_true rfl, Nat.le_of_ble_eq_true rfl, ⟨_, rfl⟩⟩, trivial, trivial, trivial, trivial⟩ ?_
      have s17 := sm_Mo_ofCrane (d := d + 1)  (M := M13) (c := c) (w := 0) (by omega)
      refine wgo (g' := (M13, 49, [some (.inr (5, 24)), some (.inl (nI c)), some (.inl (f_Mo_firstOf (rv M) c))], [.inl 0, .inl (f_Mo_firstOf (rv M) c), .inr (5, 24), .inl (f_Mo_ofCrane (rv M13) c 0)])) [oc (some (f_Mo_ofCrane (rv M13) c 0), M13), oz 0, oz 0, oz 0] rfl ⟨⟨s17, Nat.le_of_ble_eq_true rfl, Nat.le_of_ble_eq_true rfl, ⟨_, rfl⟩⟩, trivial, trivial, trivial, trivial⟩ ?_
      have s18 := sm_Mo_ofJob (d := d + 1)  (M := M13) (j := ix (f_Mo_firstOf (rv M) c)) (w := 0) (by have q := ((f_first_ok hn hn8).resolve_left k5).2; omega)
      rw [← (((f_first_ok hn hn8).resolve_left k5)).1] at s18
      refine wgo (g' := (M13, 52, [some (.inr (5, 24)), some (.inl (nI c)), some (.inl (f_Mo_firstOf (rv M) c))], [.inl (f_Mo_ofJob (rv M13) (ix (f_Mo_firstOf (rv M) c)) 0), .inl (f_Mo_ofCrane (rv M13) c 0)])) [oc (some (f_Mo_ofJob (rv M13) (ix (f_Mo_firstOf (rv M) c)) 0), M13)] rfl ⟨⟨s18, Nat.le_of_ble_eq_true rfl, Nat.le_of_ble_eq_true rfl, ⟨_, rfl⟩⟩, trivial⟩ ?_
      by_cases h19 : (f_Mo_ofCrane (rv M13) c 0) = (f_Mo_ofJob (rv M13) (ix (f_Mo_firstOf (rv M) c)) 0)
      · have k20 : (f_Mo_ofCrane ((f_Mo_setCrane ((f_Mo_setJob ((rv M)) (ix (f_Mo_firstOf ((rv M)) c)) 3 2).2) c 2 (f_Mo_firstOf ((rv M)) c)).2) c 0) = (f_Mo_ofJob ((f_Mo_setCrane ((f_Mo_setJob ((rv M)) (ix (f_Mo_firstOf ((rv M)) c)) 3 2).2) c 2 (f_Mo_firstOf ((rv M)) c)).2) (ix (f_Mo_firstOf ((rv M)) c)) 0) := by
          have q : (f_Mo_ofCrane (rv M13) c 0) = (f_Mo_ofJob (rv M13) (ix (f_Mo_firstOf (rv M) c)) 0) := h19
          first | exact q | (simp only [a11, a15] at q; exact q)
        refine wgo (g' := (M13, 58, [some (.inr (5, 24)), some (.inl (nI c)), some (.inl (f_Mo_firstOf (rv M) c))], [.inl 2, .inl (nI c), .inr (5, 24)])) [oz 0, oz 0, oz 0, oz 0] rfl ⟨(fun z => z h19), trivial, trivial, trivial, trivial⟩ ?_
        obtain ⟨M21, s22, a23, w24⟩ := rs_Mo_begins (d := d)  (M := M13) (c := c) (x := 2)  hc
        have a23 : rv M21 = (f_Mo_begins ((f_Mo_setCrane ((f_Mo_setJob ((rv M)) (ix (f_Mo_firstOf ((rv M)) c)) 3 2).2) c 2 (f_Mo_firstOf ((rv M)) c)).2) c 2).2 := a23.trans (show (f_Mo_begins ((rv M13)) c 2).2 = _ from by first | rfl | simp only [a11, a15])
        have w24 : rf M M21 := rf_tr w16 w24
        refine wgo (g' := (M21, 71, [some (.inr (5, 24)), some (.inl (nI c)), some (.inl (f_Mo_firstOf (rv M) c))], [])) [oc (none, M21), oz 0] rfl ⟨⟨s22, Nat.le_of_ble_eq_true rfl, Nat.le_of_ble_eq_true rfl, ⟨_, rfl⟩⟩, trivial, trivial⟩ ?_
        have x25 : f_Mo_takesJob (rv M) c = (0, (f_Mo_begins ((f_Mo_setCrane ((f_Mo_setJob ((rv M)) (ix (f_Mo_firstOf ((rv M)) c)) 3 2).2) c 2 (f_Mo_firstOf ((rv M)) c)).2) c 2).2) := by
          unfold f_Mo_takesJob
          rw [if_neg k5, if_pos k8, if_pos k20]
        exact wend ⟨rfl, rfl⟩ ⟨rfl, a23.trans (congrArg Prod.snd x25).symm, w24⟩
      · have k26 : ¬ ((f_Mo_ofCrane ((f_Mo_setCrane ((f_Mo_setJob ((rv M)) (ix (f_Mo_firstOf ((rv M)) c)) 3 2).2) c 2 (f_Mo_firstOf ((rv M)) c)).2) c 0) = (f_Mo_ofJob ((f_Mo_setCrane ((f_Mo_setJob ((rv M)) (ix (f_Mo_firstOf ((rv M)) c)) 3 2).2) c 2 (f_Mo_firstOf ((rv M)) c)).2) (ix (f_Mo_firstOf ((rv M)) c)) 0)) := by
          have q : ¬ ((f_Mo_ofCrane (rv M13) c 0) = (f_Mo_ofJob (rv M13) (ix (f_Mo_firstOf (rv M) c)) 0)) := h19
          first | exact q | (simp only [a11, a15] at q; exact q)
        refine wgo (g' := (M13, 68, [some (.inr (5, 24)), some (.inl (nI c)), some (.inl (f_Mo_firstOf (rv M) c))], [.inl 1, .inl 1, .inl (nI c), .inr (5, 24)])) [oz 1, oz 0, oz 0, oz 0, oz 0] rfl ⟨h19, trivial, trivial, trivial, trivial, trivial⟩ ?_
        obtain ⟨M27, s28, a29, w30⟩ := rs_Mo_setCrane (d := d + 1)  (M := M13) (c := c) (w := 1) (x := 1)  (by omega)
        have a29 : rv M27 = (f_Mo_setCrane ((f_Mo_setCrane ((f_Mo_setJob ((rv M)) (ix (f_Mo_firstOf ((rv M)) c)) 3 2).2) c 2 (f_Mo_firstOf ((rv M)) c)).2) c 1 1).2 := a29.trans (show (f_Mo_setCrane ((rv M13)) c 1 1).2 = _ from by first | rfl | simp only [a11, a15])
        have w30 : rf M M27 := rf_tr w16 w30
        refine wgo (g' := (M27, 71, [some (.inr (5, 24)), some (.inl (nI c)), some (.inl (f_Mo_firstOf (rv M) c))], [])) [oc (none, M27)] rfl ⟨⟨s28, Nat.le_of_ble_eq_true rfl, Nat.le_of_ble_eq_true rfl, ⟨_, rfl⟩⟩, trivial⟩ ?_
        have x31 : f_Mo_takesJob (rv M) c = (0, (f_Mo_setCrane ((f_Mo_setCrane ((f_Mo_setJob ((rv M)) (ix (f_Mo_firstOf ((rv M)) c)) 3 2).2) c 2 (f_Mo_firstOf ((rv M)) c)).2) c 1 1).2) := by
          unfold f_Mo_takesJob
          rw [if_neg k5, if_pos k8, if_neg k26]
        exact wend ⟨rfl, rfl⟩ ⟨rfl, a29.trans (congrArg Prod.snd x31).symm, w30⟩
    · have k32 : ¬ ((f_Mo_ofJob ((rv M)) (ix (f_Mo_firstOf ((rv M)) c)) 2) ≤ (((rv M)) 3 0)) := by
        have q : ¬ ((f_Mo_ofJob (rv M) (ix (f_Mo_firstOf (rv M) c)) 2) ≤ ((rv M) 3 0)) := h7
        exact q
      refine wgo (g' := (M, 25, [some (.inr (5, 24)), some (.inl (nI c)), some (.inl (f_Mo_firstOf (rv M) c))], [])) [oz 0] rfl ⟨h7, trivial⟩ ?_
      have x33 : f_Mo_takesJob (rv M) c = (0, (rv M)) := by
        unfold f_Mo_takesJob
        rw [if_neg k5, if_neg k32]
      exact wend ⟨rfl, rfl⟩ ⟨rfl, (congrArg Prod.snd x33).symm, rf_rf⟩
def f_go175 (A : mm_M) (c : Nat) (t : Int32) (a : Int32) (w : Int32) : Int32 × mm_M := (if w = a then (0, (f_Mo_setCrane (A) c 0 w).2) else (1, (f_Mo_setCrane (A) c 0 w).2))
set_option maxRecDepth 20000 in
set_option maxHeartbeats 1000000 in
theorem sg_go175 {d : Nat} {M : mm_M} {A : mm_M} {Mz : mm_M} {c : Nat} {t : Int32} {a : Int32} {w : Int32}  (hA : rv Mz = A) (hf : rf M Mz) (hc : c < 3) : mm_Wp pg_Mo_goes rt_Mo_goes (ct_Sem (d + 1)) (Mz, 175, [some (.inr (5, 24)), some (.inl (nI c)), some (.inl t), some (.inl a), some (.inl w)], []) (rQ M (some (f_go175 A c t a w).1) (f_go175 A c t a w).2) := by
  refine wgo (g' := (Mz, 180, [some (.inr (5, 24)), some (.inl (nI c)), some (.inl t), some (.inl a), some (.inl w)], [.inl w, .inl 0, .inl (nI c), .inr (5, 24)])) [oz 0, oz 0, oz 0, oz 0] rfl ⟨trivial, trivial, trivial, trivial, trivial⟩ ?_
  obtain ⟨M1, s2, a3, w4⟩ := rs_Mo_setCrane (d := d)  (M := Mz) (c := c) (w := 0) (x := w)  (by omega)
  have a3 : rv M1 = (f_Mo_setCrane (A) c 0 w).2 := a3.trans (show (f_Mo_setCrane ((rv Mz)) c 0 w).2 = _ from by first | rfl | simp only [hA])
  have w4 : rf M M1 := rf_tr hf w4
  refine wgo (g' := (M1, 186, [some (.inr (5, 24)), some (.inl (nI c)), some (.inl t), some (.inl a), some (.inl w)], [.inl a, .inl w])) [oc (none, M1), oz 0, oz 0] rfl ⟨⟨s2, Nat.le_of_ble_eq_true rfl, Nat.le_of_ble_eq_true rfl, ⟨_, rfl⟩⟩, trivial, trivial, trivial⟩ ?_
  by_cases h5 : w = a
  · have k6 : w = a := by
      have q : w = a := h5
      first | exact q | (simp only [hA, a3] at q; exact q)
    refine wgo (g' := (M1, 194, [some (.inr (5, 24)), some (.inl (nI c)), some (.inl t), some (.inl a), some (.inl w)], [.inl 0])) [oz 1, oz 0] rfl ⟨h5, trivial, trivial⟩ ?_
    have x7 : f_go175 A c t a w = (0, (f_Mo_setCrane (A) c 0 w).2) := by
      unfold f_go175
      rw [if_pos k6]
    exact wend ⟨_, rfl, rfl, Or.inl rfl⟩ ⟨congrArg some ((show (0 : Int32) = 0 from by first | rfl | simp only [hA, a3]).trans (congrArg Prod.fst x7).symm), a3.trans (congrArg Prod.snd x7).symm, w4⟩
  · have k8 : ¬ (w = a) := by
      have q : ¬ (w = a) := h5
      first | exact q | (simp only [hA, a3] at q; exact q)
    refine wgo (g' := (M1, 194, [some (.inr (5, 24)), some (.inl (nI c)), some (.inl t), some (.inl a), some (.inl w)], [.inl 1])) [oz 0, oz 0, oz 0] rfl ⟨h5, trivial, trivial, trivial⟩ ?_
    have x9 : f_go175 A c t a w = (1, (f_Mo_setCrane (A) c 0 w).2) := by
      unfold f_go175
      rw [if_neg k8]
    exact wend ⟨_, rfl, rfl, Or.inr rfl⟩ ⟨congrArg some ((show (1 : Int32) = 1 from by first | rfl | simp only [hA, a3]).trans (congrArg Prod.fst x9).symm), a3.trans (congrArg Prod.snd x9).symm, w4⟩
def f_go80 (A : mm_M) (c : Nat) (t : Int32) (a : Int32) (w : Int32) : Int32 × mm_M := (if a ≤ w then (f_go175 (A) c t a w) else (f_go175 (A) c t a a))
set_option maxRecDepth 20000 in
set_option maxHeartbeats 1000000 in
theorem sg_go80 {d : Nat} {M : mm_M} {A : mm_M} {Mz : mm_M} {c : Nat} {t : Int32} {a : Int32} {w : Int32}  (hA : rv Mz = A) (hf : rf M Mz) (hc : c < 3) : mm_Wp pg_Mo_goes rt_Mo_goes (ct_Sem (d + 1)) (Mz, 80, [some (.inr (5, 24)), some (.inl (nI c)), some (.inl t), some (.inl a), some (.inl w)], []) (rQ M (some (f_go80 A c t a w).1) (f_go80 A c t a w).2) := by
  refine wgo (g' := (Mz, 83, [some (.inr (5, 24)), some (.inl (nI c)), some (.inl t), some (.inl a), some (.inl w)], [.inl a, .inl w])) [oz 0, oz 0] rfl ⟨trivial, trivial, trivial⟩ ?_
  by_cases h1 : a ≤ w
  · have k2 : a ≤ w := by
      have q : a ≤ w := h1
      first | exact q | (simp only [hA] at q; exact q)
    refine wgo (g' := (Mz, 175, [some (.inr (5, 24)), some (.inl (nI c)), some (.inl t), some (.inl a), some (.inl w)], [])) [oz 1, oz 0, oz 0, oz 0] rfl ⟨h1, trivial, Nat.le_of_ble_eq_true rfl, trivial, trivial⟩ ?_
    have x3 : f_go80 A c t a w = f_go175 (A) c t a w := by
      unfold f_go80
      rw [if_pos k2]
    rw [x3]
    exact sg_go175 (d := d)  (M := M) (Mz := Mz) (c := c) (t := t) (a := a) (w := w)  hA hf hc
  · have k4 : ¬ (a ≤ w) := by
      have q : ¬ (a ≤ w) := h1
      first | exact q | (simp only [hA] at q; exact q)
    refine wgo (g' := (Mz, 175, [some (.inr (5, 24)), some (.inl (nI c)), some (.inl t), some (.inl a), some (.inl a)], [])) [oz 0, oz 0, oz 0, oz 0, oz 0] rfl ⟨h1, trivial, trivial, Nat.le_of_ble_eq_true rfl, trivial, trivial⟩ ?_
    have x5 : f_go80 A c t a w = f_go175 (A) c t a a := by
      unfold f_go80
      rw [if_neg k4]
    rw [x5]
    exact sg_go175 (d := d)  (M := M) (Mz := Mz) (c := c) (t := t) (a := a) (w := a)  hA hf hc
def f_go37 (A : mm_M) (c : Nat) (t : Int32) (a : Int32) (w : Int32) : Int32 × mm_M := (if ((A) 0 1) ≤ ((nI c) + 1) then (f_go80 (A) c t a w) else (if w ≤ ((f_Mo_ofCrane (A) (c + 1) 0) - ((A) 0 2)) then (f_go80 (A) c t a w) else (f_go80 (A) c t a ((f_Mo_ofCrane (A) (c + 1) 0) - ((A) 0 2)))))
set_option maxRecDepth 20000 in
set_option maxHeartbeats 1000000 in
theorem sg_go37 {d : Nat} {M : mm_M} {A : mm_M} {Mz : mm_M} {c : Nat} {t : Int32} {a : Int32} {w : Int32}  (hA : rv Mz = A) (hf : rf M Mz) (hc : c < 3) : mm_Wp pg_Mo_goes rt_Mo_goes (ct_Sem (d + 1)) (Mz, 37, [some (.inr (5, 24)), some (.inl (nI c)), some (.inl t), some (.inl a), some (.inl w)], []) (rQ M (some (f_go37 A c t a w).1) (f_go37 A c t a w).2) := by
  refine wgo (g' := (Mz, 44, [some (.inr (5, 24)), some (.inl (nI c)), some (.inl t), some (.inl a), some (.inl w)], [.inl (Mz 24 1), .inl ((nI c) + 1)])) [oz 0, oz 0, oz 0, oz 0, oz 0] rfl ⟨trivial, trivial, trivial, trivial, trivial, trivial⟩ ?_
  by_cases h1 : (Mz 24 1) ≤ ((nI c) + 1)
  · have k2 : ((A) 0 1) ≤ ((nI c) + 1) := by
      have q : ((rv Mz) 0 1) ≤ ((nI c) + 1) := h1
      first | exact q | (simp only [hA] at q; exact q)
    refine wgo (g' := (Mz, 80, [some (.inr (5, 24)), some (.inl (nI c)), some (.inl t), some (.inl a), some (.inl w)], [])) [oz 1] rfl ⟨h1, trivial⟩ ?_
    have x3 : f_go37 A c t a w = f_go80 (A) c t a w := by
      unfold f_go37
      rw [if_pos k2]
    rw [x3]
    exact sg_go80 (d := d)  (M := M) (Mz := Mz) (c := c) (t := t) (a := a) (w := w)  hA hf hc
  · have k4 : ¬ (((A) 0 1) ≤ ((nI c) + 1)) := by
      have q : ¬ (((rv Mz) 0 1) ≤ ((nI c) + 1)) := h1
      first | exact q | (simp only [hA] at q; exact q)
    refine wgo (g' := (Mz, 54, [some (.inr (5, 24)), some (.inl (nI c)), some (.inl t), some (.inl a), some (.inl w)], [.inl 0, .inl ((nI c) + 1), .inr (5, 24), .inl w])) [oz 0, oz 0, oz 0, oz 0, oz 0, oz 0, oz 0] rfl ⟨h1, trivial, trivial, trivial, trivial, trivial, trivial, trivial⟩ ?_
    have s5 := sm_Mo_ofCrane (d := d)  (M := Mz) (c := c + 1) (w := 0) (by omega)
    rw [← (nI_1 c)] at s5
    refine wgo (g' := (Mz, 62, [some (.inr (5, 24)), some (.inl (nI c)), some (.inl t), some (.inl a), some (.inl w)], [.inl ((f_Mo_ofCrane (rv Mz) (c + 1) 0) - (Mz 24 2)), .inl w])) [oc (some (f_Mo_ofCrane (rv Mz) (c + 1) 0), Mz), oz 0, oz 0, oz 0] rfl ⟨⟨s5, Nat.le_of_ble_eq_true rfl, Nat.le_of_ble_eq_true rfl, ⟨_, rfl⟩⟩, trivial, trivial, trivial, trivial⟩ ?_
    by_cases h6 : w ≤ ((f_Mo_ofCrane (rv Mz) (c + 1) 0) - (Mz 24 2))
    · have k7 : w ≤ ((f_Mo_ofCrane (A) (c + 1) 0) - ((A) 0 2)) := by
        have q : w ≤ ((f_Mo_ofCrane (rv Mz) (c + 1) 0) - ((rv Mz) 0 2)) := h6
        first | exact q | (simp only [hA] at q; exact q)
      refine wgo (g' := (Mz, 80, [some (.inr (5, 24)), some (.inl (nI c)), some (.inl t), some (.inl a), some (.inl w)], [])) [oz 1] rfl ⟨h6, trivial⟩ ?_
      have x8 : f_go37 A c t a w = f_go80 (A) c t a w := by
        unfold f_go37
        rw [if_neg k4, if_pos k7]
      rw [x8]
      exact sg_go80 (d := d)  (M := M) (Mz := Mz) (c := c) (t := t) (a := a) (w := w)  hA hf hc
    · have k9 : ¬ (w ≤ ((f_Mo_ofCrane (A) (c + 1) 0) - ((A) 0 2))) := by
        have q : ¬ (w ≤ ((f_Mo_ofCrane (rv Mz) (c + 1) 0) - ((rv Mz) 0 2))) := h6
        first | exact q | (simp only [hA] at q; exact q)
      refine wgo (g' := (Mz, 70, [some (.inr (5, 24)), some (.inl (nI c)), some (.inl t), some (.inl a), some (.inl w)], [.inl 0, .inl ((nI c) + 1), .inr (5, 24)])) [oz 0, oz 0, oz 0, oz 0, oz 0, oz 0] rfl ⟨h6, trivial, trivial, trivial, trivial, trivial, trivial⟩ ?_
      have s10 := sm_Mo_ofCrane (d := d)  (M := Mz) (c := c + 1) (w := 0) (by omega)
      rw [← (nI_1 c)] at s10
      refine wgo (g' := (Mz, 80, [some (.inr (5, 24)), some (.inl (nI c)), some (.inl t), some (.inl a), some (.inl ((f_Mo_ofCrane (rv Mz) (c + 1) 0) - (Mz 24 2)))], [])) [oc (some (f_Mo_ofCrane (rv Mz) (c + 1) 0), Mz), oz 0, oz 0, oz 0, oz 0] rfl ⟨⟨s10, Nat.le_of_ble_eq_true rfl, Nat.le_of_ble_eq_true rfl, ⟨_, rfl⟩⟩, trivial, trivial, trivial, Nat.le_of_ble_eq_true rfl, trivial⟩ ?_
      have x11 : f_go37 A c t a w = f_go80 (A) c t a ((f_Mo_ofCrane (A) (c + 1) 0) - ((A) 0 2)) := by
        unfold f_go37
        rw [if_neg k4, if_neg k9]
      rw [x11]
      have q12 := sg_go80 (d := d)  (M := M) (Mz := Mz) (c := c) (t := t) (a := a) (w := ((f_Mo_ofCrane (rv Mz) (c + 1) 0) - (Mz 24 2)))  hA hf hc
      have z13 : f_go80 (A) c t a ((f_Mo_ofCrane (rv Mz) (c + 1) 0) - (Mz 24 2)) = f_go80 (A) c t a ((f_Mo_ofCrane (A) (c + 1) 0) - ((A) 0 2)) := (show f_go80 (A) c t a ((f_Mo_ofCrane (rv Mz) (c + 1) 0) - ((rv Mz) 0 2)) = f_go80 (A) c t a ((f_Mo_ofCrane (A) (c + 1) 0) - ((A) 0 2)) from by first | rfl | simp only [hA])
      rw [z13] at q12
      exact q12
def f_go161 (A : mm_M) (c : Nat) (t : Int32) (a : Int32) (w : Int32) : Int32 × mm_M := (if w ≤ a then (f_go175 (A) c t a w) else (f_go175 (A) c t a a))
set_option maxRecDepth 20000 in
set_option maxHeartbeats 1000000 in
theorem sg_go161 {d : Nat} {M : mm_M} {A : mm_M} {Mz : mm_M} {c : Nat} {t : Int32} {a : Int32} {w : Int32}  (hA : rv Mz = A) (hf : rf M Mz) (hc : c < 3) : mm_Wp pg_Mo_goes rt_Mo_goes (ct_Sem (d + 1)) (Mz, 161, [some (.inr (5, 24)), some (.inl (nI c)), some (.inl t), some (.inl a), some (.inl w)], []) (rQ M (some (f_go161 A c t a w).1) (f_go161 A c t a w).2) := by
  refine wgo (g' := (Mz, 164, [some (.inr (5, 24)), some (.inl (nI c)), some (.inl t), some (.inl a), some (.inl w)], [.inl a, .inl w])) [oz 0, oz 0] rfl ⟨trivial, trivial, trivial⟩ ?_
  by_cases h1 : w ≤ a
  · have k2 : w ≤ a := by
      have q : w ≤ a := h1
      first | exact q | (simp only [hA] at q; exact q)
    refine wgo (g' := (Mz, 175, [some (.inr (5, 24)), some (.inl (nI c)), some (.inl t), some (.inl a), some (.inl w)], [])) [oz 1, oz 0, oz 0] rfl ⟨h1, trivial, Nat.le_of_ble_eq_true rfl, trivial⟩ ?_
    have x3 : f_go161 A c t a w = f_go175 (A) c t a w := by
      unfold f_go161
      rw [if_pos k2]
    rw [x3]
    exact sg_go175 (d := d)  (M := M) (Mz := Mz) (c := c) (t := t) (a := a) (w := w)  hA hf hc
  · have k4 : ¬ (w ≤ a) := by
      have q : ¬ (w ≤ a) := h1
      first | exact q | (simp only [hA] at q; exact q)
    refine wgo (g' := (Mz, 175, [some (.inr (5, 24)), some (.inl (nI c)), some (.inl t), some (.inl a), some (.inl a)], [])) [oz 0, oz 0, oz 0, oz 0] rfl ⟨h1, trivial, trivial, Nat.le_of_ble_eq_true rfl, trivial⟩ ?_
    have x5 : f_go161 A c t a w = f_go175 (A) c t a a := by
      unfold f_go161
      rw [if_neg k4]
    rw [x5]
    exact sg_go175 (d := d)  (M := M) (Mz := Mz) (c := c) (t := t) (a := a) (w := a)  hA hf hc
def f_go124 (A : mm_M) (c : Nat) (t : Int32) (a : Int32) (w : Int32) : Int32 × mm_M := (if (nI c) ≤ 0 then (f_go161 (A) c t a w) else (if ((f_Mo_ofCrane (A) (c - 1) 0) + ((A) 0 2)) ≤ w then (f_go161 (A) c t a w) else (f_go161 (A) c t a ((f_Mo_ofCrane (A) (c - 1) 0) + ((A) 0 2)))))
set_option maxRecDepth 20000 in
set_option maxHeartbeats 1000000 in
theorem sg_go124 {d : Nat} {M : mm_M} {A : mm_M} {Mz : mm_M} {c : Nat} {t : Int32} {a : Int32} {w : Int32}  (hA : rv Mz = A) (hf : rf M Mz) (hc : c < 3) : mm_Wp pg_Mo_goes rt_Mo_goes (ct_Sem (d + 1)) (Mz, 124, [some (.inr (5, 24)), some (.inl (nI c)), some (.inl t), some (.inl a), some (.inl w)], []) (rQ M (some (f_go124 A c t a w).1) (f_go124 A c t a w).2) := by
  refine wgo (g' := (Mz, 125, [some (.inr (5, 24)), some (.inl (nI c)), some (.inl t), some (.inl a), some (.inl w)], [.inl (nI c)])) [oz 0] rfl ⟨trivial, trivial⟩ ?_
  by_cases h1 : (nI c) ≤ 0
  · have k2 : (nI c) ≤ 0 := by
      have q : (nI c) ≤ 0 := h1
      first | exact q | (simp only [hA] at q; exact q)
    refine wgo (g' := (Mz, 161, [some (.inr (5, 24)), some (.inl (nI c)), some (.inl t), some (.inl a), some (.inl w)], [])) [oz 1] rfl ⟨h1, trivial⟩ ?_
    have x3 : f_go124 A c t a w = f_go161 (A) c t a w := by
      unfold f_go124
      rw [if_pos k2]
    rw [x3]
    exact sg_go161 (d := d)  (M := M) (Mz := Mz) (c := c) (t := t) (a := a) (w := w)  hA hf hc
  · have k4 : ¬ ((nI c) ≤ 0) := by
      have q : ¬ ((nI c) ≤ 0) := h1
      first | exact q | (simp only [hA] at q; exact q)
    refine wgo (g' := (Mz, 135, [some (.inr (5, 24)), some (.inl (nI c)), some (.inl t), some (.inl a), some (.inl w)], [.inl 0, .inl ((nI c) - 1), .inr (5, 24), .inl w])) [oz 0, oz 0, oz 0, oz 0, oz 0, oz 0, oz 0] rfl ⟨h1, trivial, trivial, trivial, trivial, trivial, trivial, trivial⟩ ?_
    have s5 := sm_Mo_ofCrane (d := d)  (M := Mz) (c := c - 1) (w := 0) (by omega)
    rw [← (nI_m1 (nI_gt0 k4))] at s5
    refine wgo (g' := (Mz, 143, [some (.inr (5, 24)), some (.inl (nI c)), some (.inl t), some (.inl a), some (.inl w)], [.inl ((f_Mo_ofCrane (rv Mz) (c - 1) 0) + (Mz 24 2)), .inl w])) [oc (some (f_Mo_ofCrane (rv Mz) (c - 1) 0), Mz), oz 0, oz 0, oz 0] rfl ⟨⟨s5, Nat.le_of_ble_eq_true rfl, Nat.le_of_ble_eq_true rfl, ⟨_, rfl⟩⟩, trivial, trivial, trivial, trivial⟩ ?_
    by_cases h6 : ((f_Mo_ofCrane (rv Mz) (c - 1) 0) + (Mz 24 2)) ≤ w
    · have k7 : ((f_Mo_ofCrane (A) (c - 1) 0) + ((A) 0 2)) ≤ w := by
        have q : ((f_Mo_ofCrane (rv Mz) (c - 1) 0) + ((rv Mz) 0 2)) ≤ w := h6
        first | exact q | (simp only [hA] at q; exact q)
      refine wgo (g' := (Mz, 161, [some (.inr (5, 24)), some (.inl (nI c)), some (.inl t), some (.inl a), some (.inl w)], [])) [oz 1] rfl ⟨h6, trivial⟩ ?_
      have x8 : f_go124 A c t a w = f_go161 (A) c t a w := by
        unfold f_go124
        rw [if_neg k4, if_pos k7]
      rw [x8]
      exact sg_go161 (d := d)  (M := M) (Mz := Mz) (c := c) (t := t) (a := a) (w := w)  hA hf hc
    · have k9 : ¬ (((f_Mo_ofCrane (A) (c - 1) 0) + ((A) 0 2)) ≤ w) := by
        have q : ¬ (((f_Mo_ofCrane (rv Mz) (c - 1) 0) + ((rv Mz) 0 2)) ≤ w) := h6
        first | exact q | (simp only [hA] at q; exact q)
      refine wgo (g' := (Mz, 151, [some (.inr (5, 24)), some (.inl (nI c)), some (.inl t), some (.inl a), some (.inl w)], [.inl 0, .inl ((nI c) - 1), .inr (5, 24)])) [oz 0, oz 0, oz 0, oz 0, oz 0, oz 0] rfl ⟨h6, trivial, trivial, trivial, trivial, trivial, trivial⟩ ?_
      have s10 := sm_Mo_ofCrane (d := d)  (M := Mz) (c := c - 1) (w := 0) (by omega)
      rw [← (nI_m1 (nI_gt0 k4))] at s10
      refine wgo (g' := (Mz, 161, [some (.inr (5, 24)), some (.inl (nI c)), some (.inl t), some (.inl a), some (.inl ((f_Mo_ofCrane (rv Mz) (c - 1) 0) + (Mz 24 2)))], [])) [oc (some (f_Mo_ofCrane (rv Mz) (c - 1) 0), Mz), oz 0, oz 0, oz 0, oz 0] rfl ⟨⟨s10, Nat.le_of_ble_eq_true rfl, Nat.le_of_ble_eq_true rfl, ⟨_, rfl⟩⟩, trivial, trivial, trivial, Nat.le_of_ble_eq_true rfl, trivial⟩ ?_
      have x11 : f_go124 A c t a w = f_go161 (A) c t a ((f_Mo_ofCrane (A) (c - 1) 0) + ((A) 0 2)) := by
        unfold f_go124
        rw [if_neg k4, if_neg k9]
      rw [x11]
      have q12 := sg_go161 (d := d)  (M := M) (Mz := Mz) (c := c) (t := t) (a := a) (w := ((f_Mo_ofCrane (rv Mz) (c - 1) 0) + (Mz 24 2)))  hA hf hc
      have z13 : f_go161 (A) c t a ((f_Mo_ofCrane (rv Mz) (c - 1) 0) + (Mz 24 2)) = f_go161 (A) c t a ((f_Mo_ofCrane (A) (c - 1) 0) + ((A) 0 2)) := (show f_go161 (A) c t a ((f_Mo_ofCrane (rv Mz) (c - 1) 0) + ((rv Mz) 0 2)) = f_go161 (A) c t a ((f_Mo_ofCrane (A) (c - 1) 0) + ((A) 0 2)) from by first | rfl | simp only [hA])
      rw [z13] at q12
      exact q12
def f_Mo_goes (A : mm_M) (c : Nat) (t : Int32) : Int32 × mm_M := (if t ≤ (f_Mo_ofCrane (A) c 0) then (if (f_Mo_ofCrane (A) c 0) ≤ t then (f_go175 (A) c t (f_Mo_ofCrane (A) c 0) (f_Mo_ofCrane (A) c 0)) else (if t ≤ ((f_Mo_ofCrane (A) c 0) - ((A) 0 3)) then (f_go124 (A) c t (f_Mo_ofCrane (A) c 0) ((f_Mo_ofCrane (A) c 0) - ((A) 0 3))) else (f_go124 (A) c t (f_Mo_ofCrane (A) c 0) t))) else (if ((f_Mo_ofCrane (A) c 0) + ((A) 0 3)) ≤ t then (f_go37 (A) c t (f_Mo_ofCrane (A) c 0) ((f_Mo_ofCrane (A) c 0) + ((A) 0 3))) else (f_go37 (A) c t (f_Mo_ofCrane (A) c 0) t)))
set_option maxRecDepth 20000 in
set_option maxHeartbeats 1000000 in
theorem rs_Mo_goes {d : Nat} {M : mm_M} {c : Nat} {t : Int32}  (hc : c < 3) : RS (d + 2) 55  M [.inr (5, 24), .inl (nI c), .inl t] (some (f_Mo_goes (rv M) c t).1) (f_Mo_goes (rv M) c t).2 := by
  refine RS_of (Nat.le_of_ble_eq_true rfl) ?_
  show mm_Wp pg_Mo_goes rt_Mo_goes (ct_Sem (d + 1)) (M, 0, [some (.inr (5, 24)), some (.inl (nI c)), some (.inl t), none, none], []) _
  refine wgo (g' := (M, 3, [some (.inr (5, 24)), some (.inl (nI c)), some (.inl t), none, none], [.inl 0, .inl (nI c), .inr (5, 24)])) [oz 0, oz 0, oz 0] rfl ⟨trivial, trivial, trivial, trivial⟩ ?_
  have s1 := sm_Mo_ofCrane (d := d)  (M := M) (c := c) (w := 0) (by omega)
  refine wgo (g' := (M, 12, [some (.inr (5, 24)), some (.inl (nI c)), some (.inl t), some (.inl (f_Mo_ofCrane (rv M) c 0)), some (.inl (f_Mo_ofCrane (rv M) c 0))], [.inl (f_Mo_ofCrane (rv M) c 0), .inl t])) [oc (some (f_Mo_ofCrane (rv M) c 0), M), oz 0, oz 0, oz 0, oz 0, oz 0] rfl ⟨⟨s1, Nat.le_of_ble_eq_true rfl, Nat.le_of_ble_eq_true rfl, ⟨_, rfl⟩⟩, Nat.le_of_ble_eq_true rfl, trivial, Nat.le_of_ble_eq_true rfl, trivial, trivial, trivial⟩ ?_
  by_cases h2 : t ≤ (f_Mo_ofCrane (rv M) c 0)
  · have k3 : t ≤ (f_Mo_ofCrane ((rv M)) c 0) := by
      have q : t ≤ (f_Mo_ofCrane (rv M) c 0) := h2
      exact q
    refine wgo (g' := (M, 99, [some (.inr (5, 24)), some (.inl (nI c)), some (.inl t), some (.inl (f_Mo_ofCrane (rv M) c 0)), some (.inl (f_Mo_ofCrane (rv M) c 0))], [.inl (f_Mo_ofCrane (rv M) c 0), .inl t])) [oz 1, oz 0, oz 0] rfl ⟨h2, trivial, trivial, trivial⟩ ?_
    by_cases h4 : (f_Mo_ofCrane (rv M) c 0) ≤ t
    · have k5 : (f_Mo_ofCrane ((rv M)) c 0) ≤ t := by
        have q : (f_Mo_ofCrane (rv M) c 0) ≤ t := h4
        exact q
      refine wgo (g' := (M, 175, [some (.inr (5, 24)), some (.inl (nI c)), some (.inl t), some (.inl (f_Mo_ofCrane (rv M) c 0)), some (.inl (f_Mo_ofCrane (rv M) c 0))], [])) [oz 1] rfl ⟨h4, trivial⟩ ?_
      have x6 : f_Mo_goes (rv M) c t = f_go175 ((rv M)) c t (f_Mo_ofCrane ((rv M)) c 0) (f_Mo_ofCrane ((rv M)) c 0) := by
        unfold f_Mo_goes
        rw [if_pos k3, if_pos k5]
      rw [x6]
      exact sg_go175 (d := d)  (M := M) (Mz := M) (c := c) (t := t) (a := (f_Mo_ofCrane (rv M) c 0)) (w := (f_Mo_ofCrane (rv M) c 0))  rfl rf_rf hc
    · have k7 : ¬ ((f_Mo_ofCrane ((rv M)) c 0) ≤ t) := by
        have q : ¬ ((f_Mo_ofCrane (rv M) c 0) ≤ t) := h4
        exact q
      refine wgo (g' := (M, 109, [some (.inr (5, 24)), some (.inl (nI c)), some (.inl t), some (.inl (f_Mo_ofCrane (rv M) c 0)), some (.inl (f_Mo_ofCrane (rv M) c 0))], [.inl ((f_Mo_ofCrane (rv M) c 0) - (M 24 3)), .inl t])) [oz 0, oz 0, oz 0, oz 0, oz 0, oz 0] rfl ⟨h4, trivial, trivial, trivial, trivial, trivial, trivial⟩ ?_
      by_cases h8 : t ≤ ((f_Mo_ofCrane (rv M) c 0) - (M 24 3))
      · have k9 : t ≤ ((f_Mo_ofCrane ((rv M)) c 0) - (((rv M)) 0 3)) := by
          have q : t ≤ ((f_Mo_ofCrane (rv M) c 0) - ((rv M) 0 3)) := h8
          exact q
        refine wgo (g' := (M, 124, [some (.inr (5, 24)), some (.inl (nI c)), some (.inl t), some (.inl (f_Mo_ofCrane (rv M) c 0)), some (.inl ((f_Mo_ofCrane (rv M) c 0) - (M 24 3)))], [])) [oz 1, oz 0, oz 0, oz 0, oz 0, oz 0] rfl ⟨h8, trivial, trivial, trivial, trivial, Nat.le_of_ble_eq_true rfl, trivial⟩ ?_
        have x10 : f_Mo_goes (rv M) c t = f_go124 ((rv M)) c t (f_Mo_ofCrane ((rv M)) c 0) ((f_Mo_ofCrane ((rv M)) c 0) - (((rv M)) 0 3)) := by
          unfold f_Mo_goes
          rw [if_pos k3, if_neg k7, if_pos k9]
        rw [x10]
        exact sg_go124 (d := d)  (M := M) (Mz := M) (c := c) (t := t) (a := (f_Mo_ofCrane (rv M) c 0)) (w := ((f_Mo_ofCrane (rv M) c 0) - (M 24 3)))  rfl rf_rf hc
      · have k11 : ¬ (t ≤ ((f_Mo_ofCrane ((rv M)) c 0) - (((rv M)) 0 3))) := by
          have q : ¬ (t ≤ ((f_Mo_ofCrane (rv M) c 0) - ((rv M) 0 3))) := h8
          exact q
        refine wgo (g' := (M, 124, [some (.inr (5, 24)), some (.inl (nI c)), some (.inl t), some (.inl (f_Mo_ofCrane (rv M) c 0)), some (.inl t)], [])) [oz 0, oz 0, oz 0, oz 0] rfl ⟨h8, trivial, trivial, Nat.le_of_ble_eq_true rfl, trivial⟩ ?_
        have x12 : f_Mo_goes (rv M) c t = f_go124 ((rv M)) c t (f_Mo_ofCrane ((rv M)) c 0) t := by
          unfold f_Mo_goes
          rw [if_pos k3, if_neg k7, if_neg k11]
        rw [x12]
        exact sg_go124 (d := d)  (M := M) (Mz := M) (c := c) (t := t) (a := (f_Mo_ofCrane (rv M) c 0)) (w := t)  rfl rf_rf hc
  · have k13 : ¬ (t ≤ (f_Mo_ofCrane ((rv M)) c 0)) := by
      have q : ¬ (t ≤ (f_Mo_ofCrane (rv M) c 0)) := h2
      exact q
    refine wgo (g' := (M, 22, [some (.inr (5, 24)), some (.inl (nI c)), some (.inl t), some (.inl (f_Mo_ofCrane (rv M) c 0)), some (.inl (f_Mo_ofCrane (rv M) c 0))], [.inl ((f_Mo_ofCrane (rv M) c 0) + (M 24 3)), .inl t])) [oz 0, oz 0, oz 0, oz 0, oz 0, oz 0] rfl ⟨h2, trivial, trivial, trivial, trivial, trivial, trivial⟩ ?_
    by_cases h14 : ((f_Mo_ofCrane (rv M) c 0) + (M 24 3)) ≤ t
    · have k15 : ((f_Mo_ofCrane ((rv M)) c 0) + (((rv M)) 0 3)) ≤ t := by
        have q : ((f_Mo_ofCrane (rv M) c 0) + ((rv M) 0 3)) ≤ t := h14
        exact q
      refine wgo (g' := (M, 37, [some (.inr (5, 24)), some (.inl (nI c)), some (.inl t), some (.inl (f_Mo_ofCrane (rv M) c 0)), some (.inl ((f_Mo_ofCrane (rv M) c 0) + (M 24 3)))], [])) [oz 1, oz 0, oz 0, oz 0, oz 0, oz 0] rfl ⟨h14, trivial, trivial, trivial, trivial, Nat.le_of_ble_eq_true rfl, trivial⟩ ?_
      have x16 : f_Mo_goes (rv M) c t = f_go37 ((rv M)) c t (f_Mo_ofCrane ((rv M)) c 0) ((f_Mo_ofCrane ((rv M)) c 0) + (((rv M)) 0 3)) := by
        unfold f_Mo_goes
        rw [if_neg k13, if_pos k15]
      rw [x16]
      exact sg_go37 (d := d)  (M := M) (Mz := M) (c := c) (t := t) (a := (f_Mo_ofCrane (rv M) c 0)) (w := ((f_Mo_ofCrane (rv M) c 0) + (M 24 3)))  rfl rf_rf hc
    · have k17 : ¬ (((f_Mo_ofCrane ((rv M)) c 0) + (((rv M)) 0 3)) ≤ t) := by
        have q : ¬ (((f_Mo_ofCrane (rv M) c 0) + ((rv M) 0 3)) ≤ t) := h14
        exact q
      refine wgo (g' := (M, 37, [some (.inr (5, 24)), some (.inl (nI c)), some (.inl t), some (.inl (f_Mo_ofCrane (rv M) c 0)), some (.inl t)], [])) [oz 0, oz 0, oz 0, oz 0] rfl ⟨h14, trivial, trivial, Nat.le_of_ble_eq_true rfl, trivial⟩ ?_
      have x18 : f_Mo_goes (rv M) c t = f_go37 ((rv M)) c t (f_Mo_ofCrane ((rv M)) c 0) t := by
        unfold f_Mo_goes
        rw [if_neg k13, if_neg k17]
      rw [x18]
      exact sg_go37 (d := d)  (M := M) (Mz := M) (c := c) (t := t) (a := (f_Mo_ofCrane (rv M) c 0)) (w := t)  rfl rf_rf hc
def f_Mo_lessToGo (A : mm_M) (c : Nat) : Int32 × mm_M := (if (f_Mo_ofCrane ((f_Mo_setCrane (A) c 3 ((f_Mo_ofCrane (A) c 3) - 1)).2) c 3) ≤ 0 then (if (f_Mo_ofCrane ((f_Mo_setCrane (A) c 3 ((f_Mo_ofCrane (A) c 3) - 1)).2) c 1) = 2 then (if (f_Mo_ofCrane ((f_Mo_setCrane (A) c 3 ((f_Mo_ofCrane (A) c 3) - 1)).2) c 0) = (f_Mo_ofJob ((f_Mo_setCrane (A) c 3 ((f_Mo_ofCrane (A) c 3) - 1)).2) (ix (f_Mo_ofCrane (A) c 2)) 1) then (0, (f_Mo_begins ((f_Mo_setCrane (A) c 3 ((f_Mo_ofCrane (A) c 3) - 1)).2) c 4).2) else (0, (f_Mo_setCrane ((f_Mo_setCrane (A) c 3 ((f_Mo_ofCrane (A) c 3) - 1)).2) c 1 3).2)) else (0, (f_Mo_setCrane ((f_Mo_setCrane ((f_Mo_setJob ((f_Mo_setJob ((f_Mo_setCrane (A) c 3 ((f_Mo_ofCrane (A) c 3) - 1)).2) (ix (f_Mo_ofCrane (A) c 2)) 3 3).2) (ix (f_Mo_ofCrane (A) c 2)) 5 ((((f_Mo_setJob ((f_Mo_setCrane (A) c 3 ((f_Mo_ofCrane (A) c 3) - 1)).2) (ix (f_Mo_ofCrane (A) c 2)) 3 3).2) 3 0) + 1)).2) c 2 ((-1))).2) c 1 0).2)) else (0, (f_Mo_setCrane (A) c 3 ((f_Mo_ofCrane (A) c 3) - 1)).2))
set_option maxRecDepth 20000 in
set_option maxHeartbeats 1000000 in
theorem rs_Mo_lessToGo {d : Nat} {M : mm_M} {c : Nat}  (hc : c < 3) (hj : okx 8 (f_Mo_ofCrane (rv M) c 2)) : RS (d + 3) 56  M [.inr (5, 24), .inl (nI c)] (none) (f_Mo_lessToGo (rv M) c).2 := by
  refine RS_of (Nat.le_of_ble_eq_true rfl) ?_
  show mm_Wp pg_Mo_lessToGo rt_Mo_lessToGo (ct_Sem (d + 2)) (M, 0, [some (.inr (5, 24)), some (.inl (nI c)), none], []) _
  refine wgo (g' := (M, 3, [some (.inr (5, 24)), some (.inl (nI c)), none], [.inl 2, .inl (nI c), .inr (5, 24)])) [oz 0, oz 0, oz 0] rfl ⟨trivial, trivial, trivial, trivial⟩ ?_
  have s1 := sm_Mo_ofCrane (d := d + 1)  (M := M) (c := c) (w := 2) (by omega)
  refine wgo (g' := (M, 13, [some (.inr (5, 24)), some (.inl (nI c)), some (.inl (f_Mo_ofCrane (rv M) c 2))], [.inl 3, .inl (nI c), .inr (5, 24), .inl 3, .inl (nI c), .inr (5, 24)])) [oc (some (f_Mo_ofCrane (rv M) c 2), M), oz 0, oz 0, oz 0, oz 0, oz 0, oz 0, oz 0] rfl ⟨⟨s1, Nat.le_of_ble_eq_true rfl, Nat.le_of_ble_eq_true rfl, ⟨_, rfl⟩⟩, Nat.le_of_ble_eq_true rfl, trivial, trivial, trivial, trivial, trivial, trivial, trivial⟩ ?_
  have s2 := sm_Mo_ofCrane (d := d + 1)  (M := M) (c := c) (w := 3) (by omega)
  refine wgo (g' := (M, 18, [some (.inr (5, 24)), some (.inl (nI c)), some (.inl (f_Mo_ofCrane (rv M) c 2))], [.inl ((f_Mo_ofCrane (rv M) c 3) - 1), .inl 3, .inl (nI c), .inr (5, 24)])) [oc (some (f_Mo_ofCrane (rv M) c 3), M), oz 0, oz 0] rfl ⟨⟨s2, Nat.le_of_ble_eq_true rfl, Nat.le_of_ble_eq_true rfl, ⟨_, rfl⟩⟩, trivial, trivial, trivial⟩ ?_
  obtain ⟨M3, s4, a5, w6⟩ := rs_Mo_setCrane (d := d + 1)  (M := M) (c := c) (w := 3) (x := (f_Mo_ofCrane (rv M) c 3) - 1)  (by omega)
  have a5 : rv M3 = (f_Mo_setCrane ((rv M)) c 3 ((f_Mo_ofCrane ((rv M)) c 3) - 1)).2 := a5.trans (show (f_Mo_setCrane ((rv M)) c 3 ((f_Mo_ofCrane (rv M) c 3) - 1)).2 = _ from by first | rfl | simp only [rv])
  have w6 : rf M M3 := rf_tr rf_rf w6
  refine wgo (g' := (M3, 24, [some (.inr (5, 24)), some (.inl (nI c)), some (.inl (f_Mo_ofCrane (rv M) c 2))], [.inl 3, .inl (nI c), .inr (5, 24)])) [oc (none, M3), oz 0, oz 0, oz 0] rfl ⟨⟨s4, Nat.le_of_ble_eq_true rfl, Nat.le_of_ble_eq_true rfl, ⟨_, rfl⟩⟩, trivial, trivial, trivial, trivial⟩ ?_
  have s7 := sm_Mo_ofCrane (d := d + 1)  (M := M3) (c := c) (w := 3) (by omega)
  refine wgo (g' := (M3, 27, [some (.inr (5, 24)), some (.inl (nI c)), some (.inl (f_Mo_ofCrane (rv M) c 2))], [.inl (f_Mo_ofCrane (rv M3) c 3)])) [oc (some (f_Mo_ofCrane (rv M3) c 3), M3)] rfl ⟨⟨s7, Nat.le_of_ble_eq_true rfl, Nat.le_of_ble_eq_true rfl, ⟨_, rfl⟩⟩, trivial⟩ ?_
  by_cases h8 : (f_Mo_ofCrane (rv M3) c 3) ≤ 0
  · have k9 : (f_Mo_ofCrane ((f_Mo_setCrane ((rv M)) c 3 ((f_Mo_ofCrane ((rv M)) c 3) - 1)).2) c 3) ≤ 0 := by
      have q : (f_Mo_ofCrane (rv M3) c 3) ≤ 0 := h8
      first | exact q | (simp only [a5] at q; exact q)
    refine wgo (g' := (M3, 34, [some (.inr (5, 24)), some (.inl (nI c)), some (.inl (f_Mo_ofCrane (rv M) c 2))], [.inl 1, .inl (nI c), .inr (5, 24)])) [oz 1, oz 0, oz 0, oz 0] rfl ⟨h8, trivial, trivial, trivial, trivial⟩ ?_
    have s10 := sm_Mo_ofCrane (d := d + 1)  (M := M3) (c := c) (w := 1) (by omega)
    refine wgo (g' := (M3, 38, [some (.inr (5, 24)), some (.inl (nI c)), some (.inl (f_Mo_ofCrane (rv M) c 2))], [.inl 2, .inl (f_Mo_ofCrane (rv M3) c 1)])) [oc (some (f_Mo_ofCrane (rv M3) c 1), M3), oz 0] rfl ⟨⟨s10, Nat.le_of_ble_eq_true rfl, Nat.le_of_ble_eq_true rfl, ⟨_, rfl⟩⟩, trivial, trivial⟩ ?_
    by_cases h11 : (f_Mo_ofCrane (rv M3) c 1) = 2
    · have k12 : (f_Mo_ofCrane ((f_Mo_setCrane ((rv M)) c 3 ((f_Mo_ofCrane ((rv M)) c 3) - 1)).2) c 1) = 2 := by
        have q : (f_Mo_ofCrane (rv M3) c 1) = 2 := h11
        first | exact q | (simp only [a5] at q; exact q)
      refine wgo (g' := (M3, 44, [some (.inr (5, 24)), some (.inl (nI c)), some (.inl (f_Mo_ofCrane (rv M) c 2))], [.inl 0, .inl (nI c), .inr (5, 24)])) [oz 0, oz 0, oz 0, oz 0] rfl ⟨(fun z => z h11), trivial, trivial, trivial, trivial⟩ ?_
      have s13 := sm_Mo_ofCrane (d := d + 1)  (M := M3) (c := c) (w := 0) (by omega)
      refine wgo (g' := (M3, 50, [some (.inr (5, 24)), some (.inl (nI c)), some (.inl (f_Mo_ofCrane (rv M) c 2))], [.inl 1, .inl (f_Mo_ofCrane (rv M) c 2), .inr (5, 24), .inl (f_Mo_ofCrane (rv M3) c 0)])) [oc (some (f_Mo_ofCrane (rv M3) c 0), M3), oz 0, oz 0, oz 0] rfl ⟨⟨s13, Nat.le_of_ble_eq_true rfl, Nat.le_of_ble_eq_true rfl, ⟨_, rfl⟩⟩, trivial, trivial, trivial, trivial⟩ ?_
      have s14 := sm_Mo_ofJob (d := d + 1)  (M := M3) (j := ix (f_Mo_ofCrane (rv M) c 2)) (w := 1) (by have q := hj.2; omega)
      rw [← (hj).1] at s14
      refine wgo (g' := (M3, 53, [some (.inr (5, 24)), some (.inl (nI c)), some (.inl (f_Mo_ofCrane (rv M) c 2))], [.inl (f_Mo_ofJob (rv M3) (ix (f_Mo_ofCrane (rv M) c 2)) 1), .inl (f_Mo_ofCrane (rv M3) c 0)])) [oc (some (f_Mo_ofJob (rv M3) (ix (f_Mo_ofCrane (rv M) c 2)) 1), M3)] rfl ⟨⟨s14, Nat.le_of_ble_eq_true rfl, Nat.le_of_ble_eq_true rfl, ⟨_, rfl⟩⟩, trivial⟩ ?_
      by_cases h15 : (f_Mo_ofCrane (rv M3) c 0) = (f_Mo_ofJob (rv M3) (ix (f_Mo_ofCrane (rv M) c 2)) 1)
      · have k16 : (f_Mo_ofCrane ((f_Mo_setCrane ((rv M)) c 3 ((f_Mo_ofCrane ((rv M)) c 3) - 1)).2) c 0) = (f_Mo_ofJob ((f_Mo_setCrane ((rv M)) c 3 ((f_Mo_ofCrane ((rv M)) c 3) - 1)).2) (ix (f_Mo_ofCrane ((rv M)) c 2)) 1) := by
          have q : (f_Mo_ofCrane (rv M3) c 0) = (f_Mo_ofJob (rv M3) (ix (f_Mo_ofCrane (rv M) c 2)) 1) := h15
          first | exact q | (simp only [a5] at q; exact q)
        refine wgo (g' := (M3, 59, [some (.inr (5, 24)), some (.inl (nI c)), some (.inl (f_Mo_ofCrane (rv M) c 2))], [.inl 4, .inl (nI c), .inr (5, 24)])) [oz 0, oz 0, oz 0, oz 0] rfl ⟨(fun z => z h15), trivial, trivial, trivial, trivial⟩ ?_
        obtain ⟨M17, s18, a19, w20⟩ := rs_Mo_begins (d := d)  (M := M3) (c := c) (x := 4)  hc
        have a19 : rv M17 = (f_Mo_begins ((f_Mo_setCrane ((rv M)) c 3 ((f_Mo_ofCrane ((rv M)) c 3) - 1)).2) c 4).2 := a19.trans (show (f_Mo_begins ((rv M3)) c 4).2 = _ from by first | rfl | simp only [a5])
        have w20 : rf M M17 := rf_tr w6 w20
        refine wgo (g' := (M17, 72, [some (.inr (5, 24)), some (.inl (nI c)), some (.inl (f_Mo_ofCrane (rv M) c 2))], [])) [oc (none, M17), oz 0] rfl ⟨⟨s18, Nat.le_of_ble_eq_true rfl, Nat.le_of_ble_eq_true rfl, ⟨_, rfl⟩⟩, trivial, trivial⟩ ?_
        have x21 : f_Mo_lessToGo (rv M) c = (0, (f_Mo_begins ((f_Mo_setCrane ((rv M)) c 3 ((f_Mo_ofCrane ((rv M)) c 3) - 1)).2) c 4).2) := by
          unfold f_Mo_lessToGo
          rw [if_pos k9, if_pos k12, if_pos k16]
        exact wend ⟨rfl, rfl⟩ ⟨rfl, a19.trans (congrArg Prod.snd x21).symm, w20⟩
      · have k22 : ¬ ((f_Mo_ofCrane ((f_Mo_setCrane ((rv M)) c 3 ((f_Mo_ofCrane ((rv M)) c 3) - 1)).2) c 0) = (f_Mo_ofJob ((f_Mo_setCrane ((rv M)) c 3 ((f_Mo_ofCrane ((rv M)) c 3) - 1)).2) (ix (f_Mo_ofCrane ((rv M)) c 2)) 1)) := by
          have q : ¬ ((f_Mo_ofCrane (rv M3) c 0) = (f_Mo_ofJob (rv M3) (ix (f_Mo_ofCrane (rv M) c 2)) 1)) := h15
          first | exact q | (simp only [a5] at q; exact q)
        refine wgo (g' := (M3, 69, [some (.inr (5, 24)), some (.inl (nI c)), some (.inl (f_Mo_ofCrane (rv M) c 2))], [.inl 3, .inl 1, .inl (nI c), .inr (5, 24)])) [oz 1, oz 0, oz 0, oz 0, oz 0] rfl ⟨h15, trivial, trivial, trivial, trivial, trivial⟩ ?_
        obtain ⟨M23, s24, a25, w26⟩ := rs_Mo_setCrane (d := d + 1)  (M := M3) (c := c) (w := 1) (x := 3)  (by omega)
        have a25 : rv M23 = (f_Mo_setCrane ((f_Mo_setCrane ((rv M)) c 3 ((f_Mo_ofCrane ((rv M)) c 3) - 1)).2) c 1 3).2 := a25.trans (show (f_Mo_setCrane ((rv M3)) c 1 3).2 = _ from by first | rfl | simp only [a5])
        have w26 : rf M M23 := rf_tr w6 w26
        refine wgo (g' := (M23, 72, [some (.inr (5, 24)), some (.inl (nI c)), some (.inl (f_Mo_ofCrane (rv M) c 2))], [])) [oc (none, M23)] rfl ⟨⟨s24, Nat.le_of_ble_eq_true rfl, Nat.le_of_ble_eq_true rfl, ⟨_, rfl⟩⟩, trivial⟩ ?_
        have x27 : f_Mo_lessToGo (rv M) c = (0, (f_Mo_setCrane ((f_Mo_setCrane ((rv M)) c 3 ((f_Mo_ofCrane ((rv M)) c 3) - 1)).2) c 1 3).2) := by
          unfold f_Mo_lessToGo
          rw [if_pos k9, if_pos k12, if_neg k22]
        exact wend ⟨rfl, rfl⟩ ⟨rfl, a25.trans (congrArg Prod.snd x27).symm, w26⟩
    · have k28 : ¬ ((f_Mo_ofCrane ((f_Mo_setCrane ((rv M)) c 3 ((f_Mo_ofCrane ((rv M)) c 3) - 1)).2) c 1) = 2) := by
        have q : ¬ ((f_Mo_ofCrane (rv M3) c 1) = 2) := h11
        first | exact q | (simp only [a5] at q; exact q)
      refine wgo (g' := (M3, 77, [some (.inr (5, 24)), some (.inl (nI c)), some (.inl (f_Mo_ofCrane (rv M) c 2))], [.inl 3, .inl 3, .inl (f_Mo_ofCrane (rv M) c 2), .inr (5, 24)])) [oz 1, oz 0, oz 0, oz 0, oz 0] rfl ⟨h11, trivial, trivial, trivial, trivial, trivial⟩ ?_
      obtain ⟨M29, s30, a31, w32⟩ := rs_Mo_setJob (d := d + 1)  (M := M3) (j := ix (f_Mo_ofCrane (rv M) c 2)) (w := 3) (x := 3)  (by have q := hj.2; omega)
      rw [← (hj).1] at s30
      have a31 : rv M29 = (f_Mo_setJob ((f_Mo_setCrane ((rv M)) c 3 ((f_Mo_ofCrane ((rv M)) c 3) - 1)).2) (ix (f_Mo_ofCrane ((rv M)) c 2)) 3 3).2 := a31.trans (show (f_Mo_setJob ((rv M3)) (ix (f_Mo_ofCrane (rv M) c 2)) 3 3).2 = _ from by first | rfl | simp only [a5])
      have w32 : rf M M29 := rf_tr w6 w32
      refine wgo (g' := (M29, 91, [some (.inr (5, 24)), some (.inl (nI c)), some (.inl (f_Mo_ofCrane (rv M) c 2))], [.inl ((M29 27 0) + 1), .inl 5, .inl (f_Mo_ofCrane (rv M) c 2), .inr (5, 24)])) [oc (none, M29), oz 0, oz 0, oz 0, oz 0, oz 0, oz 0, oz 0, oz 0, oz 0] rfl ⟨⟨s30, Nat.le_of_ble_eq_true rfl, Nat.le_of_ble_eq_true rfl, ⟨_, rfl⟩⟩, trivial, trivial, trivial, trivial, trivial, trivial, ⟨rfl, by decide⟩, trivial, trivial, trivial⟩ ?_
      obtain ⟨M33, s34, a35, w36⟩ := rs_Mo_setJob (d := d + 1)  (M := M29) (j := ix (f_Mo_ofCrane (rv M) c 2)) (w := 5) (x := (M29 27 0) + 1)  (by have q := hj.2; omega)
      rw [← (hj).1] at s34
      have a35 : rv M33 = (f_Mo_setJob ((f_Mo_setJob ((f_Mo_setCrane ((rv M)) c 3 ((f_Mo_ofCrane ((rv M)) c 3) - 1)).2) (ix (f_Mo_ofCrane ((rv M)) c 2)) 3 3).2) (ix (f_Mo_ofCrane ((rv M)) c 2)) 5 ((((f_Mo_setJob ((f_Mo_setCrane ((rv M)) c 3 ((f_Mo_ofCrane ((rv M)) c 3) - 1)).2) (ix (f_Mo_ofCrane ((rv M)) c 2)) 3 3).2) 3 0) + 1)).2 := a35.trans (show (f_Mo_setJob ((rv M29)) (ix (f_Mo_ofCrane (rv M) c 2)) 5 (((rv M29) 3 0) + 1)).2 = _ from by first | rfl | simp only [a5, a31])
      have w36 : rf M M33 := rf_tr w32 w36
      refine wgo (g' := (M33, 98, [some (.inr (5, 24)), some (.inl (nI c)), some (.inl (f_Mo_ofCrane (rv M) c 2))], [.inl ((-1)), .inl 2, .inl (nI c), .inr (5, 24)])) [oc (none, M33), oz 0, oz 0, oz 0, oz 0] rfl ⟨⟨s34, Nat.le_of_ble_eq_true rfl, Nat.le_of_ble_eq_true rfl, ⟨_, rfl⟩⟩, trivial, trivial, trivial, trivial, trivial⟩ ?_
      obtain ⟨M37, s38, a39, w40⟩ := rs_Mo_setCrane (d := d + 1)  (M := M33) (c := c) (w := 2) (x := (-1))  (by omega)
      have a39 : rv M37 = (f_Mo_setCrane ((f_Mo_setJob ((f_Mo_setJob ((f_Mo_setCrane ((rv M)) c 3 ((f_Mo_ofCrane ((rv M)) c 3) - 1)).2) (ix (f_Mo_ofCrane ((rv M)) c 2)) 3 3).2) (ix (f_Mo_ofCrane ((rv M)) c 2)) 5 ((((f_Mo_setJob ((f_Mo_setCrane ((rv M)) c 3 ((f_Mo_ofCrane ((rv M)) c 3) - 1)).2) (ix (f_Mo_ofCrane ((rv M)) c 2)) 3 3).2) 3 0) + 1)).2) c 2 ((-1))).2 := a39.trans (show (f_Mo_setCrane ((rv M33)) c 2 ((-1))).2 = _ from by first | rfl | simp only [a5, a31, a35])
      have w40 : rf M M37 := rf_tr w36 w40
      refine wgo (g' := (M37, 105, [some (.inr (5, 24)), some (.inl (nI c)), some (.inl (f_Mo_ofCrane (rv M) c 2))], [.inl 0, .inl 1, .inl (nI c), .inr (5, 24)])) [oc (none, M37), oz 0, oz 0, oz 0, oz 0] rfl ⟨⟨s38, Nat.le_of_ble_eq_true rfl, Nat.le_of_ble_eq_true rfl, ⟨_, rfl⟩⟩, trivial, trivial, trivial, trivial, trivial⟩ ?_
      obtain ⟨M41, s42, a43, w44⟩ := rs_Mo_setCrane (d := d + 1)  (M := M37) (c := c) (w := 1) (x := 0)  (by omega)
      have a43 : rv M41 = (f_Mo_setCrane ((f_Mo_setCrane ((f_Mo_setJob ((f_Mo_setJob ((f_Mo_setCrane ((rv M)) c 3 ((f_Mo_ofCrane ((rv M)) c 3) - 1)).2) (ix (f_Mo_ofCrane ((rv M)) c 2)) 3 3).2) (ix (f_Mo_ofCrane ((rv M)) c 2)) 5 ((((f_Mo_setJob ((f_Mo_setCrane ((rv M)) c 3 ((f_Mo_ofCrane ((rv M)) c 3) - 1)).2) (ix (f_Mo_ofCrane ((rv M)) c 2)) 3 3).2) 3 0) + 1)).2) c 2 ((-1))).2) c 1 0).2 := a43.trans (show (f_Mo_setCrane ((rv M37)) c 1 0).2 = _ from by first | rfl | simp only [a5, a31, a35, a39])
      have w44 : rf M M41 := rf_tr w40 w44
      refine wgo (g' := (M41, 108, [some (.inr (5, 24)), some (.inl (nI c)), some (.inl (f_Mo_ofCrane (rv M) c 2))], [])) [oc (none, M41)] rfl ⟨⟨s42, Nat.le_of_ble_eq_true rfl, Nat.le_of_ble_eq_true rfl, ⟨_, rfl⟩⟩, trivial⟩ ?_
      have x45 : f_Mo_lessToGo (rv M) c = (0, (f_Mo_setCrane ((f_Mo_setCrane ((f_Mo_setJob ((f_Mo_setJob ((f_Mo_setCrane ((rv M)) c 3 ((f_Mo_ofCrane ((rv M)) c 3) - 1)).2) (ix (f_Mo_ofCrane ((rv M)) c 2)) 3 3).2) (ix (f_Mo_ofCrane ((rv M)) c 2)) 5 ((((f_Mo_setJob ((f_Mo_setCrane ((rv M)) c 3 ((f_Mo_ofCrane ((rv M)) c 3) - 1)).2) (ix (f_Mo_ofCrane ((rv M)) c 2)) 3 3).2) 3 0) + 1)).2) c 2 ((-1))).2) c 1 0).2) := by
        unfold f_Mo_lessToGo
        rw [if_pos k9, if_neg k28]
      exact wend ⟨rfl, rfl⟩ ⟨rfl, a43.trans (congrArg Prod.snd x45).symm, w44⟩
  · have k46 : ¬ ((f_Mo_ofCrane ((f_Mo_setCrane ((rv M)) c 3 ((f_Mo_ofCrane ((rv M)) c 3) - 1)).2) c 3) ≤ 0) := by
      have q : ¬ ((f_Mo_ofCrane (rv M3) c 3) ≤ 0) := h8
      first | exact q | (simp only [a5] at q; exact q)
    refine wgo (g' := (M3, 30, [some (.inr (5, 24)), some (.inl (nI c)), some (.inl (f_Mo_ofCrane (rv M) c 2))], [])) [oz 0] rfl ⟨h8, trivial⟩ ?_
    have x47 : f_Mo_lessToGo (rv M) c = (0, (f_Mo_setCrane ((rv M)) c 3 ((f_Mo_ofCrane ((rv M)) c 3) - 1)).2) := by
      unfold f_Mo_lessToGo
      rw [if_neg k46]
    exact wend ⟨rfl, rfl⟩ ⟨rfl, a5.trans (congrArg Prod.snd x47).symm, w6⟩
