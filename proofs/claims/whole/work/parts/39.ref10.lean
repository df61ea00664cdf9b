theorem in13 {x : Int32} (h : ¬ f_Mo_in x 1 3 = 0) : x = nI (ix x) ∧ ix x ≤ 3 := by
  unfold f_Mo_in at h
  by_cases q1 : x < 1
  · rw [if_pos q1] at h; exact absurd rfl h
  · rw [if_neg q1] at h
    by_cases q2 : 3 < x
    · rw [if_pos q2] at h; exact absurd rfl h
    · have q0 : ¬ x < 0 := fun z => q1 (Int32.lt_trans z (by decide))
      obtain ⟨j, hj, rfl⟩ := nI_of q0
      have q3 : ¬ 3 < j := fun z => q2 (nI_lt (a := 3) z hj)
      rw [ix_nI hj]
      exact ⟨rfl, by omega⟩
theorem okm1 {n : Nat} {x : Int32} (h : okx n x) (hp : ¬ x ≤ 0) : x - 1 = nI (ix x - 1) := by
  have e := h.1
  have h0 : 0 < ix x := by
    rcases Nat.eq_zero_or_pos (ix x) with q | q
    · rw [q] at e
      exact absurd (by rw [e]; decide) hp
    · exact q
  conv => lhs; rw [e]
  exact nI_m1 h0
theorem okp1 {n : Nat} {x : Int32} (h : okx n x) : x + 1 = nI (ix x + 1) := by
  conv => lhs; rw [h.1]
  exact nI_1 _
def f_tr : Nat → mm_M → Int32 → Int32 → Int32 → Int32 → Int32 → Nat → Int32 × mm_M
  | 0, A, _, _, _, _, _, _ => (0, A)
  | r + 1, A, ta, tb, tc, td, g, i => (if ta ≤ (nI i) then (0, A) else (f_tr r (mm_up ((f_Mo_setCrane ((f_Mo_setCrane (A) i 0 ((nI i) * tb)).2) i 2 ((-1))).2) 2 i 200) ta tb tc td g (i + 1)))
set_option maxRecDepth 20000 in
set_option maxHeartbeats 1000000 in
theorem lp_tr {d : Nat} {M : mm_M} {ta : Int32} {tb : Int32} {tc : Int32} {td : Int32} {g : Int32}   {n : Nat} (hx : ta = nI n) (hn : n ≤ 3) : ∀ (r : Nat) (A : mm_M) (Mz : mm_M) (i : Nat), rv Mz = A → rf M Mz → (i ≤ n) → (n < i + r) → mm_Wp pg_Mo_track rt_Mo_track (ct_Sem (d + 1)) (Mz, 103, [some (.inr (5, 24)), some (.inl ta), some (.inl tb), some (.inl tc), some (.inl td), some (.inl g), some (.inl (nI i))], []) (rQ M (none) (f_tr r A ta tb tc td g i).2) := by
  intro r
  induction r with
  | zero =>
    intro A Mz i hA hf hi hr
    exfalso; omega
  | succ r ih =>
    intro A Mz i hA hf hi hr
    refine wgo (g' := (Mz, 106, [some (.inr (5, 24)), some (.inl ta), some (.inl tb), some (.inl tc), some (.inl td), some (.inl g), some (.inl (nI i))], [.inl ta, .inl (nI i)])) [oz 0, oz 0] rfl ⟨trivial, trivial, trivial⟩ ?_
    by_cases h1 : ta ≤ (nI i)
    · have k2 : ta ≤ (nI i) := by
        have q : ta ≤ (nI i) := h1
        first | exact q | (simp only [hA] at q; exact q)
      refine wgo (g' := (Mz, 144, [some (.inr (5, 24)), some (.inl ta), some (.inl tb), some (.inl tc), some (.inl td), some (.inl g), some (.inl (nI i))], [])) [oz 1] rfl ⟨h1, trivial⟩ ?_
      have x3 : f_tr (r + 1) A ta tb tc td g i = (0, A) := by
        rw [f_tr]
        rw [if_pos k2]
      exact wend ⟨rfl, rfl⟩ ⟨rfl, hA.trans (congrArg Prod.snd x3).symm, hf⟩
    · have k4 : ¬ (ta ≤ (nI i)) := by
        have q : ¬ (ta ≤ (nI i)) := h1
        first | exact q | (simp only [hA] at q; exact q)
      refine wgo (g' := (Mz, 117, [some (.inr (5, 24)), some (.inl ta), some (.inl tb), some (.inl tc), some (.inl td), some (.inl g), some (.inl (nI i))], [.inl ((nI i) * tb), .inl 0, .inl (nI i), .inr (5, 24)])) [oz 0, oz 0, oz 0, oz 0, oz 0, oz 0, oz 0] rfl ⟨h1, trivial, trivial, trivial, trivial, trivial, trivial, trivial⟩ ?_
      obtain ⟨M5, s6, a7, w8⟩ := rs_Mo_setCrane (d := d)  (M := Mz) (c := i) (w := 0) (x := (nI i) * tb)  (by have q := nI_sl hx (by omega) hi k4; omega)
      have a7 : rv M5 = (f_Mo_setCrane (A) i 0 ((nI i) * tb)).2 := a7.trans (show (f_Mo_setCrane ((rv Mz)) i 0 ((nI i) * tb)).2 = _ from by first | rfl | simp only [hA])
      have w8 : rf M M5 := rf_tr hf w8
      refine wgo (g' := (M5, 125, [some (.inr (5, 24)), some (.inl ta), some (.inl tb), some (.inl tc), some (.inl td), some (.inl g), some (.inl (nI i))], [.inl ((-1)), .inl 2, .inl (nI i), .inr (5, 24)])) [oc (none, M5), oz 0, oz 0, oz 0, oz 0] rfl ⟨⟨s6, Nat.le_of_ble_eq_true rfl, Nat.le_of_ble_eq_true rfl, ⟨_, rfl⟩⟩, trivial, trivial, trivial, trivial, trivial⟩ ?_
      obtain ⟨M9, s10, a11, w12⟩ := rs_Mo_setCrane (d := d)  (M := M5) (c := i) (w := 2) (x := (-1))  (by have q := nI_sl hx (by omega) hi k4; omega)
      have a11 : rv M9 = (f_Mo_setCrane ((f_Mo_setCrane (A) i 0 ((nI i) * tb)).2) i 2 ((-1))).2 := a11.trans (show (f_Mo_setCrane ((rv M5)) i 2 ((-1))).2 = _ from by first | rfl | simp only [hA, a7])
      have w12 : rf M M9 := rf_tr w8 w12
      refine wgo (g' := (mm_up M9 26 i 200, 138, [some (.inr (5, 24)), some (.inl ta), some (.inl tb), some (.inl tc), some (.inl td), some (.inl g), some (.inl (nI i))], [])) [oc (none, M9), oz 0, oz 0, oz 0, oz 0, oz i] rfl ⟨⟨s10, Nat.le_of_ble_eq_true rfl, Nat.le_of_ble_eq_true rfl, ⟨_, rfl⟩⟩, trivial, trivial, trivial, trivial, ⟨rfl, Nat.lt_of_lt_of_le (nI_sl hx (by omega) hi k4) hn⟩, trivial⟩ ?_
      generalize e14 : mm_up M9 26 i 200 = M13
      have a15 : rv M13 = mm_up ((f_Mo_setCrane ((f_Mo_setCrane (A) i 0 ((nI i) * tb)).2) i 2 ((-1))).2) 2 i 200 := by
        rw [← e14]
        refine (rv_up 2).trans ?_
        show mm_up ((rv M9)) 2 i 200 = _
        first | rfl | simp only [hA, a7, a11]
      have w16 : rf M M13 := by rw [← e14]; exact rf_up w12 (by decide)
      refine wgo (g' := (M13, 103, [some (.inr (5, 24)), some (.inl ta), some (.inl tb), some (.inl tc), some (.inl td), some (.inl g), some (.inl ((nI i) + 1))], [])) [oz 0, oz 0] rfl ⟨trivial, trivial, trivial⟩ ?_
      rw [nI_1 i]
      have x17 : f_tr (r + 1) A ta tb tc td g i = f_tr r (mm_up ((f_Mo_setCrane ((f_Mo_setCrane (A) i 0 ((nI i) * tb)).2) i 2 ((-1))).2) 2 i 200) ta tb tc td g (i + 1) := by
        rw [f_tr]
        rw [if_neg k4]
      rw [x17]
      exact ih _ M13 (i + 1) a15 w16 (nI_sl hx (by omega) hi k4) (by omega)
def f_tr70 (A : mm_M) (ta : Int32) (tb : Int32) (tc : Int32) (td : Int32) (g : Int32) (p2 : Int32) (p1 : Int32) : Int32 × mm_M := (if ((f_Mo_throwing (A) p1 p2 0 0).1) = 0 then (f_tr 4 (mm_up (mm_up (mm_up (mm_up ((f_Mo_throwing (A) p1 p2 0 0).2) 0 1 ta) 0 2 tb) 0 3 tc) 0 4 td) ta tb tc td g 0) else (0, (f_Mo_throwing (A) p1 p2 0 0).2))
set_option maxRecDepth 20000 in
set_option maxHeartbeats 1000000 in
theorem sg_tr70 {d : Nat} {M : mm_M} {A : mm_M} {Mz : mm_M} {ta : Int32} {tb : Int32} {tc : Int32} {td : Int32} {g : Int32} {p2 : Int32} {p1 : Int32}  (hA : rv Mz = A) (hf : rf M Mz) (hx : p2 = 0 → ta = nI (ix ta) ∧ ix ta ≤ 3) : mm_Wp pg_Mo_track rt_Mo_track (ct_Sem (d + 1)) (Mz, 70, [some (.inr (5, 24)), some (.inl ta), some (.inl tb), some (.inl tc), some (.inl td), some (.inl g), none], [.inl p2, .inl p1, .inr (5, 24)]) (rQ M (none) (f_tr70 A ta tb tc td g p2 p1).2) := by
  refine wgo (g' := (Mz, 72, [some (.inr (5, 24)), some (.inl ta), some (.inl tb), some (.inl tc), some (.inl td), some (.inl g), none], [.inl 0, .inl 0, .inl p2, .inl p1, .inr (5, 24)])) [oz 0, oz 0] rfl ⟨trivial, trivial, trivial⟩ ?_
  obtain ⟨M1, s2, a3, w4⟩ := rs_Mo_throwing (d := d)  (M := Mz) (p1 := p1) (p2 := p2) (p3 := 0) (p4 := 0)  
  have a3 : rv M1 = (f_Mo_throwing (A) p1 p2 0 0).2 := a3.trans (show (f_Mo_throwing ((rv Mz)) p1 p2 0 0).2 = _ from by first | rfl | simp only [hA])
  have w4 : rf M M1 := rf_tr hf w4
  refine wgo (g' := (M1, 75, [some (.inr (5, 24)), some (.inl ta), some (.inl tb), some (.inl tc), some (.inl td), some (.inl g), none], [.inl ((f_Mo_throwing ((rv Mz)) p1 p2 0 0).1)])) [oc (some ((f_Mo_throwing ((rv Mz)) p1 p2 0 0).1), M1)] rfl ⟨⟨s2, Nat.le_of_ble_eq_true rfl, Nat.le_of_ble_eq_true rfl, ⟨_, rfl⟩⟩, trivial⟩ ?_
  by_cases h5 : ((f_Mo_throwing ((rv Mz)) p1 p2 0 0).1) = 0
  · have k6 : ((f_Mo_throwing (A) p1 p2 0 0).1) = 0 := by
      have q : ((f_Mo_throwing ((rv Mz)) p1 p2 0 0).1) = 0 := h5
      first | exact q | (simp only [hA, a3] at q; exact q)
    refine wgo (g' := (mm_up M1 24 1 ta, 84, [some (.inr (5, 24)), some (.inl ta), some (.inl tb), some (.inl tc), some (.inl td), some (.inl g), none], [])) [oz 1, oz 0, oz 0, oz 0] rfl ⟨h5, trivial, trivial, trivial, trivial⟩ ?_
    generalize e8 : mm_up M1 24 1 ta = M7
    have a9 : rv M7 = mm_up ((f_Mo_throwing (A) p1 p2 0 0).2) 0 1 ta := by
      rw [← e8]
      refine (rv_up 0).trans ?_
      show mm_up ((rv M1)) 0 1 ta = _
      first | rfl | simp only [hA, a3]
    have w10 : rf M M7 := by rw [← e8]; exact rf_up w4 (by decide)
    refine wgo (g' := (mm_up M7 24 2 tb, 89, [some (.inr (5, 24)), some (.inl ta), some (.inl tb), some (.inl tc), some (.inl td), some (.inl g), none], [])) [oz 0, oz 0, oz 0] rfl ⟨trivial, trivial, trivial, trivial⟩ ?_
    generalize e12 : mm_up M7 24 2 tb = M11
    have a13 : rv M11 = mm_up (mm_up ((f_Mo_throwing (A) p1 p2 0 0).2) 0 1 ta) 0 2 tb := by
      rw [← e12]
      refine (rv_up 0).trans ?_
      show mm_up ((rv M7)) 0 2 tb = _
      first | rfl | simp only [hA, a3, a9]
    have w14 : rf M M11 := by rw [← e12]; exact rf_up w10 (by decide)
    refine wgo (g' := (mm_up M11 24 3 tc, 94, [some (.inr (5, 24)), some (.inl ta), some (.inl tb), some (.inl tc), some (.inl td), some (.inl g), none], [])) [oz 0, oz 0, oz 0] rfl ⟨trivial, trivial, trivial, trivial⟩ ?_
    generalize e16 : mm_up M11 24 3 tc = M15
    have a17 : rv M15 = mm_up (mm_up (mm_up ((f_Mo_throwing (A) p1 p2 0 0).2) 0 1 ta) 0 2 tb) 0 3 tc := by
      rw [← e16]
      refine (rv_up 0).trans ?_
      show mm_up ((rv M11)) 0 3 tc = _
      first | rfl | simp only [hA, a3, a9, a13]
    have w18 : rf M M15 := by rw [← e16]; exact rf_up w14 (by decide)
    refine wgo (g' := (mm_up M15 24 4 td, 100, [some (.inr (5, 24)), some (.inl ta), some (.inl tb), some (.inl tc), some (.inl td), some (.inl g), none], [])) [oz 0, oz 0, oz 0] rfl ⟨trivial, trivial, trivial, trivial⟩ ?_
    generalize e20 : mm_up M15 24 4 td = M19
    have a21 : rv M19 = mm_up (mm_up (mm_up (mm_up ((f_Mo_throwing (A) p1 p2 0 0).2) 0 1 ta) 0 2 tb) 0 3 tc) 0 4 td := by
      rw [← e20]
      refine (rv_up 0).trans ?_
      show mm_up ((rv M15)) 0 4 td = _
      first | rfl | simp only [hA, a3, a9, a13, a17]
    have w22 : rf M M19 := by rw [← e20]; exact rf_up w18 (by decide)
    refine wgo (g' := (M19, 103, [some (.inr (5, 24)), some (.inl ta), some (.inl tb), some (.inl tc), some (.inl td), some (.inl g), some (.inl 0)], [])) [oz 0, oz 0] rfl ⟨trivial, Nat.le_of_ble_eq_true rfl, trivial⟩ ?_
    have x23 : f_tr70 A ta tb tc td g p2 p1 = f_tr 4 (mm_up (mm_up (mm_up (mm_up ((f_Mo_throwing (A) p1 p2 0 0).2) 0 1 ta) 0 2 tb) 0 3 tc) 0 4 td) ta tb tc td g 0 := by
      unfold f_tr70
      rw [if_pos k6]
    rw [x23]
    exact lp_tr (d := d)  (M := M) (ta := ta) (tb := tb) (tc := tc) (td := td) (g := g)  (hx (thr0 k6).2.1).1 (hx (thr0 k6).2.1).2 4 _ M19 0  a21 w22 (Nat.zero_le _) (by have q := (hx (thr0 k6).2.1).2; omega)
  · have k24 : ¬ (((f_Mo_throwing (A) p1 p2 0 0).1) = 0) := by
      have q : ¬ (((f_Mo_throwing ((rv Mz)) p1 p2 0 0).1) = 0) := h5
      first | exact q | (simp only [hA, a3] at q; exact q)
    refine wgo (g' := (M1, 78, [some (.inr (5, 24)), some (.inl ta), some (.inl tb), some (.inl tc), some (.inl td), some (.inl g), none], [])) [oz 0] rfl ⟨h5, trivial⟩ ?_
    have x25 : f_tr70 A ta tb tc td g p2 p1 = (0, (f_Mo_throwing (A) p1 p2 0 0).2) := by
      unfold f_tr70
      rw [if_neg k24]
    exact wend ⟨rfl, rfl⟩ ⟨rfl, a3.trans (congrArg Prod.snd x25).symm, w4⟩
def f_tr60 (A : mm_M) (ta : Int32) (tb : Int32) (tc : Int32) (td : Int32) (g : Int32) (p1 : Int32) : Int32 × mm_M := (if g = 0 then (f_tr70 (A) ta tb tc td g 1 p1) else (f_tr70 (A) ta tb tc td g 0 p1))
set_option maxRecDepth 20000 in
set_option maxHeartbeats 1000000 in
theorem sg_tr60 {d : Nat} {M : mm_M} {A : mm_M} {Mz : mm_M} {ta : Int32} {tb : Int32} {tc : Int32} {td : Int32} {g : Int32} {p1 : Int32}  (hA : rv Mz = A) (hf : rf M Mz) (hg : ¬ g = 0 → ta = nI (ix ta) ∧ ix ta ≤ 3) : mm_Wp pg_Mo_track rt_Mo_track (ct_Sem (d + 1)) (Mz, 60, [some (.inr (5, 24)), some (.inl ta), some (.inl tb), some (.inl tc), some (.inl td), some (.inl g), none], [.inl p1, .inr (5, 24)]) (rQ M (none) (f_tr60 A ta tb tc td g p1).2) := by
  refine wgo (g' := (Mz, 62, [some (.inr (5, 24)), some (.inl ta), some (.inl tb), some (.inl tc), some (.inl td), some (.inl g), none], [.inl g, .inl p1, .inr (5, 24)])) [oz 0] rfl ⟨trivial, trivial⟩ ?_
  by_cases h1 : g = 0
  · have k2 : g = 0 := by
      have q : g = 0 := h1
      first | exact q | (simp only [hA] at q; exact q)
    refine wgo (g' := (Mz, 70, [some (.inr (5, 24)), some (.inl ta), some (.inl tb), some (.inl tc), some (.inl td), some (.inl g), none], [.inl 1, .inl p1, .inr (5, 24)])) [oz 0, oz 0, oz 0] rfl ⟨(fun z => z h1), trivial, trivial, trivial⟩ ?_
    have x3 : f_tr60 A ta tb tc td g p1 = f_tr70 (A) ta tb tc td g 1 p1 := by
      unfold f_tr60
      rw [if_pos k2]
    rw [x3]
    exact sg_tr70 (d := d)  (M := M) (Mz := Mz) (ta := ta) (tb := tb) (tc := tc) (td := td) (g := g) (p2 := 1) (p1 := p1)  hA hf (fun z => absurd z (by decide))
  · have k4 : ¬ (g = 0) := by
      have q : ¬ (g = 0) := h1
      first | exact q | (simp only [hA] at q; exact q)
    refine wgo (g' := (Mz, 70, [some (.inr (5, 24)), some (.inl ta), some (.inl tb), some (.inl tc), some (.inl td), some (.inl g), none], [.inl 0, .inl p1, .inr (5, 24)])) [oz 1, oz 0] rfl ⟨h1, trivial, trivial⟩ ?_
    have x5 : f_tr60 A ta tb tc td g p1 = f_tr70 (A) ta tb tc td g 0 p1 := by
      unfold f_tr60
      rw [if_neg k4]
    rw [x5]
    exact sg_tr70 (d := d)  (M := M) (Mz := Mz) (ta := ta) (tb := tb) (tc := tc) (td := td) (g := g) (p2 := 0) (p1 := p1)  hA hf (fun _ => hg k4)
def f_tr47 (A : mm_M) (ta : Int32) (tb : Int32) (tc : Int32) (td : Int32) (g : Int32) : Int32 × mm_M := (if ((A) 0 1) ≤ 0 then (f_tr60 (A) ta tb tc td g 0) else (f_tr60 (A) ta tb tc td g 1))
set_option maxRecDepth 20000 in
set_option maxHeartbeats 1000000 in
theorem sg_tr47 {d : Nat} {M : mm_M} {A : mm_M} {Mz : mm_M} {ta : Int32} {tb : Int32} {tc : Int32} {td : Int32} {g : Int32}  (hA : rv Mz = A) (hf : rf M Mz) (hg : ¬ g = 0 → ta = nI (ix ta) ∧ ix ta ≤ 3) : mm_Wp pg_Mo_track rt_Mo_track (ct_Sem (d + 1)) (Mz, 47, [some (.inr (5, 24)), some (.inl ta), some (.inl tb), some (.inl tc), some (.inl td), some (.inl g), none], []) (rQ M (none) (f_tr47 A ta tb tc td g).2) := by
  refine wgo (g' := (Mz, 52, [some (.inr (5, 24)), some (.inl ta), some (.inl tb), some (.inl tc), some (.inl td), some (.inl g), none], [.inl (Mz 24 1), .inr (5, 24)])) [oz 0, oz 0, oz 0] rfl ⟨trivial, trivial, trivial, trivial⟩ ?_
  by_cases h1 : (Mz 24 1) ≤ 0
  · have k2 : ((A) 0 1) ≤ 0 := by
      have q : ((rv Mz) 0 1) ≤ 0 := h1
      first | exact q | (simp only [hA] at q; exact q)
    refine wgo (g' := (Mz, 60, [some (.inr (5, 24)), some (.inl ta), some (.inl tb), some (.inl tc), some (.inl td), some (.inl g), none], [.inl 0, .inr (5, 24)])) [oz 1, oz 0] rfl ⟨h1, trivial, trivial⟩ ?_
    have x3 : f_tr47 A ta tb tc td g = f_tr60 (A) ta tb tc td g 0 := by
      unfold f_tr47
      rw [if_pos k2]
    rw [x3]
    exact sg_tr60 (d := d)  (M := M) (Mz := Mz) (ta := ta) (tb := tb) (tc := tc) (td := td) (g := g) (p1 := 0)  hA hf hg
  · have k4 : ¬ (((A) 0 1) ≤ 0) := by
      have q : ¬ (((rv Mz) 0 1) ≤ 0) := h1
      first | exact q | (simp only [hA] at q; exact q)
    refine wgo (g' := (Mz, 60, [some (.inr (5, 24)), some (.inl ta), some (.inl tb), some (.inl tc), some (.inl td), some (.inl g), none], [.inl 1, .inr (5, 24)])) [oz 0, oz 0, oz 0] rfl ⟨h1, trivial, trivial, trivial⟩ ?_
    have x5 : f_tr47 A ta tb tc td g = f_tr60 (A) ta tb tc td g 1 := by
      unfold f_tr47
      rw [if_neg k4]
    rw [x5]
    exact sg_tr60 (d := d)  (M := M) (Mz := Mz) (ta := ta) (tb := tb) (tc := tc) (td := td) (g := g) (p1 := 1)  hA hf hg
def f_Mo_track (A : mm_M) (ta : Int32) (tb : Int32) (tc : Int32) (td : Int32) : Int32 × mm_M := (if (f_Mo_in ta 1 3) = 0 then (f_tr47 (A) ta tb tc td 0) else (if (f_Mo_in tb 1 30) = 0 then (f_tr47 (A) ta tb tc td 0) else (if (f_Mo_in tc 1 20) = 0 then (f_tr47 (A) ta tb tc td 0) else (if (f_Mo_in td 1 30) = 0 then (f_tr47 (A) ta tb tc td 0) else (f_tr47 (A) ta tb tc td 1)))))
set_option maxRecDepth 20000 in
set_option maxHeartbeats 1000000 in
theorem rs_Mo_track {d : Nat} {M : mm_M} {ta : Int32} {tb : Int32} {tc : Int32} {td : Int32}   : RS (d + 2) 42  M [.inr (5, 24), .inl ta, .inl tb, .inl tc, .inl td] (none) (f_Mo_track (rv M) ta tb tc td).2 := by
  refine RS_of (Nat.le_of_ble_eq_true rfl) ?_
  show mm_Wp pg_Mo_track rt_Mo_track (ct_Sem (d + 1)) (M, 0, [some (.inr (5, 24)), some (.inl ta), some (.inl tb), some (.inl tc), some (.inl td), none, none], []) _
  refine wgo (g' := (M, 3, [some (.inr (5, 24)), some (.inl ta), some (.inl tb), some (.inl tc), some (.inl td), none, none], [.inl 3, .inl 1, .inl ta])) [oz 0, oz 0, oz 0] rfl ⟨trivial, trivial, trivial, trivial⟩ ?_
  have s1 := sm_Mo_in (d := d)  (M := M) (v := ta) (a := 1) (e := 3) 
  refine wgo (g' := (M, 6, [some (.inr (5, 24)), some (.inl ta), some (.inl tb), some (.inl tc), some (.inl td), none, none], [.inl (f_Mo_in ta 1 3)])) [oc (some (f_Mo_in ta 1 3), M)] rfl ⟨⟨s1, Nat.le_of_ble_eq_true rfl, Nat.le_of_ble_eq_true rfl, trivial⟩, trivial⟩ ?_
  by_cases h2 : (f_Mo_in ta 1 3) = 0
  · have k3 : (f_Mo_in ta 1 3) = 0 := by
      have q : (f_Mo_in ta 1 3) = 0 := h2
      exact q
    refine wgo (g' := (M, 47, [some (.inr (5, 24)), some (.inl ta), some (.inl tb), some (.inl tc), some (.inl td), some (.inl 0), none], [])) [oz 1, oz 0, oz 0] rfl ⟨h2, trivial, Nat.le_of_ble_eq_true rfl, trivial⟩ ?_
    have x4 : f_Mo_track (rv M) ta tb tc td = f_tr47 ((rv M)) ta tb tc td 0 := by
      unfold f_Mo_track
      rw [if_pos k3]
    rw [x4]
    exact sg_tr47 (d := d)  (M := M) (Mz := M) (ta := ta) (tb := tb) (tc := tc) (td := td) (g := 0)  rfl rf_rf (fun z => absurd rfl z)
  · have k5 : ¬ ((f_Mo_in ta 1 3) = 0) := by
      have q : ¬ ((f_Mo_in ta 1 3) = 0) := h2
      exact q
    refine wgo (g' := (M, 13, [some (.inr (5, 24)), some (.inl ta), some (.inl tb), some (.inl tc), some (.inl td), none, none], [.inl 30, .inl 1, .inl tb])) [oz 0, oz 0, oz 0, oz 0] rfl ⟨h2, trivial, trivial, trivial, trivial⟩ ?_
    have s6 := sm_Mo_in (d := d)  (M := M) (v := tb) (a := 1) (e := 30) 
    refine wgo (g' := (M, 16, [some (.inr (5, 24)), some (.inl ta), some (.inl tb), some (.inl tc), some (.inl td), none, none], [.inl (f_Mo_in tb 1 30)])) [oc (some (f_Mo_in tb 1 30), M)] rfl ⟨⟨s6, Nat.le_of_ble_eq_true rfl, Nat.le_of_ble_eq_true rfl, trivial⟩, trivial⟩ ?_
    by_cases h7 : (f_Mo_in tb 1 30) = 0
    · have k8 : (f_Mo_in tb 1 30) = 0 := by
        have q : (f_Mo_in tb 1 30) = 0 := h7
        exact q
      refine wgo (g' := (M, 47, [some (.inr (5, 24)), some (.inl ta), some (.inl tb), some (.inl tc), some (.inl td), some (.inl 0), none], [])) [oz 1, oz 0, oz 0] rfl ⟨h7, trivial, Nat.le_of_ble_eq_true rfl, trivial⟩ ?_
      have x9 : f_Mo_track (rv M) ta tb tc td = f_tr47 ((rv M)) ta tb tc td 0 := by
        unfold f_Mo_track
        rw [if_neg k5, if_pos k8]
      rw [x9]
      exact sg_tr47 (d := d)  (M := M) (Mz := M) (ta := ta) (tb := tb) (tc := tc) (td := td) (g := 0)  rfl rf_rf (fun z => absurd rfl z)
    · have k10 : ¬ ((f_Mo_in tb 1 30) = 0) := by
        have q : ¬ ((f_Mo_in tb 1 30) = 0) := h7
        exact q
      refine wgo (g' := (M, 23, [some (.inr (5, 24)), some (.inl ta), some (.inl tb), some (.inl tc), some (.inl td), none, none], [.inl 20, .inl 1, .inl tc])) [oz 0, oz 0, oz 0, oz 0] rfl ⟨h7, trivial, trivial, trivial, trivial⟩ ?_
      have s11 := sm_Mo_in (d := d)  (M := M) (v := tc) (a := 1) (e := 20) 
      refine wgo (g' := (M, 26, [some (.inr (5, 24)), some (.inl ta), some (.inl tb), some (.inl tc), some (.inl td), none, none], [.inl (f_Mo_in tc 1 20)])) [oc (some (f_Mo_in tc 1 20), M)] rfl ⟨⟨s11, Nat.le_of_ble_eq_true rfl, Nat.le_of_ble_eq_true rfl, trivial⟩, trivial⟩ ?_
      by_cases h12 : (f_Mo_in tc 1 20) = 0
      · have k13 : (f_Mo_in tc 1 20) = 0 := by
          have q : (f_Mo_in tc 1 20) = 0 := h12
          exact q
        refine wgo (g' := (M, 47, [some (.inr (5, 24)), some (.inl ta), some (.inl tb), some (.inl tc), some (.inl td), some (.inl 0), none], [])) [oz 1, oz 0, oz 0] rfl ⟨h12, trivial, Nat.le_of_ble_eq_true rfl, trivial⟩ ?_
        have x14 : f_Mo_track (rv M) ta tb tc td = f_tr47 ((rv M)) ta tb tc td 0 := by
          unfold f_Mo_track
          rw [if_neg k5, if_neg k10, if_pos k13]
        rw [x14]
        exact sg_tr47 (d := d)  (M := M) (Mz := M) (ta := ta) (tb := tb) (tc := tc) (td := td) (g := 0)  rfl rf_rf (fun z => absurd rfl z)
      · have k15 : ¬ ((f_Mo_in tc 1 20) = 0) := by
          have q : ¬ ((f_Mo_in tc 1 20) = 0) := h12
          exact q
        refine wgo (g' := (M, 34, [some (.inr (5, 24)), some (.inl ta), some (.inl tb), some (.inl tc), some (.inl td), none, none], [.inl 30, .inl 1, .inl td])) [oz 0, oz 0, oz 0, oz 0] rfl ⟨h12, trivial, trivial, trivial, trivial⟩ ?_
        have s16 := sm_Mo_in (d := d)  (M := M) (v := td) (a := 1) (e := 30) 
        refine wgo (g' := (M, 37, [some (.inr (5, 24)), some (.inl ta), some (.inl tb), some (.inl tc), some (.inl td), none, none], [.inl (f_Mo_in td 1 30)])) [oc (some (f_Mo_in td 1 30), M)] rfl ⟨⟨s16, Nat.le_of_ble_eq_true rfl, Nat.le_of_ble_eq_true rfl, trivial⟩, trivial⟩ ?_
        by_cases h17 : (f_Mo_in td 1 30) = 0
        · have k18 : (f_Mo_in td 1 30) = 0 := by
            have q : (f_Mo_in td 1 30) = 0 := h17
            exact q
          refine wgo (g' := (M, 47, [some (.inr (5, 24)), some (.inl ta), some (.inl tb), some (.inl tc), some (.inl td), some (.inl 0), none], [])) [oz 1, oz 0, oz 0] rfl ⟨h17, trivial, Nat.le_of_ble_eq_true rfl, trivial⟩ ?_
          have x19 : f_Mo_track (rv M) ta tb tc td = f_tr47 ((rv M)) ta tb tc td 0 := by
            unfold f_Mo_track
            rw [if_neg k5, if_neg k10, if_neg k15, if_pos k18]
          rw [x19]
          exact sg_tr47 (d := d)  (M := M) (Mz := M) (ta := ta) (tb := tb) (tc := tc) (td := td) (g := 0)  rfl rf_rf (fun z => absurd rfl z)
        · have k20 : ¬ ((f_Mo_in td 1 30) = 0) := by
            have q : ¬ ((f_Mo_in td 1 30) = 0) := h17
            exact q
          refine wgo (g' := (M, 47, [some (.inr (5, 24)), some (.inl ta), some (.inl tb), some (.inl tc), some (.inl td), some (.inl 1), none], [])) [oz 0, oz 0, oz 0, oz 0] rfl ⟨h17, trivial, trivial, Nat.le_of_ble_eq_true rfl, trivial⟩ ?_
          have x21 : f_Mo_track (rv M) ta tb tc td = f_tr47 ((rv M)) ta tb tc td 1 := by
            unfold f_Mo_track
            rw [if_neg k5, if_neg k10, if_neg k15, if_neg k20]
          rw [x21]
          exact sg_tr47 (d := d)  (M := M) (Mz := M) (ta := ta) (tb := tb) (tc := tc) (td := td) (g := 1)  rfl rf_rf (fun _ => in13 k5)
def f_cn141 (A : mm_M) (x : Int32) (y : Int32) (a : Int32) (e : Int32) (bd : Int32) (rg : Int32) (nr : Int32) (p2 : Int32) : Int32 × mm_M := (if ((f_Mo_throwing (A) bd p2 rg nr).1) = 0 then (0, mm_up (mm_up ((f_Mo_setCrane ((f_Mo_throwing (A) bd p2 rg nr).2) (ix x) 0 y).2) 1 (ix x) a) 2 (ix x) e) else (0, (f_Mo_throwing (A) bd p2 rg nr).2))
set_option maxRecDepth 20000 in
set_option maxHeartbeats 1000000 in
theorem sg_cn141 {d : Nat} {M : mm_M} {A : mm_M} {Mz : mm_M} {x : Int32} {y : Int32} {a : Int32} {e : Int32} {bd : Int32} {rg : Int32} {nr : Int32} {p2 : Int32}  (hA : rv Mz = A) (hf : rf M Mz) (hb : bd = 0 → okx 3 x) : mm_Wp pg_Mo_crane rt_Mo_crane (ct_Sem (d + 1)) (Mz, 141, [some (.inr (5, 24)), some (.inl x), some (.inl y), some (.inl a), some (.inl e), some (.inl bd), some (.inl rg), some (.inl nr)], [.inl p2, .inl bd, .inr (5, 24)]) (rQ M (none) (f_cn141 A x y a e bd rg nr p2).2) := by
  refine wgo (g' := (Mz, 145, [some (.inr (5, 24)), some (.inl x), some (.inl y), some (.inl a), some (.inl e), some (.inl bd), some (.inl rg), some (.inl nr)], [.inl nr, .inl rg, .inl p2, .inl bd, .inr (5, 24)])) [oz 0, oz 0] rfl ⟨trivial, trivial, trivial⟩ ?_
  obtain ⟨M1, s2, a3, w4⟩ := rs_Mo_throwing (d := d)  (M := Mz) (p1 := bd) (p2 := p2) (p3 := rg) (p4 := nr)  
  have a3 : rv M1 = (f_Mo_throwing (A) bd p2 rg nr).2 := a3.trans (show (f_Mo_throwing ((rv Mz)) bd p2 rg nr).2 = _ from by first | rfl | simp only [hA])
  have w4 : rf M M1 := rf_tr hf w4
  refine wgo (g' := (M1, 148, [some (.inr (5, 24)), some (.inl x), some (.inl y), some (.inl a), some (.inl e), some (.inl bd), some (.inl rg), some (.inl nr)], [.inl ((f_Mo_throwing ((rv Mz)) bd p2 rg nr).1)])) [oc (some ((f_Mo_throwing ((rv Mz)) bd p2 rg nr).1), M1)] rfl ⟨⟨s2, Nat.le_of_ble_eq_true rfl, Nat.le_of_ble_eq_true rfl, ⟨_, rfl⟩⟩, trivial⟩ ?_
  by_cases h5 : ((f_Mo_throwing ((rv Mz)) bd p2 rg nr).1) = 0
  · have k6 : ((f_Mo_throwing (A) bd p2 rg nr).1) = 0 := by
      have q : ((f_Mo_throwing ((rv Mz)) bd p2 rg nr).1) = 0 := h5
      first | exact q | (simp only [hA, a3] at q; exact q)
    refine wgo (g' := (M1, 156, [some (.inr (5, 24)), some (.inl x), some (.inl y), some (.inl a), some (.inl e), some (.inl bd), some (.inl rg), some (.inl nr)], [.inl y, .inl 0, .inl x, .inr (5, 24)])) [oz 1, oz 0, oz 0, oz 0, oz 0] rfl ⟨h5, trivial, trivial, trivial, trivial, trivial⟩ ?_
    obtain ⟨M7, s8, a9, w10⟩ := rs_Mo_setCrane (d := d)  (M := M1) (c := ix x) (w := 0) (x := y)  (by have q := (hb (thr0 k6).1).2; omega)
    rw [← ((hb (thr0 k6).1)).1] at s8
    have a9 : rv M7 = (f_Mo_setCrane ((f_Mo_throwing (A) bd p2 rg nr).2) (ix x) 0 y).2 := a9.trans (show (f_Mo_setCrane ((rv M1)) (ix x) 0 y).2 = _ from by first | rfl | simp only [hA, a3])
    have w10 : rf M M7 := rf_tr w4 w10
    refine wgo (g' := (mm_up M7 25 (ix x) a, 166, [some (.inr (5, 24)), some (.inl x), some (.inl y), some (.inl a), some (.inl e), some (.inl bd), some (.inl rg), some (.inl nr)], [])) [oc (none, M7), oz 0, oz 0, oz 0, oz 0, oz (ix x)] rfl ⟨⟨s8, Nat.le_of_ble_eq_true rfl, Nat.le_of_ble_eq_true rfl, ⟨_, rfl⟩⟩, trivial, trivial, trivial, trivial, (hb (thr0 k6).1), trivial⟩ ?_
    generalize e12 : mm_up M7 25 (ix x) a = M11
    have a13 : rv M11 = mm_up ((f_Mo_setCrane ((f_Mo_throwing (A) bd p2 rg nr).2) (ix x) 0 y).2) 1 (ix x) a := by
      rw [← e12]
      refine (rv_up 1).trans ?_
      show mm_up ((rv M7)) 1 (ix x) a = _
      first | rfl | simp only [hA, a3, a9]
    have w14 : rf M M11 := by rw [← e12]; exact rf_up w10 (by decide)
    refine wgo (g' := (mm_up M11 26 (ix x) e, 174, [some (.inr (5, 24)), some (.inl x), some (.inl y), some (.inl a), some (.inl e), some (.inl bd), some (.inl rg), some (.inl nr)], [])) [oz 0, oz 0, oz 0, oz 0, oz (ix x)] rfl ⟨trivial, trivial, trivial, trivial, (hb (thr0 k6).1), trivial⟩ ?_
    generalize e16 : mm_up M11 26 (ix x) e = M15
    have a17 : rv M15 = mm_up (mm_up ((f_Mo_setCrane ((f_Mo_throwing (A) bd p2 rg nr).2) (ix x) 0 y).2) 1 (ix x) a) 2 (ix x) e := by
      rw [← e16]
      refine (rv_up 2).trans ?_
      show mm_up ((rv M11)) 2 (ix x) e = _
      first | rfl | simp only [hA, a3, a9, a13]
    have w18 : rf M M15 := by rw [← e16]; exact rf_up w14 (by decide)
    have x19 : f_cn141 A x y a e bd rg nr p2 = (0, mm_up (mm_up ((f_Mo_setCrane ((f_Mo_throwing (A) bd p2 rg nr).2) (ix x) 0 y).2) 1 (ix x) a) 2 (ix x) e) := by
      unfold f_cn141
      rw [if_pos k6]
    exact wend ⟨rfl, rfl⟩ ⟨rfl, a17.trans (congrArg Prod.snd x19).symm, w18⟩
  · have k20 : ¬ (((f_Mo_throwing (A) bd p2 rg nr).1) = 0) := by
      have q : ¬ (((f_Mo_throwing ((rv Mz)) bd p2 rg nr).1) = 0) := h5
      first | exact q | (simp only [hA, a3] at q; exact q)
    refine wgo (g' := (M1, 151, [some (.inr (5, 24)), some (.inl x), some (.inl y), some (.inl a), some (.inl e), some (.inl bd), some (.inl rg), some (.inl nr)], [])) [oz 0] rfl ⟨h5, trivial⟩ ?_
    have x21 : f_cn141 A x y a e bd rg nr p2 = (0, (f_Mo_throwing (A) bd p2 rg nr).2) := by
      unfold f_cn141
      rw [if_neg k20]
    exact wend ⟨rfl, rfl⟩ ⟨rfl, a3.trans (congrArg Prod.snd x21).symm, w4⟩
def f_cn115 (A : mm_M) (x : Int32) (y : Int32) (a : Int32) (e : Int32) (bd : Int32) (rg : Int32) (nr : Int32) : Int32 × mm_M := (if 0 < ((A) 3 0) then (f_cn141 (A) x y a e bd rg nr 1) else (if ((A) 3 2) ≤ 0 then (f_cn141 (A) x y a e bd rg nr 0) else (f_cn141 (A) x y a e bd rg nr 1)))
set_option maxRecDepth 20000 in
set_option maxHeartbeats 1000000 in
theorem sg_cn115 {d : Nat} {M : mm_M} {A : mm_M} {Mz : mm_M} {x : Int32} {y : Int32} {a : Int32} {e : Int32} {bd : Int32} {rg : Int32} {nr : Int32}  (hA : rv Mz = A) (hf : rf M Mz) (hb : bd = 0 → okx 3 x) : mm_Wp pg_Mo_crane rt_Mo_crane (ct_Sem (d + 1)) (Mz, 115, [some (.inr (5, 24)), some (.inl x), some (.inl y), some (.inl a), some (.inl e), some (.inl bd), some (.inl rg), some (.inl nr)], []) (rQ M (none) (f_cn115 A x y a e bd rg nr).2) := by
  refine wgo (g' := (Mz, 124, [some (.inr (5, 24)), some (.inl x), some (.inl y), some (.inl a), some (.inl e), some (.inl bd), some (.inl rg), some (.inl nr)], [.inl (Mz 27 0), .inl bd, .inr (5, 24)])) [oz 0, oz 0, oz 0, oz 0, oz 0, oz 0] rfl ⟨trivial, trivial, trivial, trivial, trivial, ⟨rfl, by decide⟩, trivial⟩ ?_
  by_cases h1 : 0 < (Mz 27 0)
  · have k2 : 0 < ((A) 3 0) := by
      have q : 0 < ((rv Mz) 3 0) := h1
      first | exact q | (simp only [hA] at q; exact q)
    refine wgo (g' := (Mz, 141, [some (.inr (5, 24)), some (.inl x), some (.inl y), some (.inl a), some (.inl e), some (.inl bd), some (.inl rg), some (.inl nr)], [.inl 1, .inl bd, .inr (5, 24)])) [oz 1, oz 0, oz 0] rfl ⟨h1, trivial, trivial, trivial⟩ ?_
    have x3 : f_cn115 A x y a e bd rg nr = f_cn141 (A) x y a e bd rg nr 1 := by
      unfold f_cn115
      rw [if_pos k2]
    rw [x3]
    exact sg_cn141 (d := d)  (M := M) (Mz := Mz) (x := x) (y := y) (a := a) (e := e) (bd := bd) (rg := rg) (nr := nr) (p2 := 1)  hA hf hb
  · have k4 : ¬ (0 < ((A) 3 0)) := by
      have q : ¬ (0 < ((rv Mz) 3 0)) := h1
      first | exact q | (simp only [hA] at q; exact q)
    refine wgo (g' := (Mz, 133, [some (.inr (5, 24)), some (.inl x), some (.inl y), some (.inl a), some (.inl e), some (.inl bd), some (.inl rg), some (.inl nr)], [.inl (Mz 27 2), .inl bd, .inr (5, 24)])) [oz 0, oz 0, oz 0, oz 0, oz 2] rfl ⟨h1, trivial, trivial, trivial, ⟨rfl, by decide⟩, trivial⟩ ?_
    by_cases h5 : (Mz 27 2) ≤ 0
    · have k6 : ((A) 3 2) ≤ 0 := by
        have q : ((rv Mz) 3 2) ≤ 0 := h5
        first | exact q | (simp only [hA] at q; exact q)
      refine wgo (g' := (Mz, 141, [some (.inr (5, 24)), some (.inl x), some (.inl y), some (.inl a), some (.inl e), some (.inl bd), some (.inl rg), some (.inl nr)], [.inl 0, .inl bd, .inr (5, 24)])) [oz 1, oz 0] rfl ⟨h5, trivial, trivial⟩ ?_
      have x7 : f_cn115 A x y a e bd rg nr = f_cn141 (A) x y a e bd rg nr 0 := by
        unfold f_cn115
        rw [if_neg k4, if_pos k6]
      rw [x7]
      exact sg_cn141 (d := d)  (M := M) (Mz := Mz) (x := x) (y := y) (a := a) (e := e) (bd := bd) (rg := rg) (nr := nr) (p2 := 0)  hA hf hb
    · have k8 : ¬ (((A) 3 2) ≤ 0) := by
        have q : ¬ (((rv Mz) 3 2) ≤ 0) := h5
        first | exact q | (simp only [hA] at q; exact q)
      refine wgo (g' := (Mz, 141, [some (.inr (5, 24)), some (.inl x), some (.inl y), some (.inl a), some (.inl e), some (.inl bd), some (.inl rg), some (.inl nr)], [.inl 1, .inl bd, .inr (5, 24)])) [oz 0, oz 0, oz 0] rfl ⟨h5, trivial, trivial, trivial⟩ ?_
      have x9 : f_cn115 A x y a e bd rg nr = f_cn141 (A) x y a e bd rg nr 1 := by
        unfold f_cn115
        rw [if_neg k4, if_neg k8]
      rw [x9]
      exact sg_cn141 (d := d)  (M := M) (Mz := Mz) (x := x) (y := y) (a := a) (e := e) (bd := bd) (rg := rg) (nr := nr) (p2 := 1)  hA hf hb
def f_cn55 (A : mm_M) (x : Int32) (y : Int32) (a : Int32) (e : Int32) (bd : Int32) (rg : Int32) : Int32 × mm_M := (if bd = 0 then (if x ≤ 0 then (if ((A) 0 1) ≤ (x + 1) then (f_cn115 (A) x y a e bd rg 0) else (if ((A) 0 2) ≤ ((f_Mo_ofCrane (A) (ix x + 1) 0) - y) then (f_cn115 (A) x y a e bd rg 0) else (f_cn115 (A) x y a e bd rg 1))) else (if (y - (f_Mo_ofCrane (A) (ix x - 1) 0)) < ((A) 0 2) then (f_cn115 (A) x y a e bd rg 1) else (if ((A) 0 1) ≤ (x + 1) then (f_cn115 (A) x y a e bd rg 0) else (if ((A) 0 2) ≤ ((f_Mo_ofCrane (A) (ix x + 1) 0) - y) then (f_cn115 (A) x y a e bd rg 0) else (f_cn115 (A) x y a e bd rg 1))))) else (f_cn115 (A) x y a e bd rg 0))
set_option maxRecDepth 20000 in
set_option maxHeartbeats 1000000 in
theorem sg_cn55 {d : Nat} {M : mm_M} {A : mm_M} {Mz : mm_M} {x : Int32} {y : Int32} {a : Int32} {e : Int32} {bd : Int32} {rg : Int32}  (hA : rv Mz = A) (hf : rf M Mz) (hb : bd = 0 → okx 3 x) : mm_Wp pg_Mo_crane rt_Mo_crane (ct_Sem (d + 1)) (Mz, 55, [some (.inr (5, 24)), some (.inl x), some (.inl y), some (.inl a), some (.inl e), some (.inl bd), some (.inl rg), none], []) (rQ M (none) (f_cn55 A x y a e bd rg).2) := by
  refine wgo (g' := (Mz, 57, [some (.inr (5, 24)), some (.inl x), some (.inl y), some (.inl a), some (.inl e), some (.inl bd), some (.inl rg), none], [.inl bd])) [oz 0] rfl ⟨trivial, trivial⟩ ?_
  by_cases h1 : bd = 0
  · have k2 : bd = 0 := by
      have q : bd = 0 := h1
      first | exact q | (simp only [hA] at q; exact q)
    refine wgo (g' := (Mz, 61, [some (.inr (5, 24)), some (.inl x), some (.inl y), some (.inl a), some (.inl e), some (.inl bd), some (.inl rg), none], [.inl x])) [oz 0, oz 0] rfl ⟨(fun z => z h1), trivial, trivial⟩ ?_
    by_cases h3 : x ≤ 0
    · have k4 : x ≤ 0 := by
        have q : x ≤ 0 := h3
        first | exact q | (simp only [hA] at q; exact q)
      refine wgo (g' := (Mz, 88, [some (.inr (5, 24)), some (.inl x), some (.inl y), some (.inl a), some (.inl e), some (.inl bd), some (.inl rg), none], [.inl (Mz 24 1), .inl (x + 1)])) [oz 1, oz 0, oz 0, oz 0, oz 0, oz 0] rfl ⟨h3, trivial, trivial, trivial, trivial, trivial, trivial⟩ ?_
      by_cases h5 : (Mz 24 1) ≤ (x + 1)
      · have k6 : ((A) 0 1) ≤ (x + 1) := by
          have q : ((rv Mz) 0 1) ≤ (x + 1) := h5
          first | exact q | (simp only [hA] at q; exact q)
        refine wgo (g' := (Mz, 115, [some (.inr (5, 24)), some (.inl x), some (.inl y), some (.inl a), some (.inl e), some (.inl bd), some (.inl rg), some (.inl 0)], [])) [oz 1, oz 0, oz 0] rfl ⟨h5, trivial, Nat.le_of_ble_eq_true rfl, trivial⟩ ?_
        have x7 : f_cn55 A x y a e bd rg = f_cn115 (A) x y a e bd rg 0 := by
          unfold f_cn55
          rw [if_pos k2, if_pos k4, if_pos k6]
        rw [x7]
        exact sg_cn115 (d := d)  (M := M) (Mz := Mz) (x := x) (y := y) (a := a) (e := e) (bd := bd) (rg := rg) (nr := 0)  hA hf hb
      · have k8 : ¬ (((A) 0 1) ≤ (x + 1)) := by
          have q : ¬ (((rv Mz) 0 1) ≤ (x + 1)) := h5
          first | exact q | (simp only [hA] at q; exact q)
        refine wgo (g' := (Mz, 96, [some (.inr (5, 24)), some (.inl x), some (.inl y), some (.inl a), some (.inl e), some (.inl bd), some (.inl rg), none], [.inl 0, .inl (x + 1), .inr (5, 24)])) [oz 0, oz 0, oz 0, oz 0, oz 0, oz 0] rfl ⟨h5, trivial, trivial, trivial, trivial, trivial, trivial⟩ ?_
        have s9 := sm_Mo_ofCrane (d := d)  (M := Mz) (c := ix x + 1) (w := 0) (by have q := (hb k2).2; omega)
        rw [← (okp1 (hb k2))] at s9
        refine wgo (g' := (Mz, 105, [some (.inr (5, 24)), some (.inl x), some (.inl y), some (.inl a), some (.inl e), some (.inl bd), some (.inl rg), none], [.inl (Mz 24 2), .inl ((f_Mo_ofCrane (rv Mz) (ix x + 1) 0) - y)])) [oc (some (f_Mo_ofCrane (rv Mz) (ix x + 1) 0), Mz), oz 0, oz 0, oz 0, oz 0] rfl ⟨⟨s9, Nat.le_of_ble_eq_true rfl, Nat.le_of_ble_eq_true rfl, ⟨_, rfl⟩⟩, trivial, trivial, trivial, trivial, trivial⟩ ?_
        by_cases h10 : (Mz 24 2) ≤ ((f_Mo_ofCrane (rv Mz) (ix x + 1) 0) - y)
        · have k11 : ((A) 0 2) ≤ ((f_Mo_ofCrane (A) (ix x + 1) 0) - y) := by
            have q : ((rv Mz) 0 2) ≤ ((f_Mo_ofCrane (rv Mz) (ix x + 1) 0) - y) := h10
            first | exact q | (simp only [hA] at q; exact q)
          refine wgo (g' := (Mz, 115, [some (.inr (5, 24)), some (.inl x), some (.inl y), some (.inl a), some (.inl e), some (.inl bd), some (.inl rg), some (.inl 0)], [])) [oz 1, oz 0, oz 0] rfl ⟨h10, trivial, Nat.le_of_ble_eq_true rfl, trivial⟩ ?_
          have x12 : f_cn55 A x y a e bd rg = f_cn115 (A) x y a e bd rg 0 := by
            unfold f_cn55
            rw [if_pos k2, if_pos k4, if_neg k8, if_pos k11]
          rw [x12]
          exact sg_cn115 (d := d)  (M := M) (Mz := Mz) (x := x) (y := y) (a := a) (e := e) (bd := bd) (rg := rg) (nr := 0)  hA hf hb
        · have k13 : ¬ (((A) 0 2) ≤ ((f_Mo_ofCrane (A) (ix x + 1) 0) - y)) := by
            have q : ¬ (((rv Mz) 0 2) ≤ ((f_Mo_ofCrane (rv Mz) (ix x + 1) 0) - y)) := h10
            first | exact q | (simp only [hA] at q; exact q)
          refine wgo (g' := (Mz, 115, [some (.inr (5, 24)), some (.inl x), some (.inl y), some (.inl a), some (.inl e), some (.inl bd), some (.inl rg), some (.inl 1)], [])) [oz 0, oz 0, oz 0, oz 0] rfl ⟨h10, trivial, trivial, Nat.le_of_ble_eq_true rfl, trivial⟩ ?_
          have x14 : f_cn55 A x y a e bd rg = f_cn115 (A) x y a e bd rg 1 := by
            unfold f_cn55
            rw [if_pos k2, if_pos k4, if_neg k8, if_neg k13]
          rw [x14]
          exact sg_cn115 (d := d)  (M := M) (Mz := Mz) (x := x) (y := y) (a := a) (e := e) (bd := bd) (rg := rg) (nr := 1)  hA hf hb
    · have k15 : ¬ (x ≤ 0) := by
        have q : ¬ (x ≤ 0) := h3
        first | exact q | (simp only [hA] at q; exact q)
      refine wgo (g' := (Mz, 70, [some (.inr (5, 24)), some (.inl x), some (.inl y), some (.inl a), some (.inl e), some (.inl bd), some (.inl rg), none], [.inl 0, .inl (x - 1), .inr (5, 24), .inl y])) [oz 0, oz 0, oz 0, oz 0, oz 0, oz 0, oz 0] rfl ⟨h3, trivial, trivial, trivial, trivial, trivial, trivial, trivial⟩ ?_
      have s16 := sm_Mo_ofCrane (d := d)  (M := Mz) (c := ix x - 1) (w := 0) (by have q := (hb k2).2; omega)
      rw [← (okm1 (hb k2) k15)] at s16
      refine wgo (g' := (Mz, 78, [some (.inr (5, 24)), some (.inl x), some (.inl y), some (.inl a), some (.inl e), some (.inl bd), some (.inl rg), none], [.inl (Mz 24 2), .inl (y - (f_Mo_ofCrane (rv Mz) (ix x - 1) 0))])) [oc (some (f_Mo_ofCrane (rv Mz) (ix x - 1) 0), Mz), oz 0, oz 0, oz 0] rfl ⟨⟨s16, Nat.le_of_ble_eq_true rfl, Nat.le_of_ble_eq_true rfl, ⟨_, rfl⟩⟩, trivial, trivial, trivial, trivial⟩ ?_
      by_cases h17 : (y - (f_Mo_ofCrane (rv Mz) (ix x - 1) 0)) < (Mz 24 2)
      · have k18 : (y - (f_Mo_ofCrane (A) (ix x - 1) 0)) < ((A) 0 2) := by
          have q : (y - (f_Mo_ofCrane (rv Mz) (ix x - 1) 0)) < ((rv Mz) 0 2) := h17
          first | exact q | (simp only [hA] at q; exact q)
        refine wgo (g' := (Mz, 115, [some (.inr (5, 24)), some (.inl x), some (.inl y), some (.inl a), some (.inl e), some (.inl bd), some (.inl rg), some (.inl 1)], [])) [oz 1, oz 0, oz 0, oz 0] rfl ⟨h17, trivial, trivial, Nat.le_of_ble_eq_true rfl, trivial⟩ ?_
        have x19 : f_cn55 A x y a e bd rg = f_cn115 (A) x y a e bd rg 1 := by
          unfold f_cn55
          rw [if_pos k2, if_neg k15, if_pos k18]
        rw [x19]
        exact sg_cn115 (d := d)  (M := M) (Mz := Mz) (x := x) (y := y) (a := a) (e := e) (bd := bd) (rg := rg) (nr := 1)  hA hf hb
      · have k20 : ¬ ((y - (f_Mo_ofCrane (A) (ix x - 1) 0)) < ((A) 0 2)) := by
          have q : ¬ ((y - (f_Mo_ofCrane (rv Mz) (ix x - 1) 0)) < ((rv Mz) 0 2)) := h17
          first | exact q | (simp only [hA] at q; exact q)
        refine wgo (g' := (Mz, 88, [some (.inr (5, 24)), some (.inl x), some (.inl y), some (.inl a), some (.inl e), some (.inl bd), some (.inl rg), none], [.inl (Mz 24 1), .inl (x + 1)])) [oz 0, oz 0, oz 0, oz 0, oz 0, oz 0] rfl ⟨h17, trivial, trivial, trivial, trivial, trivial, trivial⟩ ?_
        by_cases h21 : (Mz 24 1) ≤ (x + 1)
        · have k22 : ((A) 0 1) ≤ (x + 1) := by
            have q : ((rv Mz) 0 1) ≤ (x + 1) := h21
            first | exact q | (simp only [hA] at q; exact q)
          refine wgo (g' := (Mz, 115, [some (.inr (5, 24)), some (.inl x), some (.inl y), some (.inl a), some (.inl e), some (.inl bd), some (.inl rg), some (.inl 0)], [])) [oz 1, oz 0, oz 0] rfl ⟨h21, trivial, Nat.le_of_ble_eq_true rfl, trivial⟩ ?_
          have x23 : f_cn55 A x y a e bd rg = f_cn115 (A) x y a e bd rg 0 := by
            unfold f_cn55
            rw [if_pos k2, if_neg k15, if_neg k20, if_pos k22]
          rw [x23]
          exact sg_cn115 (d := d)  (M := M) (Mz := Mz) (x := x) (y := y) (a := a) (e := e) (bd := bd) (rg := rg) (nr := 0)  hA hf hb
        · have k24 : ¬ (((A) 0 1) ≤ (x + 1)) := by
            have q : ¬ (((rv Mz) 0 1) ≤ (x + 1)) := h21
            first | exact q | (simp only [hA] at q; exact q)
          refine wgo (g' := (Mz, 96, [some (.inr (5, 24)), some (.inl x), some (.inl y), some (.inl a), some (.inl e), some (.inl bd), some (.inl rg), none], [.inl 0, .inl (x + 1), .inr (5, 24)])) [oz 0, oz 0, oz 0, oz 0, oz 0, oz 0] rfl ⟨h21, trivial, trivial, trivial, trivial, trivial, trivial⟩ ?_
          have s25 := sm_Mo_ofCrane (d := d)  (M := Mz) (c := ix x + 1) (w := 0) (by have q := (hb k2).2; omega)
          rw [← (okp1 (hb k2))] at s25
          refine wgo (g' := (Mz, 105, [some (.inr (5, 24)), some (.inl x), some (.inl y), some (.inl a), some (.inl e), some (.inl bd), some (.inl rg), none], [.inl (Mz 24 2), .inl ((f_Mo_ofCrane (rv Mz) (ix x + 1) 0) - y)])) [oc (some (f_Mo_ofCrane (rv Mz) (ix x + 1) 0), Mz), oz 0, oz 0, oz 0, oz 0] rfl ⟨⟨s25, Nat.le_of_ble_eq_true rfl, Nat.le_of_ble_eq_true rfl, ⟨_, rfl⟩⟩, trivial, trivial, trivial, trivial, trivial⟩ ?_
          by_cases h26 : (Mz 24 2) ≤ ((f_Mo_ofCrane (rv Mz) (ix x + 1) 0) - y)
          · have k27 : ((A) 0 2) ≤ ((f_Mo_ofCrane (A) (ix x + 1) 0) - y) := by
              have q : ((rv Mz) 0 2) ≤ ((f_Mo_ofCrane (rv Mz) (ix x + 1) 0) - y) := h26
              first | exact q | (simp only [hA] at q; exact q)
            refine wgo (g' := (Mz, 115, [some (.inr (5, 24)), some (.inl x), some (.inl y), some (.inl a), some (.inl e), some (.inl bd), some (.inl rg), some (.inl 0)], [])) [oz 1, oz 0, oz 0] rfl ⟨h26, trivial, Nat.le_of_ble_eq_true rfl, trivial⟩ ?_
            have x28 : f_cn55 A x y a e bd rg = f_cn115 (A) x y a e bd rg 0 := by
              unfold f_cn55
              rw [if_pos k2, if_neg k15, if_neg k20, if_neg k24, if_pos k27]
            rw [x28]
            exact sg_cn115 (d := d)  (M := M) (Mz := Mz) (x := x) (y := y) (a := a) (e := e) (bd := bd) (rg := rg) (nr := 0)  hA hf hb
          · have k29 : ¬ (((A) 0 2) ≤ ((f_Mo_ofCrane (A) (ix x + 1) 0) - y)) := by
              have q : ¬ (((rv Mz) 0 2) ≤ ((f_Mo_ofCrane (rv Mz) (ix x + 1) 0) - y)) := h26
              first | exact q | (simp only [hA] at q; exact q)
            refine wgo (g' := (Mz, 115, [some (.inr (5, 24)), some (.inl x), some (.inl y), some (.inl a), some (.inl e), some (.inl bd), some (.inl rg), some (.inl 1)], [])) [oz 0, oz 0, oz 0, oz 0] rfl ⟨h26, trivial, trivial, Nat.le_of_ble_eq_true rfl, trivial⟩ ?_
            have x30 : f_cn55 A x y a e bd rg = f_cn115 (A) x y a e bd rg 1 := by
              unfold f_cn55
              rw [if_pos k2, if_neg k15, if_neg k20, if_neg k24, if_neg k29]
            rw [x30]
            exact sg_cn115 (d := d)  (M := M) (Mz := Mz) (x := x) (y := y) (a := a) (e := e) (bd := bd) (rg := rg) (nr := 1)  hA hf hb
  · have k31 : ¬ (bd = 0) := by
      have q : ¬ (bd = 0) := h1
      first | exact q | (simp only [hA] at q; exact q)
    refine wgo (g' := (Mz, 115, [some (.inr (5, 24)), some (.inl x), some (.inl y), some (.inl a), some (.inl e), some (.inl bd), some (.inl rg), some (.inl 0)], [])) [oz 1, oz 0, oz 0] rfl ⟨h1, trivial, Nat.le_of_ble_eq_true rfl, trivial⟩ ?_
    have x32 : f_cn55 A x y a e bd rg = f_cn115 (A) x y a e bd rg 0 := by
      unfold f_cn55
      rw [if_neg k31]
    rw [x32]
    exact sg_cn115 (d := d)  (M := M) (Mz := Mz) (x := x) (y := y) (a := a) (e := e) (bd := bd) (rg := rg) (nr := 0)  hA hf hb
def f_cn15 (A : mm_M) (x : Int32) (y : Int32) (a : Int32) (e : Int32) (bd : Int32) : Int32 × mm_M := (if (f_Mo_in a 0 200) = 0 then (f_cn55 (A) x y a e bd 1) else (if (f_Mo_in e 0 200) = 0 then (f_cn55 (A) x y a e bd 1) else (if (f_Mo_in y a e) = 0 then (f_cn55 (A) x y a e bd 1) else (f_cn55 (A) x y a e bd 0))))
set_option maxRecDepth 20000 in
set_option maxHeartbeats 1000000 in
theorem sg_cn15 {d : Nat} {M : mm_M} {A : mm_M} {Mz : mm_M} {x : Int32} {y : Int32} {a : Int32} {e : Int32} {bd : Int32}  (hA : rv Mz = A) (hf : rf M Mz) (hb : bd = 0 → okx 3 x) : mm_Wp pg_Mo_crane rt_Mo_crane (ct_Sem (d + 1)) (Mz, 15, [some (.inr (5, 24)), some (.inl x), some (.inl y), some (.inl a), some (.inl e), some (.inl bd), none, none], []) (rQ M (none) (f_cn15 A x y a e bd).2) := by
  refine wgo (g' := (Mz, 20, [some (.inr (5, 24)), some (.inl x), some (.inl y), some (.inl a), some (.inl e), some (.inl bd), none, none], [.inl 200, .inl 0, .inl a])) [oz 0, oz 0, oz 0] rfl ⟨trivial, trivial, trivial, trivial⟩ ?_
  have s1 := sm_Mo_in (d := d)  (M := Mz) (v := a) (a := 0) (e := 200) 
  refine wgo (g' := (Mz, 23, [some (.inr (5, 24)), some (.inl x), some (.inl y), some (.inl a), some (.inl e), some (.inl bd), none, none], [.inl (f_Mo_in a 0 200)])) [oc (some (f_Mo_in a 0 200), Mz)] rfl ⟨⟨s1, Nat.le_of_ble_eq_true rfl, Nat.le_of_ble_eq_true rfl, trivial⟩, trivial⟩ ?_
  by_cases h2 : (f_Mo_in a 0 200) = 0
  · have k3 : (f_Mo_in a 0 200) = 0 := by
      have q : (f_Mo_in a 0 200) = 0 := h2
      first | exact q | (simp only [hA] at q; exact q)
    refine wgo (g' := (Mz, 55, [some (.inr (5, 24)), some (.inl x), some (.inl y), some (.inl a), some (.inl e), some (.inl bd), some (.inl 1), none], [])) [oz 1, oz 0, oz 0, oz 0] rfl ⟨h2, trivial, trivial, Nat.le_of_ble_eq_true rfl, trivial⟩ ?_
    have x4 : f_cn15 A x y a e bd = f_cn55 (A) x y a e bd 1 := by
      unfold f_cn15
      rw [if_pos k3]
    rw [x4]
    exact sg_cn55 (d := d)  (M := M) (Mz := Mz) (x := x) (y := y) (a := a) (e := e) (bd := bd) (rg := 1)  hA hf hb
  · have k5 : ¬ ((f_Mo_in a 0 200) = 0) := by
      have q : ¬ ((f_Mo_in a 0 200) = 0) := h2
      first | exact q | (simp only [hA] at q; exact q)
    refine wgo (g' := (Mz, 32, [some (.inr (5, 24)), some (.inl x), some (.inl y), some (.inl a), some (.inl e), some (.inl bd), none, none], [.inl 200, .inl 0, .inl e])) [oz 0, oz 0, oz 0, oz 0] rfl ⟨h2, trivial, trivial, trivial, trivial⟩ ?_
    have s6 := sm_Mo_in (d := d)  (M := Mz) (v := e) (a := 0) (e := 200) 
    refine wgo (g' := (Mz, 35, [some (.inr (5, 24)), some (.inl x), some (.inl y), some (.inl a), some (.inl e), some (.inl bd), none, none], [.inl (f_Mo_in e 0 200)])) [oc (some (f_Mo_in e 0 200), Mz)] rfl ⟨⟨s6, Nat.le_of_ble_eq_true rfl, Nat.le_of_ble_eq_true rfl, trivial⟩, trivial⟩ ?_
    by_cases h7 : (f_Mo_in e 0 200) = 0
    · have k8 : (f_Mo_in e 0 200) = 0 := by
        have q : (f_Mo_in e 0 200) = 0 := h7
        first | exact q | (simp only [hA] at q; exact q)
      refine wgo (g' := (Mz, 55, [some (.inr (5, 24)), some (.inl x), some (.inl y), some (.inl a), some (.inl e), some (.inl bd), some (.inl 1), none], [])) [oz 1, oz 0, oz 0, oz 0] rfl ⟨h7, trivial, trivial, Nat.le_of_ble_eq_true rfl, trivial⟩ ?_
      have x9 : f_cn15 A x y a e bd = f_cn55 (A) x y a e bd 1 := by
        unfold f_cn15
        rw [if_neg k5, if_pos k8]
      rw [x9]
      exact sg_cn55 (d := d)  (M := M) (Mz := Mz) (x := x) (y := y) (a := a) (e := e) (bd := bd) (rg := 1)  hA hf hb
    · have k10 : ¬ ((f_Mo_in e 0 200) = 0) := by
        have q : ¬ ((f_Mo_in e 0 200) = 0) := h7
        first | exact q | (simp only [hA] at q; exact q)
      refine wgo (g' := (Mz, 42, [some (.inr (5, 24)), some (.inl x), some (.inl y), some (.inl a), some (.inl e), some (.inl bd), none, none], [.inl e, .inl a, .inl y])) [oz 0, oz 0, oz 0, oz 0] rfl ⟨h7, trivial, trivial, trivial, trivial⟩ ?_
      have s11 := sm_Mo_in (d := d)  (M := Mz) (v := y) (a := a) (e := e) 
      refine wgo (g' := (Mz, 45, [some (.inr (5, 24)), some (.inl x), some (.inl y), some (.inl a), some (.inl e), some (.inl bd), none, none], [.inl (f_Mo_in y a e)])) [oc (some (f_Mo_in y a e), Mz)] rfl ⟨⟨s11, Nat.le_of_ble_eq_true rfl, Nat.le_of_ble_eq_true rfl, trivial⟩, trivial⟩ ?_
      by_cases h12 : (f_Mo_in y a e) = 0
      · have k13 : (f_Mo_in y a e) = 0 := by
          have q : (f_Mo_in y a e) = 0 := h12
          first | exact q | (simp only [hA] at q; exact q)
        refine wgo (g' := (Mz, 55, [some (.inr (5, 24)), some (.inl x), some (.inl y), some (.inl a), some (.inl e), some (.inl bd), some (.inl 1), none], [])) [oz 0, oz 0, oz 0, oz 0] rfl ⟨(fun z => z h12), trivial, trivial, Nat.le_of_ble_eq_true rfl, trivial⟩ ?_
        have x14 : f_cn15 A x y a e bd = f_cn55 (A) x y a e bd 1 := by
          unfold f_cn15
          rw [if_neg k5, if_neg k10, if_pos k13]
        rw [x14]
        exact sg_cn55 (d := d)  (M := M) (Mz := Mz) (x := x) (y := y) (a := a) (e := e) (bd := bd) (rg := 1)  hA hf hb
      · have k15 : ¬ ((f_Mo_in y a e) = 0) := by
          have q : ¬ ((f_Mo_in y a e) = 0) := h12
          first | exact q | (simp only [hA] at q; exact q)
        refine wgo (g' := (Mz, 55, [some (.inr (5, 24)), some (.inl x), some (.inl y), some (.inl a), some (.inl e), some (.inl bd), some (.inl 0), none], [])) [oz 1, oz 0, oz 0] rfl ⟨h12, trivial, Nat.le_of_ble_eq_true rfl, trivial⟩ ?_
        have x16 : f_cn15 A x y a e bd = f_cn55 (A) x y a e bd 0 := by
          unfold f_cn15
          rw [if_neg k5, if_neg k10, if_neg k15]
        rw [x16]
        exact sg_cn55 (d := d)  (M := M) (Mz := Mz) (x := x) (y := y) (a := a) (e := e) (bd := bd) (rg := 0)  hA hf hb
def f_Mo_crane (A : mm_M) (x : Int32) (y : Int32) (a : Int32) (e : Int32) : Int32 × mm_M := (if (f_Mo_isCrane (A) x) = 0 then (f_cn15 (A) x y a e 1) else (f_cn15 (A) x y a e 0))
set_option maxRecDepth 20000 in
set_option maxHeartbeats 1000000 in
theorem rs_Mo_crane {d : Nat} {M : mm_M} {x : Int32} {y : Int32} {a : Int32} {e : Int32}  {n : Nat} (hn3 : n ≤ 3) (hn : rv M 0 1 = nI n) : RS (d + 3) 43  M [.inr (5, 24), .inl x, .inl y, .inl a, .inl e] (none) (f_Mo_crane (rv M) x y a e).2 := by
  refine RS_of (Nat.le_of_ble_eq_true rfl) ?_
  show mm_Wp pg_Mo_crane rt_Mo_crane (ct_Sem (d + 2)) (M, 0, [some (.inr (5, 24)), some (.inl x), some (.inl y), some (.inl a), some (.inl e), none, none, none], []) _
  refine wgo (g' := (M, 2, [some (.inr (5, 24)), some (.inl x), some (.inl y), some (.inl a), some (.inl e), none, none, none], [.inl x, .inr (5, 24)])) [oz 0, oz 0] rfl ⟨trivial, trivial, trivial⟩ ?_
  have s1 := sm_Mo_isCrane (d := d)  (M := M) (c := x) 
  refine wgo (g' := (M, 5, [some (.inr (5, 24)), some (.inl x), some (.inl y), some (.inl a), some (.inl e), none, none, none], [.inl (f_Mo_isCrane (rv M) x)])) [oc (some (f_Mo_isCrane (rv M) x), M)] rfl ⟨⟨s1, Nat.le_of_ble_eq_true rfl, Nat.le_of_ble_eq_true rfl, ⟨_, rfl⟩⟩, trivial⟩ ?_
  by_cases h2 : (f_Mo_isCrane (rv M) x) = 0
  · have k3 : (f_Mo_isCrane ((rv M)) x) = 0 := by
      have q : (f_Mo_isCrane (rv M) x) = 0 := h2
      exact q
    refine wgo (g' := (M, 15, [some (.inr (5, 24)), some (.inl x), some (.inl y), some (.inl a), some (.inl e), some (.inl 1), none, none], [])) [oz 0, oz 0, oz 0, oz 0] rfl ⟨(fun z => z h2), trivial, trivial, Nat.le_of_ble_eq_true rfl, trivial⟩ ?_
    have x4 : f_Mo_crane (rv M) x y a e = f_cn15 ((rv M)) x y a e 1 := by
      unfold f_Mo_crane
      rw [if_pos k3]
    rw [x4]
    exact sg_cn15 (d := d + 1)  (M := M) (Mz := M) (x := x) (y := y) (a := a) (e := e) (bd := 1)  rfl rf_rf (fun z => absurd z (by decide))
  · have k5 : ¬ ((f_Mo_isCrane ((rv M)) x) = 0) := by
      have q : ¬ ((f_Mo_isCrane (rv M) x) = 0) := h2
      exact q
    refine wgo (g' := (M, 15, [some (.inr (5, 24)), some (.inl x), some (.inl y), some (.inl a), some (.inl e), some (.inl 0), none, none], [])) [oz 1, oz 0, oz 0] rfl ⟨h2, trivial, Nat.le_of_ble_eq_true rfl, trivial⟩ ?_
    have x6 : f_Mo_crane (rv M) x y a e = f_cn15 ((rv M)) x y a e 0 := by
      unfold f_Mo_crane
      rw [if_neg k5]
    rw [x6]
    exact sg_cn15 (d := d + 1)  (M := M) (Mz := M) (x := x) (y := y) (a := a) (e := e) (bd := 0)  rfl rf_rf (fun _ => okC hn3 hn k5)
