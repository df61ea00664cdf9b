/-! THE REFERENCE SEEN: rows 0 its own numbers, 1 low, 2 high, 3 all, 4 kept, 5 way, 6 best -/
def rv (M : mm_M) : mm_M := fun r k => if r < 7 then M (24 + r) k else 0
theorem rw_up {M : mm_M} {o n : Nat} {r k : Nat} {v : Int32} (hr : r < n) : (fun j q => if j < n then mm_up M (o + r) k v (o + j) q else 0) = mm_up (fun j q => if j < n then M (o + j) q else 0) r k v := by
  funext j q
  by_cases h : j = r
  · subst h
    by_cases hq : q = k
    · subst hq; simp [mm_up, hr]
    · simp [mm_up, hr, hq]
  · have h2 : ¬ (o + j = o + r) := by omega
    simp [mm_up, h]
theorem rv_up (r : Nat) {M : mm_M} {k : Nat} {v : Int32} (hr : r < 7 := by decide) : rv (mm_up M (24 + r) k v) = mm_up (rv M) r k v := rw_up (o := 24) (n := 7) hr
def rf (M M' : mm_M) : Prop := ∀ i, ¬ (24 ≤ i ∧ i ≤ 30) → M' i = M i
theorem rf_rf {M : mm_M} : rf M M := fun _ _ => rfl
theorem rf_tr {M M1 M2 : mm_M} (h : rf M M1) (h2 : rf M1 M2) : rf M M2 := fun i hi => (h2 i hi).trans (h i hi)
theorem rf_up {i k : Nat} {v : Int32} {M M1 : mm_M} (h : rf M M1) (hi : 24 ≤ i ∧ i ≤ 30) : rf M (mm_up M1 i k v) := fun j hj => by
  have hne : j ≠ i := fun e => hj (by rw [e]; exact hi)
  rw [mm_up_z hne]
  exact h j hj
def RS (d z : Nat) (M : mm_M) (as : List mm_V) (r : Option Int32) (A' : mm_M) : Prop := ∃ M', ct_Sem d z M as (r, M') ∧ rv M' = A' ∧ rf M M'
def rQ (M : mm_M) (r : Option Int32) (A' : mm_M) : mm_R → Prop := fun res => res.1 = r ∧ rv res.2 = A' ∧ rf M res.2
theorem RS_of {d z : Nat} {M : mm_M} {as : List mm_V} {r : Option Int32} {A' : mm_M} (hn : as.length ≤ ct_T.2.2.1 z) (h : mm_Wp (ct_pg z) (ct_rt z) (ct_Sem d) (M, 0, as.map some ++ List.replicate (ct_T.2.2.1 z - as.length) none, []) (rQ M r A')) : RS (d + 1) z M as r A' := by
  obtain ⟨⟨r1, M1⟩, h1, h2, h3, h4⟩ := h
  simp only at h2 h3 h4
  subst h2
  exact ⟨M1, ⟨hn, h1⟩, h3, h4⟩
theorem ix_c {c w : Nat} : (10 : Int32) + 10 * nI c + nI w = nI (10 + 10 * c + w) := by
  rw [show (10 : Int32) = nI 10 from rfl, pk_mul, nI_add, nI_add]
theorem ix_j {j w : Nat} : (50 : Int32) + 7 * nI j + nI w = nI (50 + 7 * j + w) := by
  rw [show (50 : Int32) = nI 50 from rfl, show (7 : Int32) = nI 7 from rfl, pk_mul, nI_add, nI_add]
def f_Mo_in  (v : Int32) (a : Int32) (e : Int32) : Int32 := (if v < a then 0 else (if e < v then 0 else 1))
set_option maxRecDepth 20000 in
set_option maxHeartbeats 1000000 in
theorem sm_Mo_in {d : Nat} {M : mm_M} {v : Int32} {a : Int32} {e : Int32}  : ct_Sem (d + 1) 35 M [.inl v, .inl a, .inl e] (some (f_Mo_in  v a e), M) := by
  refine SM_of (Nat.le_of_ble_eq_true rfl) ?_
  show mm_Wp pg_Mo_in rt_Mo_in (ct_Sem (d + 0)) (M, 0, [some (.inl v), some (.inl a), some (.inl e)], []) _
  refine wgo (g' := (M, 2, [some (.inl v), some (.inl a), some (.inl e)], [.inl a, .inl v])) [oz 0, oz 0] rfl ⟨trivial, trivial, trivial⟩ ?_
  by_cases h1 : v < a
  · have k2 : v < a := by
      have q : v < a := h1
      exact q
    refine wgo (g' := (M, 15, [some (.inl v), some (.inl a), some (.inl e)], [.inl 0])) [oz 1, oz 0] rfl ⟨h1, trivial, trivial⟩ ?_
    have x3 : f_Mo_in  v a e = 0 := by
      unfold f_Mo_in
      rw [if_pos k2]
    exact wend ⟨_, rfl, rfl, Or.inl rfl⟩ (congrArg (fun q => (some q, M)) x3.symm)
  · have k4 : ¬ (v < a) := by
      have q : ¬ (v < a) := h1
      exact q
    refine wgo (g' := (M, 7, [some (.inl v), some (.inl a), some (.inl e)], [.inl e, .inl v])) [oz 0, oz 0, oz 0] rfl ⟨h1, trivial, trivial, trivial⟩ ?_
    by_cases h5 : e < v
    · have k6 : e < v := by
        have q : e < v := h5
        exact q
      refine wgo (g' := (M, 15, [some (.inl v), some (.inl a), some (.inl e)], [.inl 0])) [oz 1, oz 0] rfl ⟨h5, trivial, trivial⟩ ?_
      have x7 : f_Mo_in  v a e = 0 := by
        unfold f_Mo_in
        rw [if_neg k4, if_pos k6]
      exact wend ⟨_, rfl, rfl, Or.inl rfl⟩ (congrArg (fun q => (some q, M)) x7.symm)
    · have k8 : ¬ (e < v) := by
        have q : ¬ (e < v) := h5
        exact q
      refine wgo (g' := (M, 15, [some (.inl v), some (.inl a), some (.inl e)], [.inl 1])) [oz 0, oz 0, oz 0] rfl ⟨h5, trivial, trivial, trivial⟩ ?_
      have x9 : f_Mo_in  v a e = 1 := by
        unfold f_Mo_in
        rw [if_neg k4, if_neg k8]
      exact wend ⟨_, rfl, rfl, Or.inr rfl⟩ (congrArg (fun q => (some q, M)) x9.symm)
theorem f_Mo_in01 (v a e : Int32) : f_Mo_in v a e = 0 ∨ f_Mo_in v a e = 1 := by
  unfold f_Mo_in
  split
  · exact Or.inl rfl
  · split
    · exact Or.inl rfl
    · exact Or.inr rfl
def f_Mo_thrown (A : mm_M)  : Int32 := (A) 0 0
set_option maxRecDepth 20000 in
set_option maxHeartbeats 1000000 in
theorem sm_Mo_thrown {d : Nat} {M : mm_M}   : ct_Sem (d + 1) 33 M [.inr (5, 24)] (some (f_Mo_thrown (rv M) ), M) := by
  refine SM_of (Nat.le_of_ble_eq_true rfl) ?_
  show mm_Wp pg_Mo_thrown rt_Mo_thrown (ct_Sem (d + 0)) (M, 0, [some (.inr (5, 24))], []) _
  refine wgo (g' := (M, 4, [some (.inr (5, 24))], [.inl (M 24 0)])) [oz 0, oz 0] rfl ⟨trivial, trivial, trivial⟩ ?_
  have x1 : f_Mo_thrown (rv M) = ((rv M)) 0 0 := by
    unfold f_Mo_thrown
    rfl
  exact wend ⟨_, rfl, rfl⟩ (congrArg (fun q => (some q, M)) x1.symm)
def f_Mo_ofCrane (A : mm_M) (c : Nat) (w : Nat) : Int32 := (A) 3 (10 + 10 * c + w)
set_option maxRecDepth 20000 in
set_option maxHeartbeats 1000000 in
theorem sm_Mo_ofCrane {d : Nat} {M : mm_M} {c : Nat} {w : Nat} (hx : 10 + 10 * c + w < 110) : ct_Sem (d + 1) 38 M [.inr (5, 24), .inl (nI c), .inl (nI w)] (some (f_Mo_ofCrane (rv M) c w), M) := by
  refine SM_of (Nat.le_of_ble_eq_true rfl) ?_
  show mm_Wp pg_Mo_ofCrane rt_Mo_ofCrane (ct_Sem (d + 0)) (M, 0, [some (.inr (5, 24)), some (.inl (nI c)), some (.inl (nI w))], []) _
  refine wgo (g' := (M, 14, [some (.inr (5, 24)), some (.inl (nI c)), some (.inl (nI w))], [.inl (M 27 (10 + 10 * c + w))])) [oz 0, oz 0, oz 0, oz 0, oz 0, oz 0, oz 0, oz 0, oz 0, oz (10 + 10 * c + w)] rfl ⟨trivial, trivial, trivial, trivial, trivial, trivial, trivial, trivial, trivial, ⟨ix_c, hx⟩, trivial⟩ ?_
  have x1 : f_Mo_ofCrane (rv M) c w = ((rv M)) 3 (10 + 10 * c + w) := by
    unfold f_Mo_ofCrane
    rfl
  exact wend ⟨_, rfl, rfl⟩ (congrArg (fun q => (some q, M)) x1.symm)
def f_Mo_ofJob (A : mm_M) (j : Nat) (w : Nat) : Int32 := (A) 3 (50 + 7 * j + w)
set_option maxRecDepth 20000 in
set_option maxHeartbeats 1000000 in
theorem sm_Mo_ofJob {d : Nat} {M : mm_M} {j : Nat} {w : Nat} (hx : 50 + 7 * j + w < 110) : ct_Sem (d + 1) 40 M [.inr (5, 24), .inl (nI j), .inl (nI w)] (some (f_Mo_ofJob (rv M) j w), M) := by
  refine SM_of (Nat.le_of_ble_eq_true rfl) ?_
  show mm_Wp pg_Mo_ofJob rt_Mo_ofJob (ct_Sem (d + 0)) (M, 0, [some (.inr (5, 24)), some (.inl (nI j)), some (.inl (nI w))], []) _
  refine wgo (g' := (M, 14, [some (.inr (5, 24)), some (.inl (nI j)), some (.inl (nI w))], [.inl (M 27 (50 + 7 * j + w))])) [oz 0, oz 0, oz 0, oz 0, oz 0, oz 0, oz 0, oz 0, oz 0, oz (50 + 7 * j + w)] rfl ⟨trivial, trivial, trivial, trivial, trivial, trivial, trivial, trivial, trivial, ⟨ix_j, hx⟩, trivial⟩ ?_
  have x1 : f_Mo_ofJob (rv M) j w = ((rv M)) 3 (50 + 7 * j + w) := by
    unfold f_Mo_ofJob
    rfl
  exact wend ⟨_, rfl, rfl⟩ (congrArg (fun q => (some q, M)) x1.symm)
def f_Mo_setCrane (A : mm_M) (c : Nat) (w : Nat) (x : Int32) : Int32 × mm_M := (0, mm_up (A) 3 (10 + 10 * c + w) x)
set_option maxRecDepth 20000 in
set_option maxHeartbeats 1000000 in
theorem rs_Mo_setCrane {d : Nat} {M : mm_M} {c : Nat} {w : Nat} {x : Int32}  (hx : 10 + 10 * c + w < 110) : RS (d + 1) 39  M [.inr (5, 24), .inl (nI c), .inl (nI w), .inl x] (none) (f_Mo_setCrane (rv M) c w x).2 := by
  refine RS_of (Nat.le_of_ble_eq_true rfl) ?_
  show mm_Wp pg_Mo_setCrane rt_Mo_setCrane (ct_Sem (d + 0)) (M, 0, [some (.inr (5, 24)), some (.inl (nI c)), some (.inl (nI w)), some (.inl x)], []) _
  refine wgo (g' := (mm_up M 27 (10 + 10 * c + w) x, 15, [some (.inr (5, 24)), some (.inl (nI c)), some (.inl (nI w)), some (.inl x)], [])) [oz 0, oz 0, oz 0, oz 0, oz 0, oz 0, oz 0, oz 0, oz 0, oz 0, oz (10 + 10 * c + w)] rfl ⟨trivial, trivial, trivial, trivial, trivial, trivial, trivial, trivial, trivial, trivial, ⟨ix_c, hx⟩, trivial⟩ ?_
  generalize e2 : mm_up M 27 (10 + 10 * c + w) x = M1
  have a3 : rv M1 = mm_up ((rv M)) 3 (10 + 10 * c + w) x := by
    rw [← e2]
    refine (rv_up 3).trans ?_
    show mm_up ((rv M)) 3 (10 + 10 * c + w) x = _
    rfl
  have w4 : rf M M1 := by rw [← e2]; exact rf_up rf_rf (by decide)
  have x5 : f_Mo_setCrane (rv M) c w x = (0, mm_up ((rv M)) 3 (10 + 10 * c + w) x) := by
    unfold f_Mo_setCrane
    rfl
  exact wend ⟨rfl, rfl⟩ ⟨rfl, a3.trans (congrArg Prod.snd x5).symm, w4⟩
def f_Mo_setJob (A : mm_M) (j : Nat) (w : Nat) (x : Int32) : Int32 × mm_M := (0, mm_up (A) 3 (50 + 7 * j + w) x)
set_option maxRecDepth 20000 in
set_option maxHeartbeats 1000000 in
theorem rs_Mo_setJob {d : Nat} {M : mm_M} {j : Nat} {w : Nat} {x : Int32}  (hx : 50 + 7 * j + w < 110) : RS (d + 1) 41  M [.inr (5, 24), .inl (nI j), .inl (nI w), .inl x] (none) (f_Mo_setJob (rv M) j w x).2 := by
  refine RS_of (Nat.le_of_ble_eq_true rfl) ?_
  show mm_Wp pg_Mo_setJob rt_Mo_setJob (ct_Sem (d + 0)) (M, 0, [some (.inr (5, 24)), some (.inl (nI j)), some (.inl (nI w)), some (.inl x)], []) _
  refine wgo (g' := (mm_up M 27 (50 + 7 * j + w) x, 15, [some (.inr (5, 24)), some (.inl (nI j)), some (.inl (nI w)), some (.inl x)], [])) [oz 0, oz 0, oz 0, oz 0, oz 0, oz 0, oz 0, oz 0, oz 0, oz 0, oz (50 + 7 * j + w)] rfl ⟨trivial, trivial, trivial, trivial, trivial, trivial, trivial, trivial, trivial, trivial, ⟨ix_j, hx⟩, trivial⟩ ?_
  generalize e2 : mm_up M 27 (50 + 7 * j + w) x = M1
  have a3 : rv M1 = mm_up ((rv M)) 3 (50 + 7 * j + w) x := by
    rw [← e2]
    refine (rv_up 3).trans ?_
    show mm_up ((rv M)) 3 (50 + 7 * j + w) x = _
    rfl
  have w4 : rf M M1 := by rw [← e2]; exact rf_up rf_rf (by decide)
  have x5 : f_Mo_setJob (rv M) j w x = (0, mm_up ((rv M)) 3 (50 + 7 * j + w) x) := by
    unfold f_Mo_setJob
    rfl
  exact wend ⟨rfl, rfl⟩ ⟨rfl, a3.trans (congrArg Prod.snd x5).symm, w4⟩
def f_Mo_isCrane (A : mm_M) (c : Int32) : Int32 := f_Mo_in c 0 (((A) 0 1) - 1)
set_option maxRecDepth 20000 in
set_option maxHeartbeats 1000000 in
theorem sm_Mo_isCrane {d : Nat} {M : mm_M} {c : Int32}  : ct_Sem (d + 2) 36 M [.inr (5, 24), .inl c] (some (f_Mo_isCrane (rv M) c), M) := by
  refine SM_of (Nat.le_of_ble_eq_true rfl) ?_
  show mm_Wp pg_Mo_isCrane rt_Mo_isCrane (ct_Sem (d + 1)) (M, 0, [some (.inr (5, 24)), some (.inl c)], []) _
  refine wgo (g' := (M, 8, [some (.inr (5, 24)), some (.inl c)], [.inl ((M 24 1) - 1), .inl 0, .inl c])) [oz 0, oz 0, oz 0, oz 0, oz 0, oz 0] rfl ⟨trivial, trivial, trivial, trivial, trivial, trivial, trivial⟩ ?_
  have s1 := sm_Mo_in (d := d)  (M := M) (v := c) (a := 0) (e := (M 24 1) - 1) 
  refine wgo (g' := (M, 11, [some (.inr (5, 24)), some (.inl c)], [.inl (f_Mo_in c 0 ((M 24 1) - 1))])) [oc (some (f_Mo_in c 0 ((M 24 1) - 1)), M)] rfl ⟨⟨s1, Nat.le_of_ble_eq_true rfl, Nat.le_of_ble_eq_true rfl, trivial⟩, trivial⟩ ?_
  have x2 : f_Mo_isCrane (rv M) c = f_Mo_in c 0 ((((rv M)) 0 1) - 1) := by
    unfold f_Mo_isCrane
    rfl
  exact wend ⟨_, rfl, rfl, f_Mo_in01 _ _ _⟩ (congrArg (fun q => (some q, M)) x2.symm)
def f_Mo_isJob (A : mm_M) (j : Int32) : Int32 := f_Mo_in j 0 (((A) 0 5) - 1)
set_option maxRecDepth 20000 in
set_option maxHeartbeats 1000000 in
theorem sm_Mo_isJob {d : Nat} {M : mm_M} {j : Int32}  : ct_Sem (d + 2) 37 M [.inr (5, 24), .inl j] (some (f_Mo_isJob (rv M) j), M) := by
  refine SM_of (Nat.le_of_ble_eq_true rfl) ?_
  show mm_Wp pg_Mo_isJob rt_Mo_isJob (ct_Sem (d + 1)) (M, 0, [some (.inr (5, 24)), some (.inl j)], []) _
  refine wgo (g' := (M, 8, [some (.inr (5, 24)), some (.inl j)], [.inl ((M 24 5) - 1), .inl 0, .inl j])) [oz 0, oz 0, oz 0, oz 0, oz 0, oz 0] rfl ⟨trivial, trivial, trivial, trivial, trivial, trivial, trivial⟩ ?_
  have s1 := sm_Mo_in (d := d)  (M := M) (v := j) (a := 0) (e := (M 24 5) - 1) 
  refine wgo (g' := (M, 11, [some (.inr (5, 24)), some (.inl j)], [.inl (f_Mo_in j 0 ((M 24 5) - 1))])) [oc (some (f_Mo_in j 0 ((M 24 5) - 1)), M)] rfl ⟨⟨s1, Nat.le_of_ble_eq_true rfl, Nat.le_of_ble_eq_true rfl, trivial⟩, trivial⟩ ?_
  have x2 : f_Mo_isJob (rv M) j = f_Mo_in j 0 ((((rv M)) 0 5) - 1) := by
    unfold f_Mo_isJob
    rfl
  exact wend ⟨_, rfl, rfl, f_Mo_in01 _ _ _⟩ (congrArg (fun q => (some q, M)) x2.symm)
def f_thr (A : mm_M) (p1 : Int32) (p2 : Int32) (p3 : Int32) (p4 : Int32) (t : Int32) : Int32 × mm_M := (if ((mm_up (A) 0 0 t) 0 0) ≤ 0 then (0, mm_up (A) 0 0 t) else (1, mm_up (A) 0 0 t))
set_option maxRecDepth 20000 in
set_option maxHeartbeats 1000000 in
theorem sg_thr {d : Nat} {M : mm_M} {A : mm_M} {Mz : mm_M} {p1 : Int32} {p2 : Int32} {p3 : Int32} {p4 : Int32} {t : Int32}  (hA : rv Mz = A) (hf : rf M Mz)  : mm_Wp pg_Mo_throwing rt_Mo_throwing (ct_Sem (d + 0)) (Mz, 35, [some (.inr (5, 24)), some (.inl p1), some (.inl p2), some (.inl p3), some (.inl p4)], [.inl t, .inr (5, 24)]) (rQ M (some (f_thr A p1 p2 p3 p4 t).1) (f_thr A p1 p2 p3 p4 t).2) := by
  refine wgo (g' := (mm_up Mz 24 0 t, 38, [some (.inr (5, 24)), some (.inl p1), some (.inl p2), some (.inl p3), some (.inl p4)], [])) [oz 0] rfl ⟨trivial, trivial⟩ ?_
  generalize e2 : mm_up Mz 24 0 t = M1
  have a3 : rv M1 = mm_up (A) 0 0 t := by
    rw [← e2]
    refine (rv_up 0).trans ?_
    show mm_up ((rv Mz)) 0 0 t = _
    first | rfl | simp only [hA]
  have w4 : rf M M1 := by rw [← e2]; exact rf_up hf (by decide)
  refine wgo (g' := (M1, 42, [some (.inr (5, 24)), some (.inl p1), some (.inl p2), some (.inl p3), some (.inl p4)], [.inl (M1 24 0)])) [oz 0, oz 0] rfl ⟨trivial, trivial, trivial⟩ ?_
  by_cases h5 : (M1 24 0) ≤ 0
  · have k6 : ((mm_up (A) 0 0 t) 0 0) ≤ 0 := by
      have q : ((rv M1) 0 0) ≤ 0 := h5
      first | exact q | (simp only [hA, a3] at q; exact q)
    refine wgo (g' := (M1, 50, [some (.inr (5, 24)), some (.inl p1), some (.inl p2), some (.inl p3), some (.inl p4)], [.inl 0])) [oz 1, oz 0] rfl ⟨h5, trivial, trivial⟩ ?_
    have x7 : f_thr A p1 p2 p3 p4 t = (0, mm_up (A) 0 0 t) := by
      unfold f_thr
      rw [if_pos k6]
    exact wend ⟨_, rfl, rfl, Or.inl rfl⟩ ⟨congrArg some ((show (0 : Int32) = 0 from by first | rfl | simp only [hA, a3]).trans (congrArg Prod.fst x7).symm), a3.trans (congrArg Prod.snd x7).symm, w4⟩
  · have k8 : ¬ (((mm_up (A) 0 0 t) 0 0) ≤ 0) := by
      have q : ¬ (((rv M1) 0 0) ≤ 0) := h5
      first | exact q | (simp only [hA, a3] at q; exact q)
    refine wgo (g' := (M1, 50, [some (.inr (5, 24)), some (.inl p1), some (.inl p2), some (.inl p3), some (.inl p4)], [.inl 1])) [oz 0, oz 0, oz 0] rfl ⟨h5, trivial, trivial, trivial⟩ ?_
    have x9 : f_thr A p1 p2 p3 p4 t = (1, mm_up (A) 0 0 t) := by
      unfold f_thr
      rw [if_neg k8]
    exact wend ⟨_, rfl, rfl, Or.inr rfl⟩ ⟨congrArg some ((show (1 : Int32) = 1 from by first | rfl | simp only [hA, a3]).trans (congrArg Prod.fst x9).symm), a3.trans (congrArg Prod.snd x9).symm, w4⟩
def f_Mo_throwing (A : mm_M) (p1 : Int32) (p2 : Int32) (p3 : Int32) (p4 : Int32) : Int32 × mm_M := (if p1 = 0 then (if p2 = 0 then (if p3 = 0 then (if p4 = 0 then (f_thr (A) p1 p2 p3 p4 0) else (f_thr (A) p1 p2 p3 p4 4)) else (f_thr (A) p1 p2 p3 p4 3)) else (f_thr (A) p1 p2 p3 p4 2)) else (f_thr (A) p1 p2 p3 p4 1))
set_option maxRecDepth 20000 in
set_option maxHeartbeats 1000000 in
theorem rs_Mo_throwing {d : Nat} {M : mm_M} {p1 : Int32} {p2 : Int32} {p3 : Int32} {p4 : Int32}   : RS (d + 1) 34  M [.inr (5, 24), .inl p1, .inl p2, .inl p3, .inl p4] (some (f_Mo_throwing (rv M) p1 p2 p3 p4).1) (f_Mo_throwing (rv M) p1 p2 p3 p4).2 := by
  refine RS_of (Nat.le_of_ble_eq_true rfl) ?_
  show mm_Wp pg_Mo_throwing rt_Mo_throwing (ct_Sem (d + 0)) (M, 0, [some (.inr (5, 24)), some (.inl p1), some (.inl p2), some (.inl p3), some (.inl p4)], []) _
  refine wgo (g' := (M, 2, [some (.inr (5, 24)), some (.inl p1), some (.inl p2), some (.inl p3), some (.inl p4)], [.inl p1, .inr (5, 24)])) [oz 0, oz 0] rfl ⟨trivial, trivial, trivial⟩ ?_
  by_cases h1 : p1 = 0
  · have k2 : p1 = 0 := by
      have q : p1 = 0 := h1
      exact q
    refine wgo (g' := (M, 10, [some (.inr (5, 24)), some (.inl p1), some (.inl p2), some (.inl p3), some (.inl p4)], [.inl p2, .inr (5, 24)])) [oz 1, oz 0] rfl ⟨h1, trivial, trivial⟩ ?_
    by_cases h3 : p2 = 0
    · have k4 : p2 = 0 := by
        have q : p2 = 0 := h3
        exact q
      refine wgo (g' := (M, 18, [some (.inr (5, 24)), some (.inl p1), some (.inl p2), some (.inl p3), some (.inl p4)], [.inl p3, .inr (5, 24)])) [oz 1, oz 0] rfl ⟨h3, trivial, trivial⟩ ?_
      by_cases h5 : p3 = 0
      · have k6 : p3 = 0 := by
          have q : p3 = 0 := h5
          exact q
        refine wgo (g' := (M, 27, [some (.inr (5, 24)), some (.inl p1), some (.inl p2), some (.inl p3), some (.inl p4)], [.inl p4, .inr (5, 24)])) [oz 1, oz 0] rfl ⟨h5, trivial, trivial⟩ ?_
        by_cases h7 : p4 = 0
        · have k8 : p4 = 0 := by
            have q : p4 = 0 := h7
            exact q
          refine wgo (g' := (M, 35, [some (.inr (5, 24)), some (.inl p1), some (.inl p2), some (.inl p3), some (.inl p4)], [.inl 0, .inr (5, 24)])) [oz 1, oz 0] rfl ⟨h7, trivial, trivial⟩ ?_
          have x9 : f_Mo_throwing (rv M) p1 p2 p3 p4 = f_thr ((rv M)) p1 p2 p3 p4 0 := by
            unfold f_Mo_throwing
            rw [if_pos k2, if_pos k4, if_pos k6, if_pos k8]
          rw [x9]
          exact sg_thr (d := d)  (M := M) (Mz := M) (p1 := p1) (p2 := p2) (p3 := p3) (p4 := p4) (t := 0)  rfl rf_rf 
        · have k10 : ¬ (p4 = 0) := by
            have q : ¬ (p4 = 0) := h7
            exact q
          refine wgo (g' := (M, 35, [some (.inr (5, 24)), some (.inl p1), some (.inl p2), some (.inl p3), some (.inl p4)], [.inl 4, .inr (5, 24)])) [oz 0, oz 0, oz 0] rfl ⟨h7, trivial, trivial, trivial⟩ ?_
          have x11 : f_Mo_throwing (rv M) p1 p2 p3 p4 = f_thr ((rv M)) p1 p2 p3 p4 4 := by
            unfold f_Mo_throwing
            rw [if_pos k2, if_pos k4, if_pos k6, if_neg k10]
          rw [x11]
          exact sg_thr (d := d)  (M := M) (Mz := M) (p1 := p1) (p2 := p2) (p3 := p3) (p4 := p4) (t := 4)  rfl rf_rf 
      · have k12 : ¬ (p3 = 0) := by
          have q : ¬ (p3 = 0) := h5
          exact q
        refine wgo (g' := (M, 35, [some (.inr (5, 24)), some (.inl p1), some (.inl p2), some (.inl p3), some (.inl p4)], [.inl 3, .inr (5, 24)])) [oz 0, oz 0, oz 0] rfl ⟨h5, trivial, trivial, trivial⟩ ?_
        have x13 : f_Mo_throwing (rv M) p1 p2 p3 p4 = f_thr ((rv M)) p1 p2 p3 p4 3 := by
          unfold f_Mo_throwing
          rw [if_pos k2, if_pos k4, if_neg k12]
        rw [x13]
        exact sg_thr (d := d)  (M := M) (Mz := M) (p1 := p1) (p2 := p2) (p3 := p3) (p4 := p4) (t := 3)  rfl rf_rf 
    · have k14 : ¬ (p2 = 0) := by
        have q : ¬ (p2 = 0) := h3
        exact q
      refine wgo (g' := (M, 35, [some (.inr (5, 24)), some (.inl p1), some (.inl p2), some (.inl p3), some (.inl p4)], [.inl 2, .inr (5, 24)])) [oz 0, oz 0, oz 0] rfl ⟨h3, trivial, trivial, trivial⟩ ?_
      have x15 : f_Mo_throwing (rv M) p1 p2 p3 p4 = f_thr ((rv M)) p1 p2 p3 p4 2 := by
        unfold f_Mo_throwing
        rw [if_pos k2, if_neg k14]
      rw [x15]
      exact sg_thr (d := d)  (M := M) (Mz := M) (p1 := p1) (p2 := p2) (p3 := p3) (p4 := p4) (t := 2)  rfl rf_rf 
  · have k16 : ¬ (p1 = 0) := by
      have q : ¬ (p1 = 0) := h1
      exact q
    refine wgo (g' := (M, 35, [some (.inr (5, 24)), some (.inl p1), some (.inl p2), some (.inl p3), some (.inl p4)], [.inl 1, .inr (5, 24)])) [oz 0, oz 0, oz 0] rfl ⟨h1, trivial, trivial, trivial⟩ ?_
    have x17 : f_Mo_throwing (rv M) p1 p2 p3 p4 = f_thr ((rv M)) p1 p2 p3 p4 1 := by
      unfold f_Mo_throwing
      rw [if_neg k16]
    rw [x17]
    exact sg_thr (d := d)  (M := M) (Mz := M) (p1 := p1) (p2 := p2) (p3 := p3) (p4 := p4) (t := 1)  rfl rf_rf 
