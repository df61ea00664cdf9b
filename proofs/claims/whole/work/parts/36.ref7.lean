theorem so_end {P : Nat → mm_M → Prop} {i m : Nat} {X : mm_M} (h : P i X) (hc : nI m ≤ nI i) (hi : i ≤ m) (hm : m < 2 ^ 31 := by omega) : P m X := by
  have e : i = m := by
    have := (nI_leI hm (by omega)).mp hc
    omega
  rw [← e]; exact h
def f_so2 : Nat → mm_M → Nat → Nat → Nat → Int32 × mm_M
  | 0, A, _, _, _ => (0, A)
  | r + 1, A, m, t, i => (if (nI m) ≤ (nI i) then (f_so3 301 (A) (nI m) t 0) else (f_so2 r ((f_Mo_giveTo (A) (ix ((A) 5 i) / 10) (ix ((A) 5 i) % 10)).2) m t (i + 1)))
set_option maxRecDepth 20000 in
set_option maxHeartbeats 1000000 in
theorem lp_so2 {d : Nat} {M : mm_M} {m : Nat} {t : Nat}   {n : Nat} {I : mm_M → Prop} {j : Nat} (hn3 : n ≤ 3) (hI0 : ∀ X, I X → X 0 1 = nI n) (hI1 : ∀ X i, I X → i < n → rone X n i) (hI2 : ∀ X i, I X → i < n → I (f_Mo_second X i).2) (hI3 : ∀ X, I X → I (f_Mo_secondOfAll X).2) (hI4 : ∀ X, I X → X 0 5 = nI j) (hj8 : j ≤ 8){P : Nat → mm_M → Prop} (hP2 : ∀ i X, P i X → i < m → P (i + 1) (f_Mo_giveTo X (ix (X 5 i) / 10) (ix (X 5 i) % 10)).2) (hP3 : ∀ X, P m X → I X) (hP5 : ∀ i X, P i X → i < m → okx 80 (X 5 i)) (hm : m ≤ 4) (ht : t ≤ 300) : ∀ (r : Nat) (A : mm_M) (Mz : mm_M) (i : Nat), rv Mz = A → rf M Mz → (P i A) → (i ≤ m) → (m < i + r) → mm_Wp pg_Mo_secondsOf rt_Mo_secondsOf (ct_Sem (d + 5)) (Mz, 28, [some (.inr (5, 24)), some (.inl (nI m)), some (.inl (nI t)), some (.inl (nI i)), none, none], []) (rQ M (some (f_so2 r A m t i).1) (f_so2 r A m t i).2) := by
  intro r
  induction r with
  | zero =>
    intro A Mz i hA hf hP hi hr
    exfalso; omega
  | succ r ih =>
    intro A Mz i hA hf hP hi hr
    refine wgo (g' := (Mz, 30, [some (.inr (5, 24)), some (.inl (nI m)), some (.inl (nI t)), some (.inl (nI i)), none, none], [.inl (nI m), .inl (nI i)])) [oz 0, oz 0] rfl ⟨trivial, trivial, trivial⟩ ?_
    by_cases h1 : (nI m) ≤ (nI i)
    · have k2 : (nI m) ≤ (nI i) := by
        have q : (nI m) ≤ (nI i) := h1
        first | exact q | (simp only [hA] at q; exact q)
      refine wgo (g' := (Mz, 63, [some (.inr (5, 24)), some (.inl (nI m)), some (.inl (nI t)), some (.inl 0), none, none], [])) [oz 1, oz 0, oz 0] rfl ⟨h1, trivial, Nat.le_of_ble_eq_true rfl, trivial⟩ ?_
      have x3 : f_so2 (r + 1) A m t i = f_so3 301 (A) (nI m) t 0 := by
        rw [f_so2]
        rw [if_pos k2]
      rw [x3]
      exact lp_so3 (d := d)  (M := M) (m := nI m) (t := t)  hn3 hI0 hI1 hI2 hI3 hI4 hj8 301 _ Mz 0  hA hf (hP3 _ (so_end hP k2 hi)) (Nat.zero_le _) ht (by omega)
    · have k4 : ¬ ((nI m) ≤ (nI i)) := by
        have q : ¬ ((nI m) ≤ (nI i)) := h1
        first | exact q | (simp only [hA] at q; exact q)
      refine wgo (g' := (Mz, 52, [some (.inr (5, 24)), some (.inl (nI m)), some (.inl (nI t)), some (.inl (nI i)), none, none], [.inl ((Mz 29 i) - (Mz 29 i) / 10 * 10), .inl ((Mz 29 i) / 10), .inr (5, 24)])) [oz 0, oz 0, oz 0, oz 0, oz 0, oz i, oz 0, oz 0, oz 0, oz 0, oz 0, oz i, oz 0, oz 0] rfl ⟨h1, trivial, trivial, trivial, trivial, ⟨rfl, (show i < 5 from by have q := (nI_sl (n := m) rfl (by omega) hi k4); omega)⟩, trivial, (by decide), trivial, trivial, trivial, ⟨rfl, (show i < 5 from by have q := (nI_sl (n := m) rfl (by omega) hi k4); omega)⟩, trivial, (by decide), trivial⟩ ?_
      obtain ⟨M5, s6, a7, w8⟩ := rs_Mo_giveTo (d := d + 3)  (M := Mz) (j := ix (Mz 29 i) / 10) (c := ix (Mz 29 i) % 10)  (by have q := (show okx 80 (Mz 29 i) from (show okx 80 (rv Mz 5 i) from by rw [hA]; exact hP5 _ _ hP (nI_sl (n := m) rfl (by omega) hi k4))).2; omega)
      rw [← (dv10 (show okx 80 (Mz 29 i) from (show okx 80 (rv Mz 5 i) from by rw [hA]; exact hP5 _ _ hP (nI_sl (n := m) rfl (by omega) hi k4))))] at s6
      rw [← (rm10 (show okx 80 (Mz 29 i) from (show okx 80 (rv Mz 5 i) from by rw [hA]; exact hP5 _ _ hP (nI_sl (n := m) rfl (by omega) hi k4))))] at s6
      have a7 : rv M5 = (f_Mo_giveTo (A) (ix ((A) 5 i) / 10) (ix ((A) 5 i) % 10)).2 := a7.trans (show (f_Mo_giveTo ((rv Mz)) (ix ((rv Mz) 5 i) / 10) (ix ((rv Mz) 5 i) % 10)).2 = _ from by first | rfl | simp only [hA])
      have w8 : rf M M5 := rf_tr hf w8
      refine wgo (g' := (M5, 28, [some (.inr (5, 24)), some (.inl (nI m)), some (.inl (nI t)), some (.inl ((nI i) + 1)), none, none], [])) [oc (none, M5), oz 0, oz 0] rfl ⟨⟨s6, Nat.le_of_ble_eq_true rfl, Nat.le_of_ble_eq_true rfl, ⟨_, rfl⟩⟩, trivial, trivial, trivial⟩ ?_
      rw [nI_1 i]
      have x9 : f_so2 (r + 1) A m t i = f_so2 r ((f_Mo_giveTo (A) (ix ((A) 5 i) / 10) (ix ((A) 5 i) % 10)).2) m t (i + 1) := by
        rw [f_so2]
        rw [if_neg k4]
      rw [x9]
      exact ih _ M5 (i + 1) a7 w8 (hP2 _ _ hP (nI_sl (n := m) rfl (by omega) hi k4)) (nI_sl (n := m) rfl (by omega) hi k4) (by omega)
def f_so1 : Nat → mm_M → Nat → Nat → Nat → Int32 × mm_M
  | 0, A, _, _, _ => (0, A)
  | r + 1, A, m, t, i => (if 110 ≤ (nI i) then (f_so2 5 (A) m t 0) else (f_so1 r (mm_up (A) 4 i ((A) 3 i)) m t (i + 1)))
set_option maxRecDepth 20000 in
set_option maxHeartbeats 1000000 in
theorem lp_so1 {d : Nat} {M : mm_M} {m : Nat} {t : Nat}   {n : Nat} {I : mm_M → Prop} {j : Nat} (hn3 : n ≤ 3) (hI0 : ∀ X, I X → X 0 1 = nI n) (hI1 : ∀ X i, I X → i < n → rone X n i) (hI2 : ∀ X i, I X → i < n → I (f_Mo_second X i).2) (hI3 : ∀ X, I X → I (f_Mo_secondOfAll X).2) (hI4 : ∀ X, I X → X 0 5 = nI j) (hj8 : j ≤ 8){P : Nat → mm_M → Prop} (hP2 : ∀ i X, P i X → i < m → P (i + 1) (f_Mo_giveTo X (ix (X 5 i) / 10) (ix (X 5 i) % 10)).2) (hP3 : ∀ X, P m X → I X) (hP5 : ∀ i X, P i X → i < m → okx 80 (X 5 i)) (hm : m ≤ 4) (ht : t ≤ 300){K : Nat → mm_M → Prop} (hK2 : ∀ i X, K i X → i < 110 → K (i + 1) (mm_up X 4 i (X 3 i))) (hK3 : ∀ X, K 110 X → P 0 X) : ∀ (r : Nat) (A : mm_M) (Mz : mm_M) (i : Nat), rv Mz = A → rf M Mz → (K i A) → (i ≤ 110) → (110 < i + r) → mm_Wp pg_Mo_secondsOf rt_Mo_secondsOf (ct_Sem (d + 5)) (Mz, 2, [some (.inr (5, 24)), some (.inl (nI m)), some (.inl (nI t)), some (.inl (nI i)), none, none], []) (rQ M (some (f_so1 r A m t i).1) (f_so1 r A m t i).2) := by
  intro r
  induction r with
  | zero =>
    intro A Mz i hA hf hK hi hr
    exfalso; omega
  | succ r ih =>
    intro A Mz i hA hf hK hi hr
    refine wgo (g' := (Mz, 5, [some (.inr (5, 24)), some (.inl (nI m)), some (.inl (nI t)), some (.inl (nI i)), none, none], [.inl 110, .inl (nI i)])) [oz 0, oz 0] rfl ⟨trivial, trivial, trivial⟩ ?_
    by_cases h1 : 110 ≤ (nI i)
    · have k2 : 110 ≤ (nI i) := by
        have q : 110 ≤ (nI i) := h1
        first | exact q | (simp only [hA] at q; exact q)
      refine wgo (g' := (Mz, 28, [some (.inr (5, 24)), some (.inl (nI m)), some (.inl (nI t)), some (.inl 0), none, none], [])) [oz 1, oz 0, oz 0] rfl ⟨h1, trivial, Nat.le_of_ble_eq_true rfl, trivial⟩ ?_
      have x3 : f_so1 (r + 1) A m t i = f_so2 5 (A) m t 0 := by
        rw [f_so1]
        rw [if_pos k2]
      rw [x3]
      exact lp_so2 (d := d)  (M := M) (m := m) (t := t)  hn3 hI0 hI1 hI2 hI3 hI4 hj8 hP2 hP3 hP5 hm ht 5 _ Mz 0  hA hf (hK3 _ (so_end (m := 110) hK k2 hi)) (Nat.zero_le _) (by omega)
    · have k4 : ¬ (110 ≤ (nI i)) := by
        have q : ¬ (110 ≤ (nI i)) := h1
        first | exact q | (simp only [hA] at q; exact q)
      refine wgo (g' := (mm_up Mz 28 i (Mz 27 i), 20, [some (.inr (5, 24)), some (.inl (nI m)), some (.inl (nI t)), some (.inl (nI i)), none, none], [])) [oz 0, oz 0, oz 0, oz 0, oz 0, oz 0, oz 0, oz i, oz i] rfl ⟨h1, trivial, trivial, trivial, trivial, trivial, trivial, ⟨rfl, nI_sl (n := 110) rfl (by decide) hi k4⟩, ⟨rfl, nI_sl (n := 110) rfl (by decide) hi k4⟩, trivial⟩ ?_
      generalize e6 : mm_up Mz 28 i (Mz 27 i) = M5
      have a7 : rv M5 = mm_up (A) 4 i ((A) 3 i) := by
        rw [← e6]
        refine (rv_up 4).trans ?_
        show mm_up ((rv Mz)) 4 i ((rv Mz) 3 i) = _
        first | rfl | simp only [hA]
      have w8 : rf M M5 := by rw [← e6]; exact rf_up hf (by decide)
      refine wgo (g' := (M5, 2, [some (.inr (5, 24)), some (.inl (nI m)), some (.inl (nI t)), some (.inl ((nI i) + 1)), none, none], [])) [oz 0, oz 0] rfl ⟨trivial, trivial, trivial⟩ ?_
      rw [nI_1 i]
      have x9 : f_so1 (r + 1) A m t i = f_so1 r (mm_up (A) 4 i ((A) 3 i)) m t (i + 1) := by
        rw [f_so1]
        rw [if_neg k4]
      rw [x9]
      exact ih _ M5 (i + 1) a7 w8 (hK2 _ _ hK (nI_sl (n := 110) rfl (by decide) hi k4)) (nI_sl (n := 110) rfl (by decide) hi k4) (by omega)
def f_Mo_secondsOf (A : mm_M) (m : Nat) (t : Nat) : Int32 × mm_M := (f_so1 111 (A) m t 0)
set_option maxRecDepth 20000 in
set_option maxHeartbeats 1000000 in
theorem rs_Mo_secondsOf {d : Nat} {M : mm_M} {m : Nat} {t : Nat}  {n : Nat} {I : mm_M → Prop} {j : Nat} (hn3 : n ≤ 3) (hI0 : ∀ X, I X → X 0 1 = nI n) (hI1 : ∀ X i, I X → i < n → rone X n i) (hI2 : ∀ X i, I X → i < n → I (f_Mo_second X i).2) (hI3 : ∀ X, I X → I (f_Mo_secondOfAll X).2) (hI4 : ∀ X, I X → X 0 5 = nI j) (hj8 : j ≤ 8){P : Nat → mm_M → Prop} (hP2 : ∀ i X, P i X → i < m → P (i + 1) (f_Mo_giveTo X (ix (X 5 i) / 10) (ix (X 5 i) % 10)).2) (hP3 : ∀ X, P m X → I X) (hP5 : ∀ i X, P i X → i < m → okx 80 (X 5 i)) (hm : m ≤ 4) (ht : t ≤ 300){K : Nat → mm_M → Prop} (hK2 : ∀ i X, K i X → i < 110 → K (i + 1) (mm_up X 4 i (X 3 i))) (hK3 : ∀ X, K 110 X → P 0 X) (hK : K 0 (rv M)) : RS (d + 6) 65  M [.inr (5, 24), .inl (nI m), .inl (nI t)] (some (f_Mo_secondsOf (rv M) m t).1) (f_Mo_secondsOf (rv M) m t).2 := by
  refine RS_of (Nat.le_of_ble_eq_true rfl) ?_
  show mm_Wp pg_Mo_secondsOf rt_Mo_secondsOf (ct_Sem (d + 5)) (M, 0, [some (.inr (5, 24)), some (.inl (nI m)), some (.inl (nI t)), none, none, none], []) _
  refine wgo (g' := (M, 2, [some (.inr (5, 24)), some (.inl (nI m)), some (.inl (nI t)), some (.inl 0), none, none], [])) [oz 0, oz 0] rfl ⟨trivial, Nat.le_of_ble_eq_true rfl, trivial⟩ ?_
  have x1 : f_Mo_secondsOf (rv M) m t = f_so1 111 ((rv M)) m t 0 := by
    unfold f_Mo_secondsOf
    rfl
  rw [x1]
  exact lp_so1 (d := d)  (M := M) (m := m) (t := t)  hn3 hI0 hI1 hI2 hI3 hI4 hj8 hP2 hP3 hP5 hm ht hK2 hK3 111 _ M 0  rfl rf_rf hK (Nat.zero_le _) (by omega)
