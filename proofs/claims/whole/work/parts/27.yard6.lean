theorem nI_sm {i n : Nat} {x : Int32} (hx : x = nI n) (hn : n ≤ 3) (hi : i ≤ n ∨ i = 1) (h : ¬ x ≤ nI i) : i < n := by
  subst hx
  rcases Nat.lt_or_ge i n with q | q
  · exact q
  · exact absurd (nI_le q (by omega)) h
theorem f_ps_ok (A : ya) (c : Nat) : okx 4 (f_Yd_passSecondOf A c).1 := by
  unfold f_Yd_passSecondOf
  repeat' split
  all_goals first | exact okx_nI (j := 0) (by decide) (by decide) | exact okx_nI (j := 1) (by decide) (by decide) | exact okx_nI (j := 2) (by decide) (by decide) | exact okx_nI (j := 3) (by decide) (by decide)
/-- crane i's second, counted -/
def f_tick (A : ya) (i : Nat) : ya := use ((f_Yd_passSecondOf A i).2) i (ix ((f_Yd_passSecondOf A i).1)) ((se ((f_Yd_passSecondOf A i).2) i (ix ((f_Yd_passSecondOf A i).1))) + 1)
def f_ps2 : Nat → ya → Nat → Int32 × ya
  | 0, A, _ => (0, A)
  | r + 1, A, i => (if (sc (A) 0) ≤ (nI i) then (0, A) else (f_ps2 r (usc (A) 5 (if ((cr (A) i 0) - (cr (A) (i - 1) 0)) < (sc (A) 5) then ((cr (A) i 0) - (cr (A) (i - 1) 0)) else (sc (A) 5))) (i + 1)))
set_option maxRecDepth 20000 in
set_option maxHeartbeats 1000000 in
theorem lp_ps2 {d b : Nat} {M : mm_M}   (hb : b = 8 ∨ b = 16) {n : Nat} (hn3 : n ≤ 3) : ∀ (r : Nat) (A : ya) (M1 : mm_M) (i : Nat), yv b M1 = A → yf b M M1 → (sc A 0 = nI n) → (1 ≤ i) → (i ≤ n ∨ i = 1) → (n + 1 < i + r) → mm_Wp pg_Yd_passSecond rt_Yd_passSecond (ct_Sem (d + 0)) (M1, 47, [some (.inr (3, b)), some (.inl (nI i))], []) (yQ b M (none) (f_ps2 r A i).2) := by
  intro r
  induction r with
  | zero =>
    intro A M1 i hA hf hn h1i hi hr
    exfalso; omega
  | succ r ih =>
    intro A M1 i hA hf hn h1i hi hr
    refine wgo (g' := (M1, 52, [some (.inr (3, b)), some (.inl (nI i))], [.inl (M1 b 0), .inl (nI i)])) [oz 0, oz 0, oz 0] rfl ⟨trivial, trivial, trivial, trivial⟩ ?_
    by_cases h1 : (M1 b 0) ≤ (nI i)
    · have k2 : (sc (A) 0) ≤ (nI i) := by
        have q : (sc (yv b M1) 0) ≤ (nI i) := h1
        first | exact q | (simp only [hA] at q; exact q)
      refine wgo (g' := (M1, 93, [some (.inr (3, b)), some (.inl (nI i))], [])) [oz 1] rfl ⟨h1, trivial⟩ ?_
      have x3 : f_ps2 (r + 1) A i = (0, A) := by
        rw [f_ps2]
        rw [if_pos k2]
      exact wend ⟨rfl, rfl⟩ ⟨rfl, hA.trans (congrArg Prod.snd x3).symm, hf⟩
    · have k4 : ¬ ((sc (A) 0) ≤ (nI i)) := by
        have q : ¬ ((sc (yv b M1) 0) ≤ (nI i)) := h1
        first | exact q | (simp only [hA] at q; exact q)
      refine wgo (g' := (mm_up M1 b 5 (if ((M1 (b + 3 + 32 * i) 0) - (M1 (b + 3 + 32 * (i - 1)) 0)) < (M1 b 5) then ((M1 (b + 3 + 32 * i) 0) - (M1 (b + 3 + 32 * (i - 1)) 0)) else (M1 b 5)), 87, [some (.inr (3, b)), some (.inl (nI i))], [])) [oz 0, oz 0, oz 0, oz 0, oz 0, oz 0, oz 0, oz i, oz 0, oz 0, oz 0, oz 0, oz 0, oz 0, oz (i - 1), oz 0, oz 0, oz 0, oz 0] rfl ⟨h1, trivial, trivial, trivial, trivial, trivial, trivial, ⟨rfl, Nat.lt_of_lt_of_le (nI_sm hn hn3 hi k4) hn3⟩, trivial, trivial, trivial, trivial, trivial, trivial, ⟨nI_m1 (by omega), (show i - 1 < 3 from Nat.lt_of_le_of_lt (Nat.sub_le i 1) (Nat.lt_of_lt_of_le (nI_sm hn hn3 hi k4) hn3))⟩, trivial, trivial, Nat.le_of_ble_eq_true rfl, trivial, trivial⟩ ?_
      generalize e6 : mm_up M1 b 5 (if ((M1 (b + 3 + 32 * i) 0) - (M1 (b + 3 + 32 * (i - 1)) 0)) < (M1 b 5) then ((M1 (b + 3 + 32 * i) 0) - (M1 (b + 3 + 32 * (i - 1)) 0)) else (M1 b 5)) = M5
      have a7 : yv b M5 = usc (A) 5 (if ((cr (A) i 0) - (cr (A) (i - 1) 0)) < (sc (A) 5) then ((cr (A) i 0) - (cr (A) (i - 1) 0)) else (sc (A) 5)) := by
        rw [← e6]
        refine yv_sc.trans ?_
        show usc ((yv b M1)) 5 (if ((cr (yv b M1) i 0) - (cr (yv b M1) (i - 1) 0)) < (sc (yv b M1) 5) then ((cr (yv b M1) i 0) - (cr (yv b M1) (i - 1) 0)) else (sc (yv b M1) 5)) = _
        first | rfl | simp only [hA]
      have w8 : yf b M M5 := by rw [← e6]; exact yf_up hf (by unfold yo; omega)
      refine wgo (g' := (M5, 47, [some (.inr (3, b)), some (.inl ((nI i) + 1))], [])) [oz 0, oz 0] rfl ⟨trivial, trivial, trivial⟩ ?_
      rw [nI_1 i]
      have x9 : f_ps2 (r + 1) A i = f_ps2 r (usc (A) 5 (if ((cr (A) i 0) - (cr (A) (i - 1) 0)) < (sc (A) 5) then ((cr (A) i 0) - (cr (A) (i - 1) 0)) else (sc (A) 5))) (i + 1) := by
        rw [f_ps2]
        rw [if_neg k4]
      rw [x9]
      exact ih _ M5 (i + 1) a7 w8 hn (by omega) (Or.inl (nI_sm hn hn3 hi k4)) (by omega)
def f_ps1 : Nat → ya → Nat → Int32 × ya
  | 0, A, _ => (0, A)
  | r + 1, A, i => (if (sc (A) 0) ≤ (nI i) then (f_ps2 4 (usc (A) 4 ((sc (A) 4) + 1)) 1) else (f_ps1 r (use ((f_Yd_passSecondOf (A) i).2) i (ix ((f_Yd_passSecondOf (A) i).1)) ((se ((f_Yd_passSecondOf (A) i).2) i (ix ((f_Yd_passSecondOf (A) i).1))) + 1)) (i + 1)))
set_option maxRecDepth 20000 in
set_option maxHeartbeats 1000000 in
theorem lp_ps1 {d b : Nat} {M : mm_M}   (hb : b = 8 ∨ b = 16) {n : Nat} {I : ya → Prop} (hn3 : n ≤ 3) (hI0 : ∀ A, I A → ynn A n) (hI1 : ∀ A i, I A → i < n → yone A n i) (hI2 : ∀ A i, I A → i < n → I (f_tick A i)) : ∀ (r : Nat) (A : ya) (M1 : mm_M) (i : Nat), yv b M1 = A → yf b M M1 → (I A) → (i ≤ n) → (n < i + r) → mm_Wp pg_Yd_passSecond rt_Yd_passSecond (ct_Sem (d + 3)) (M1, 2, [some (.inr (3, b)), some (.inl (nI i))], []) (yQ b M (none) (f_ps1 r A i).2) := by
  intro r
  induction r with
  | zero =>
    intro A M1 i hA hf hI hi hr
    exfalso; omega
  | succ r ih =>
    intro A M1 i hA hf hI hi hr
    refine wgo (g' := (M1, 7, [some (.inr (3, b)), some (.inl (nI i))], [.inl (M1 b 0), .inl (nI i)])) [oz 0, oz 0, oz 0] rfl ⟨trivial, trivial, trivial, trivial⟩ ?_
    by_cases h1 : (M1 b 0) ≤ (nI i)
    · have k2 : (sc (A) 0) ≤ (nI i) := by
        have q : (sc (yv b M1) 0) ≤ (nI i) := h1
        first | exact q | (simp only [hA] at q; exact q)
      refine wgo (g' := (mm_up M1 b 4 ((M1 b 4) + 1), 45, [some (.inr (3, b)), some (.inl (nI i))], [])) [oz 1, oz 0, oz 0, oz 0, oz 0, oz 0, oz 0] rfl ⟨h1, trivial, trivial, trivial, trivial, trivial, trivial, trivial⟩ ?_
      generalize e4 : mm_up M1 b 4 ((M1 b 4) + 1) = M3
      have a5 : yv b M3 = usc (A) 4 ((sc (A) 4) + 1) := by
        rw [← e4]
        refine yv_sc.trans ?_
        show usc ((yv b M1)) 4 ((sc (yv b M1) 4) + 1) = _
        first | rfl | simp only [hA]
      have w6 : yf b M M3 := by rw [← e4]; exact yf_up hf (by unfold yo; omega)
      refine wgo (g' := (M3, 47, [some (.inr (3, b)), some (.inl 1)], [])) [oz 0, oz 0] rfl ⟨trivial, Nat.le_of_ble_eq_true rfl, trivial⟩ ?_
      have x7 : f_ps1 (r + 1) A i = f_ps2 4 (usc (A) 4 ((sc (A) 4) + 1)) 1 := by
        rw [f_ps1]
        rw [if_pos k2]
      rw [x7]
      exact lp_ps2 (d := d + 3) (b := b) (M := M) hb hn3 4 _ M3 1 a5 w6 (hI0 _ hI).1 (Nat.le_refl 1) (Or.inr rfl) (by omega)
    · have k8 : ¬ ((sc (A) 0) ≤ (nI i)) := by
        have q : ¬ ((sc (yv b M1) 0) ≤ (nI i)) := h1
        first | exact q | (simp only [hA] at q; exact q)
      refine wgo (g' := (M1, 21, [some (.inr (3, b)), some (.inl (nI i))], [.inl (nI i), .inr (3, b), .inr (6, b + 3 + 32 * i + 1)])) [oz 0, oz 0, oz 0, oz 0, oz i, oz 0, oz 0, oz 0] rfl ⟨h1, trivial, trivial, trivial, ⟨rfl, Nat.lt_of_lt_of_le (nI_sl (hI0 _ hI).1 (by omega) hi k8) hn3⟩, trivial, trivial, trivial, trivial⟩ ?_
      obtain ⟨M9, s10, a11, w12⟩ := ys_Yd_passSecondOf (d := d) (b := b) (M := M1) (c := i) hb (Nat.lt_of_lt_of_le (nI_sl (hI0 _ hI).1 (by omega) hi k8) hn3) (by rw [hA]; exact hI1 _ _ hI (nI_sl (hI0 _ hI).1 (by omega) hi k8))
      have a11 : yv b M9 = (f_Yd_passSecondOf (A) i).2 := a11.trans (show (f_Yd_passSecondOf ((yv b M1)) i).2 = _ from by first | rfl | simp only [hA])
      have w12 : yf b M M9 := yf_tr hf w12
      refine wgo (g' := (mm_up M9 (b + 3 + 32 * i + 1) (ix ((f_Yd_passSecondOf ((yv b M1)) i).1)) ((M9 (b + 3 + 32 * i + 1) (ix ((f_Yd_passSecondOf ((yv b M1)) i).1))) + 1), 29, [some (.inr (3, b)), some (.inl (nI i))], [])) [oc (some ((f_Yd_passSecondOf ((yv b M1)) i).1), M9), oz 0, oz (ix ((f_Yd_passSecondOf ((yv b M1)) i).1)), oz 0, oz 0, oz (ix ((f_Yd_passSecondOf ((yv b M1)) i).1))] rfl ⟨⟨s10, Nat.le_of_ble_eq_true rfl, Nat.le_of_ble_eq_true rfl, ⟨_, rfl⟩⟩, trivial, (f_ps_ok _ _), trivial, trivial, (f_ps_ok _ _), trivial⟩ ?_
      generalize e14 : mm_up M9 (b + 3 + 32 * i + 1) (ix ((f_Yd_passSecondOf ((yv b M1)) i).1)) ((M9 (b + 3 + 32 * i + 1) (ix ((f_Yd_passSecondOf ((yv b M1)) i).1))) + 1) = M13
      have a15 : yv b M13 = use ((f_Yd_passSecondOf (A) i).2) i (ix ((f_Yd_passSecondOf (A) i).1)) ((se ((f_Yd_passSecondOf (A) i).2) i (ix ((f_Yd_passSecondOf (A) i).1))) + 1) := by
        rw [← e14]
        refine yv_se.trans ?_
        show use ((yv b M9)) i (ix ((f_Yd_passSecondOf ((yv b M1)) i).1)) ((se (yv b M9) i (ix ((f_Yd_passSecondOf ((yv b M1)) i).1))) + 1) = _
        first | rfl | simp only [hA, a11]
      have w16 : yf b M M13 := by rw [← e14]; exact yf_up w12 (by unfold yo; omega)
      refine wgo (g' := (M13, 2, [some (.inr (3, b)), some (.inl ((nI i) + 1))], [])) [oz 0, oz 0] rfl ⟨trivial, trivial, trivial⟩ ?_
      rw [nI_1 i]
      have x17 : f_ps1 (r + 1) A i = f_ps1 r (use ((f_Yd_passSecondOf (A) i).2) i (ix ((f_Yd_passSecondOf (A) i).1)) ((se ((f_Yd_passSecondOf (A) i).2) i (ix ((f_Yd_passSecondOf (A) i).1))) + 1)) (i + 1) := by
        rw [f_ps1]
        rw [if_neg k8]
      rw [x17]
      exact ih _ M13 (i + 1) a15 w16 (hI2 _ _ hI (nI_sl (hI0 _ hI).1 (by omega) hi k8)) (nI_sl (hI0 _ hI).1 (by omega) hi k8) (by omega)
def f_Yd_passSecond (A : ya)  : Int32 × ya := (f_ps1 4 (A) 0)
set_option maxRecDepth 20000 in
set_option maxHeartbeats 1000000 in
theorem ys_Yd_passSecond {d b : Nat} {M : mm_M}  (hb : b = 8 ∨ b = 16) {n : Nat} {I : ya → Prop} (hn3 : n ≤ 3) (hI0 : ∀ A, I A → ynn A n) (hI1 : ∀ A i, I A → i < n → yone A n i) (hI2 : ∀ A i, I A → i < n → I (f_tick A i)) (hI : I (yv b M)) : YS (d + 4) 24 b M [.inr (3, b)] (none) (f_Yd_passSecond (yv b M) ).2 := by
  refine YS_of (Nat.le_of_ble_eq_true rfl) ?_
  show mm_Wp pg_Yd_passSecond rt_Yd_passSecond (ct_Sem (d + 3)) (M, 0, [some (.inr (3, b)), none], []) _
  refine wgo (g' := (M, 2, [some (.inr (3, b)), some (.inl 0)], [])) [oz 0, oz 0] rfl ⟨trivial, Nat.le_of_ble_eq_true rfl, trivial⟩ ?_
  have x1 : f_Yd_passSecond (yv b M) = f_ps1 4 ((yv b M)) 0 := by
    unfold f_Yd_passSecond
    rfl
  rw [x1]
  exact lp_ps1 (d := d) (b := b) (M := M) hb hn3 hI0 hI1 hI2 4 _ M 0 rfl yf_rf hI (Nat.zero_le _) (by omega)
def f_lay : Nat → ya → Int32 → Int32 → Int32 → Int32 → Nat → Int32 × ya
  | 0, A, _, _, _, _, _ => (0, A)
  | r + 1, A, p1, p2, p3, p4, i => (if (sc (A) 0) ≤ (nI i) then (0, A) else (f_lay r ((f_Cr_stand (A) i ((nI i) * (sc (A) 1)) 0 200).2) p1 p2 p3 p4 (i + 1)))
set_option maxRecDepth 20000 in
set_option maxHeartbeats 1000000 in
theorem lp_lay {d b : Nat} {M : mm_M} {p1 : Int32} {p2 : Int32} {p3 : Int32} {p4 : Int32}  (hb : b = 8 ∨ b = 16) {n : Nat} (hn3 : n ≤ 3) : ∀ (r : Nat) (A : ya) (M1 : mm_M) (i : Nat), yv b M1 = A → yf b M M1 → (sc A 0 = nI n) → (i ≤ n) → (n < i + r) → mm_Wp pg_Yd_lay rt_Yd_lay (ct_Sem (d + 1)) (M1, 24, [some (.inr (3, b)), some (.inl p1), some (.inl p2), some (.inl p3), some (.inl p4), some (.inl (nI i))], []) (yQ b M (none) (f_lay r A p1 p2 p3 p4 i).2) := by
  intro r
  induction r with
  | zero =>
    intro A M1 i hA hf hn hi hr
    exfalso; omega
  | succ r ih =>
    intro A M1 i hA hf hn hi hr
    refine wgo (g' := (M1, 30, [some (.inr (3, b)), some (.inl p1), some (.inl p2), some (.inl p3), some (.inl p4), some (.inl (nI i))], [.inl (M1 b 0), .inl (nI i)])) [oz 0, oz 0, oz 0] rfl ⟨trivial, trivial, trivial, trivial⟩ ?_
    by_cases h1 : (M1 b 0) ≤ (nI i)
    · have k2 : (sc (A) 0) ≤ (nI i) := by
        have q : (sc (yv b M1) 0) ≤ (nI i) := h1
        first | exact q | (simp only [hA] at q; exact q)
      refine wgo (g' := (M1, 60, [some (.inr (3, b)), some (.inl p1), some (.inl p2), some (.inl p3), some (.inl p4), some (.inl (nI i))], [])) [oz 1] rfl ⟨h1, trivial⟩ ?_
      have x3 : f_lay (r + 1) A p1 p2 p3 p4 i = (0, A) := by
        rw [f_lay]
        rw [if_pos k2]
      exact wend ⟨rfl, rfl⟩ ⟨rfl, hA.trans (congrArg Prod.snd x3).symm, hf⟩
    · have k4 : ¬ ((sc (A) 0) ≤ (nI i)) := by
        have q : ¬ ((sc (yv b M1) 0) ≤ (nI i)) := h1
        first | exact q | (simp only [hA] at q; exact q)
      refine wgo (g' := (M1, 51, [some (.inr (3, b)), some (.inl p1), some (.inl p2), some (.inl p3), some (.inl p4), some (.inl (nI i))], [.inl 200, .inl 0, .inl ((nI i) * (M1 b 1)), .inr (0, b + 3 + 32 * i)])) [oz 0, oz 0, oz 0, oz 0, oz i, oz 0, oz 0, oz 0, oz 0, oz 0, oz 0] rfl ⟨h1, trivial, trivial, trivial, ⟨rfl, Nat.lt_of_lt_of_le (nI_sl hn (by omega) hi k4) hn3⟩, trivial, trivial, trivial, trivial, trivial, trivial, trivial⟩ ?_
      obtain ⟨M5, s6, a7, w8⟩ := ys_Cr_stand (d := d) (b := b) (M := M1) (c := i) (p := (nI i) * (M1 b 1)) (l := 0) (g := 200) hb 
      have a7 : yv b M5 = (f_Cr_stand (A) i ((nI i) * (sc (A) 1)) 0 200).2 := a7.trans (show (f_Cr_stand ((yv b M1)) i ((nI i) * (sc (yv b M1) 1)) 0 200).2 = _ from by first | rfl | simp only [hA])
      have w8 : yf b M M5 := yf_tr hf w8
      refine wgo (g' := (M5, 24, [some (.inr (3, b)), some (.inl p1), some (.inl p2), some (.inl p3), some (.inl p4), some (.inl ((nI i) + 1))], [])) [oc (none, M5), oz 0, oz 0] rfl ⟨⟨s6, Nat.le_of_ble_eq_true rfl, Nat.le_of_ble_eq_true rfl, ⟨_, rfl⟩⟩, trivial, trivial, trivial⟩ ?_
      rw [nI_1 i]
      have x9 : f_lay (r + 1) A p1 p2 p3 p4 i = f_lay r ((f_Cr_stand (A) i ((nI i) * (sc (A) 1)) 0 200).2) p1 p2 p3 p4 (i + 1) := by
        rw [f_lay]
        rw [if_neg k4]
      rw [x9]
      exact ih _ M5 (i + 1) a7 w8 (by unfold f_Cr_stand; exact hn) (nI_sl hn (by omega) hi k4) (by omega)
def f_Yd_lay (A : ya) (p1 : Int32) (p2 : Int32) (p3 : Int32) (p4 : Int32) : Int32 × ya := (f_lay 4 (usc (usc (usc (usc (A) 0 p1) 1 p2) 2 p3) 3 p4) p1 p2 p3 p4 0)
set_option maxRecDepth 20000 in
set_option maxHeartbeats 1000000 in
theorem ys_Yd_lay {d b : Nat} {M : mm_M} {p1 : Int32} {p2 : Int32} {p3 : Int32} {p4 : Int32} (hb : b = 8 ∨ b = 16) {n : Nat} (hn : p1 = nI n) (hn3 : n ≤ 3) : YS (d + 2) 16 b M [.inr (3, b), .inl p1, .inl p2, .inl p3, .inl p4] (none) (f_Yd_lay (yv b M) p1 p2 p3 p4).2 := by
  refine YS_of (Nat.le_of_ble_eq_true rfl) ?_
  show mm_Wp pg_Yd_lay rt_Yd_lay (ct_Sem (d + 1)) (M, 0, [some (.inr (3, b)), some (.inl p1), some (.inl p2), some (.inl p3), some (.inl p4), none], []) _
  refine wgo (g' := (mm_up M b 0 p1, 5, [some (.inr (3, b)), some (.inl p1), some (.inl p2), some (.inl p3), some (.inl p4), none], [])) [oz 0, oz 0, oz 0] rfl ⟨trivial, trivial, trivial, trivial⟩ ?_
  generalize e2 : mm_up M b 0 p1 = M1
  have a3 : yv b M1 = usc ((yv b M)) 0 p1 := by
    rw [← e2]
    refine yv_sc.trans ?_
    show usc ((yv b M)) 0 p1 = _
    rfl
  have w4 : yf b M M1 := by rw [← e2]; exact yf_up yf_rf (by unfold yo; omega)
  refine wgo (g' := (mm_up M1 b 1 p2, 10, [some (.inr (3, b)), some (.inl p1), some (.inl p2), some (.inl p3), some (.inl p4), none], [])) [oz 0, oz 0, oz 0] rfl ⟨trivial, trivial, trivial, trivial⟩ ?_
  generalize e6 : mm_up M1 b 1 p2 = M5
  have a7 : yv b M5 = usc (usc ((yv b M)) 0 p1) 1 p2 := by
    rw [← e6]
    refine yv_sc.trans ?_
    show usc ((yv b M1)) 1 p2 = _
    first | rfl | simp only [a3]
  have w8 : yf b M M5 := by rw [← e6]; exact yf_up w4 (by unfold yo; omega)
  refine wgo (g' := (mm_up M5 b 2 p3, 15, [some (.inr (3, b)), some (.inl p1), some (.inl p2), some (.inl p3), some (.inl p4), none], [])) [oz 0, oz 0, oz 0] rfl ⟨trivial, trivial, trivial, trivial⟩ ?_
  generalize e10 : mm_up M5 b 2 p3 = M9
  have a11 : yv b M9 = usc (usc (usc ((yv b M)) 0 p1) 1 p2) 2 p3 := by
    rw [← e10]
    refine yv_sc.trans ?_
    show usc ((yv b M5)) 2 p3 = _
    first | rfl | simp only [a3, a7]
  have w12 : yf b M M9 := by rw [← e10]; exact yf_up w8 (by unfold yo; omega)
  refine wgo (g' := (mm_up M9 b 3 p4, 21, [some (.inr (3, b)), some (.inl p1), some (.inl p2), some (.inl p3), some (.inl p4), none], [])) [oz 0, oz 0, oz 0] rfl ⟨trivial, trivial, trivial, trivial⟩ ?_
  generalize e14 : mm_up M9 b 3 p4 = M13
  have a15 : yv b M13 = usc (usc (usc (usc ((yv b M)) 0 p1) 1 p2) 2 p3) 3 p4 := by
    rw [← e14]
    refine yv_sc.trans ?_
    show usc ((yv b M9)) 3 p4 = _
    first | rfl | simp only [a3, a7, a11]
  have w16 : yf b M M13 := by rw [← e14]; exact yf_up w12 (by unfold yo; omega)
  refine wgo (g' := (M13, 24, [some (.inr (3, b)), some (.inl p1), some (.inl p2), some (.inl p3), some (.inl p4), some (.inl 0)], [])) [oz 0, oz 0] rfl ⟨trivial, Nat.le_of_ble_eq_true rfl, trivial⟩ ?_
  have x17 : f_Yd_lay (yv b M) p1 p2 p3 p4 = f_lay 4 (usc (usc (usc (usc ((yv b M)) 0 p1) 1 p2) 2 p3) 3 p4) p1 p2 p3 p4 0 := by
    unfold f_Yd_lay
    rfl
  rw [x17]
  exact lp_lay (d := d) (b := b) (M := M) hb hn3 4 _ M13 0 a15 w16 hn (Nat.zero_le _) (by omega)
