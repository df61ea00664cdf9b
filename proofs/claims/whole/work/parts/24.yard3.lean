theorem nI_sl {i n : Nat} {x : Int32} (hx : x = nI n) (hn : n < 2 ^ 31) (hi : i ≤ n) (h : ¬ x ≤ nI i) : i < n := by
  subst hx
  rcases Nat.lt_or_ge i n with q | q
  · exact q
  · exact absurd (nI_le q (by omega)) h
def f_free : Nat → ya → Nat → Nat → Int32
  | 0, _, _, _ => 0
  | r + 1, A, k, i => (if (sc (A) 6) ≤ (nI i) then nI k else (if (jb (A) i 3) = 0 then (f_free r (A) (k + 1) (i + 1)) else (f_free r (A) k (i + 1))))
set_option maxRecDepth 20000 in
set_option maxHeartbeats 1000000 in
theorem lp_free {d b : Nat} {M : mm_M}   {n : Nat} (hn : sc (yv b M) 6 = nI n) (hn8 : n ≤ 8) : ∀ (r : Nat) (k : Nat) (i : Nat), (i ≤ n) → (n < i + r) → mm_Wp pg_Yd_countFree rt_Yd_countFree (ct_Sem (d + 0)) (M, 4, [some (.inr (3, b)), some (.inl (nI k)), some (.inl (nI i))], []) (fun res => res = (some (f_free r (yv b M) k i), M)) := by
  intro r
  induction r with
  | zero =>
    intro k i hi hr
    exfalso; omega
  | succ r ih =>
    intro k i hi hr
    refine wgo (g' := (M, 9, [some (.inr (3, b)), some (.inl (nI k)), some (.inl (nI i))], [.inl (M b 6), .inl (nI i)])) [oz 0, oz 0, oz 0] rfl ⟨trivial, trivial, trivial, trivial⟩ ?_
    by_cases h1 : (M b 6) ≤ (nI i)
    · have k2 : (sc ((yv b M)) 6) ≤ (nI i) := by
        have q : (sc (yv b M) 6) ≤ (nI i) := h1
        exact q
      refine wgo (g' := (M, 34, [some (.inr (3, b)), some (.inl (nI k)), some (.inl (nI i))], [.inl (nI k)])) [oz 1, oz 0] rfl ⟨h1, trivial, trivial⟩ ?_
      have x3 : f_free (r + 1) (yv b M) k i = nI k := by
        rw [f_free]
        rw [if_pos k2]
      exact wend ⟨_, rfl, rfl⟩ (congrArg (fun q => (some q, M)) x3.symm)
    · have k4 : ¬ ((sc ((yv b M)) 6) ≤ (nI i)) := by
        have q : ¬ ((sc (yv b M) 6) ≤ (nI i)) := h1
        exact q
      refine wgo (g' := (M, 21, [some (.inr (3, b)), some (.inl (nI k)), some (.inl (nI i))], [.inl (M (b + 6 + 32 * i) 3)])) [oz 0, oz 0, oz 0, oz 0, oz i, oz 0] rfl ⟨h1, trivial, trivial, trivial, ⟨rfl, Nat.lt_of_lt_of_le (nI_sl hn (by omega) hi k4) hn8⟩, trivial, trivial⟩ ?_
      by_cases h5 : (M (b + 6 + 32 * i) 3) = 0
      · have k6 : (jb ((yv b M)) i 3) = 0 := by
          have q : (jb (yv b M) i 3) = 0 := h5
          exact q
        refine wgo (g' := (M, 4, [some (.inr (3, b)), some (.inl ((nI k) + 1)), some (.inl ((nI i) + 1))], [])) [oz 0, oz 0, oz 0, oz 0] rfl ⟨(fun z => z h5), trivial, trivial, trivial, trivial⟩ ?_
        rw [nI_1 k]
        rw [nI_1 i]
        have x7 : f_free (r + 1) (yv b M) k i = f_free r ((yv b M)) (k + 1) (i + 1) := by
          rw [f_free]
          rw [if_neg k4, if_pos k6]
        rw [x7]
        exact ih (k + 1) (i + 1) (nI_sl hn (by omega) hi k4) (by omega)
      · have k8 : ¬ ((jb ((yv b M)) i 3) = 0) := by
          have q : ¬ ((jb (yv b M) i 3) = 0) := h5
          exact q
        refine wgo (g' := (M, 4, [some (.inr (3, b)), some (.inl (nI k)), some (.inl ((nI i) + 1))], [])) [oz 1, oz 0, oz 0] rfl ⟨h5, trivial, trivial, trivial⟩ ?_
        rw [nI_1 i]
        have x9 : f_free (r + 1) (yv b M) k i = f_free r ((yv b M)) k (i + 1) := by
          rw [f_free]
          rw [if_neg k4, if_neg k8]
        rw [x9]
        exact ih k (i + 1) (nI_sl hn (by omega) hi k4) (by omega)
def f_Yd_countFree (A : ya)  : Int32 := (f_free 9 (A) 0 0)
set_option maxRecDepth 20000 in
set_option maxHeartbeats 1000000 in
theorem sm_Yd_countFree {d b : Nat} {M : mm_M}  {n : Nat} (hn : sc (yv b M) 6 = nI n) (hn8 : n ≤ 8) : ct_Sem (d + 1) 20 M [.inr (3, b)] (some (f_Yd_countFree (yv b M) ), M) := by
  refine SM_of (Nat.le_of_ble_eq_true rfl) ?_
  show mm_Wp pg_Yd_countFree rt_Yd_countFree (ct_Sem (d + 0)) (M, 0, [some (.inr (3, b)), none, none], []) _
  refine wgo (g' := (M, 4, [some (.inr (3, b)), some (.inl 0), some (.inl 0)], [])) [oz 0, oz 0, oz 0, oz 0] rfl ⟨trivial, Nat.le_of_ble_eq_true rfl, trivial, Nat.le_of_ble_eq_true rfl, trivial⟩ ?_
  have x1 : f_Yd_countFree (yv b M) = f_free 9 ((yv b M)) 0 0 := by
    unfold f_Yd_countFree
    rfl
  rw [x1]
  exact lp_free (d := d) (b := b) (M := M) hn hn8 9 0 0 (Nat.zero_le _) (by omega)
def f_unq : Nat → ya → Nat → Int32 → Nat → Nat → Int32 × ya
  | 0, A, _, _, _, _ => (0, A)
  | r + 1, A, c, x, k, i => (if (cr (A) c 10) ≤ (nI i) then (0, ucr (A) c 10 (nI k)) else (if (wa (A) c i) = x then (f_unq r (A) c x k (i + 1)) else (f_unq r (uwa (A) c k (wa (A) c i)) c x (k + 1) (i + 1))))
set_option maxRecDepth 20000 in
set_option maxHeartbeats 1000000 in
theorem lp_unq {d b : Nat} {M : mm_M} {c : Nat} {x : Int32}  (hb : b = 8 ∨ b = 16) {n : Nat} (hn8 : n ≤ 8) : ∀ (r : Nat) (A : ya) (M1 : mm_M) (k : Nat) (i : Nat), yv b M1 = A → yf b M M1 → (cr A c 10 = nI n) → (i ≤ n) → (k ≤ i) → (n < i + r) → mm_Wp pg_Cr_unqueue rt_Cr_unqueue (ct_Sem (d + 0)) (M1, 4, [some (.inr (0, b + 3 + 32 * c)), some (.inl x), some (.inl (nI k)), some (.inl (nI i))], []) (yQ b M (none) (f_unq r A c x k i).2) := by
  intro r
  induction r with
  | zero =>
    intro A M1 k i hA hf hn hi hk hr
    exfalso; omega
  | succ r ih =>
    intro A M1 k i hA hf hn hi hk hr
    refine wgo (g' := (M1, 9, [some (.inr (0, b + 3 + 32 * c)), some (.inl x), some (.inl (nI k)), some (.inl (nI i))], [.inl (M1 (b + 3 + 32 * c) 10), .inl (nI i)])) [oz 0, oz 0, oz 0] rfl ⟨trivial, trivial, trivial, trivial⟩ ?_
    by_cases h1 : (M1 (b + 3 + 32 * c) 10) ≤ (nI i)
    · have k2 : (cr (A) c 10) ≤ (nI i) := by
        have q : (cr (yv b M1) c 10) ≤ (nI i) := h1
        first | exact q | (simp only [hA] at q; exact q)
      refine wgo (g' := (mm_up M1 (b + 3 + 32 * c) 10 (nI k), 48, [some (.inr (0, b + 3 + 32 * c)), some (.inl x), some (.inl (nI k)), some (.inl (nI i))], [])) [oz 1, oz 0, oz 0, oz 0] rfl ⟨h1, trivial, trivial, trivial, trivial⟩ ?_
      generalize e4 : mm_up M1 (b + 3 + 32 * c) 10 (nI k) = M3
      have a5 : yv b M3 = ucr (A) c 10 (nI k) := by
        rw [← e4]
        refine yv_cr.trans ?_
        show ucr ((yv b M1)) c 10 (nI k) = _
        first | rfl | simp only [hA]
      have w6 : yf b M M3 := by rw [← e4]; exact yf_up hf (by unfold yo; omega)
      have x7 : f_unq (r + 1) A c x k i = (0, ucr (A) c 10 (nI k)) := by
        rw [f_unq]
        rw [if_pos k2]
      exact wend ⟨rfl, rfl⟩ ⟨rfl, a5.trans (congrArg Prod.snd x7).symm, w6⟩
    · have k8 : ¬ ((cr (A) c 10) ≤ (nI i)) := by
        have q : ¬ ((cr (yv b M1) c 10) ≤ (nI i)) := h1
        first | exact q | (simp only [hA] at q; exact q)
      refine wgo (g' := (M1, 19, [some (.inr (0, b + 3 + 32 * c)), some (.inl x), some (.inl (nI k)), some (.inl (nI i))], [.inl x, .inl (M1 (b + 3 + 32 * c + 2) i)])) [oz 0, oz 0, oz 0, oz 0, oz i, oz 0] rfl ⟨h1, trivial, trivial, trivial, ⟨rfl, Nat.lt_of_lt_of_le (nI_sl hn (by omega) hi k8) hn8⟩, trivial, trivial⟩ ?_
      by_cases h9 : (M1 (b + 3 + 32 * c + 2) i) = x
      · have k10 : (wa (A) c i) = x := by
          have q : (wa (yv b M1) c i) = x := h9
          first | exact q | (simp only [hA] at q; exact q)
        refine wgo (g' := (M1, 4, [some (.inr (0, b + 3 + 32 * c)), some (.inl x), some (.inl (nI k)), some (.inl ((nI i) + 1))], [])) [oz 1, oz 0, oz 0] rfl ⟨h9, trivial, trivial, trivial⟩ ?_
        rw [nI_1 i]
        have x11 : f_unq (r + 1) A c x k i = f_unq r (A) c x k (i + 1) := by
          rw [f_unq]
          rw [if_neg k8, if_pos k10]
        rw [x11]
        exact ih _ M1 k (i + 1) hA hf hn (nI_sl hn (by omega) hi k8) (by omega) (by omega)
      · have k12 : ¬ ((wa (A) c i) = x) := by
          have q : ¬ ((wa (yv b M1) c i) = x) := h9
          first | exact q | (simp only [hA] at q; exact q)
        refine wgo (g' := (mm_up M1 (b + 3 + 32 * c + 2) k (M1 (b + 3 + 32 * c + 2) i), 34, [some (.inr (0, b + 3 + 32 * c)), some (.inl x), some (.inl (nI k)), some (.inl (nI i))], [])) [oz 0, oz 0, oz 0, oz 0, oz 0, oz 0, oz 0, oz i, oz k] rfl ⟨h9, trivial, trivial, trivial, trivial, trivial, trivial, ⟨rfl, Nat.lt_of_lt_of_le (nI_sl hn (by omega) hi k8) hn8⟩, ⟨rfl, Nat.lt_of_le_of_lt hk (Nat.lt_of_lt_of_le (nI_sl hn (by omega) hi k8) hn8)⟩, trivial⟩ ?_
        generalize e14 : mm_up M1 (b + 3 + 32 * c + 2) k (M1 (b + 3 + 32 * c + 2) i) = M13
        have a15 : yv b M13 = uwa (A) c k (wa (A) c i) := by
          rw [← e14]
          refine yv_wa.trans ?_
          show uwa ((yv b M1)) c k (wa (yv b M1) c i) = _
          first | rfl | simp only [hA]
        have w16 : yf b M M13 := by rw [← e14]; exact yf_up hf (by unfold yo; omega)
        refine wgo (g' := (M13, 4, [some (.inr (0, b + 3 + 32 * c)), some (.inl x), some (.inl ((nI k) + 1)), some (.inl ((nI i) + 1))], [])) [oz 0, oz 0, oz 0] rfl ⟨trivial, trivial, trivial, trivial⟩ ?_
        rw [nI_1 k]
        rw [nI_1 i]
        have x17 : f_unq (r + 1) A c x k i = f_unq r (uwa (A) c k (wa (A) c i)) c x (k + 1) (i + 1) := by
          rw [f_unq]
          rw [if_neg k8, if_neg k12]
        rw [x17]
        exact ih _ M13 (k + 1) (i + 1) a15 w16 hn (nI_sl hn (by omega) hi k8) (by omega) (by omega)
def f_Cr_unqueue (A : ya) (c : Nat) (x : Int32) : Int32 × ya := (f_unq 9 (A) c x 0 0)
set_option maxRecDepth 20000 in
set_option maxHeartbeats 1000000 in
theorem ys_Cr_unqueue {d b : Nat} {M : mm_M} {c : Nat} {x : Int32} (hb : b = 8 ∨ b = 16) {n : Nat} (hn : cr (yv b M) c 10 = nI n) (hn8 : n ≤ 8) : YS (d + 1) 6 b M [.inr (0, b + 3 + 32 * c), .inl x] (none) (f_Cr_unqueue (yv b M) c x).2 := by
  refine YS_of (Nat.le_of_ble_eq_true rfl) ?_
  show mm_Wp pg_Cr_unqueue rt_Cr_unqueue (ct_Sem (d + 0)) (M, 0, [some (.inr (0, b + 3 + 32 * c)), some (.inl x), none, none], []) _
  refine wgo (g' := (M, 4, [some (.inr (0, b + 3 + 32 * c)), some (.inl x), some (.inl 0), some (.inl 0)], [])) [oz 0, oz 0, oz 0, oz 0] rfl ⟨trivial, Nat.le_of_ble_eq_true rfl, trivial, Nat.le_of_ble_eq_true rfl, trivial⟩ ?_
  have x1 : f_Cr_unqueue (yv b M) c x = f_unq 9 ((yv b M)) c x 0 0 := by
    unfold f_Cr_unqueue
    rfl
  rw [x1]
  exact lp_unq (d := d) (b := b) (M := M) hb hn8 9 _ M 0 0 rfl yf_rf hn (Nat.zero_le _) (Nat.zero_le _) (by omega)
