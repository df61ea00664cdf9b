/-! SECONDS UNTIL ALL IS DONE: class and reference -/
theorem dn_spec {X : mm_M} {j : Nat} (hj : X 0 5 = nI j) (h8 : j ≤ 8) : ∀ (r : Nat) (x : Int32) (i : Nat), i ≤ j → j < i + r → (f_dn r X x i = 0 ↔ (x = 0 ∨ ∃ q, i ≤ q ∧ q < j ∧ ¬ f_Mo_ofJob X q 3 = 3))
  | 0, _, _, _, h => absurd h (by omega)
  | r + 1, x, i, hi, hr => by
    rw [f_dn]
    by_cases h1 : X 0 5 ≤ nI i
    · rw [if_pos h1]
      have e : i = j := by
        rw [hj] at h1
        have := (nI_leI (by omega) (by omega)).mp h1
        omega
      constructor
      · exact Or.inl
      · rintro (h | ⟨q, a, b, -⟩)
        · exact h
        · omega
    · rw [if_neg h1]
      have lt : i < j := nI_sl hj (by omega) hi h1
      by_cases h2 : x = 0
      · rw [if_pos h2, dn_spec hj h8 r 0 (i + 1) lt (by omega)]
        exact ⟨fun _ => Or.inl h2, fun _ => Or.inl rfl⟩
      · rw [if_neg h2]
        by_cases h3 : f_Mo_ofJob X i 3 = 3
        · rw [if_pos h3, dn_spec hj h8 r 1 (i + 1) lt (by omega)]
          constructor
          · rintro (h | ⟨q, a, b, c⟩)
            · exact absurd h (by decide)
            · exact Or.inr ⟨q, by omega, b, c⟩
          · rintro (h | ⟨q, a, b, c⟩)
            · exact absurd h h2
            · refine Or.inr ⟨q, ?_, b, c⟩
              rcases Nat.lt_or_ge i q with z | z
              · exact z
              · have : q = i := by omega
                subst this
                exact absurd h3 c
        · rw [if_neg h3, dn_spec hj h8 r 0 (i + 1) lt (by omega)]
          exact ⟨fun _ => Or.inr ⟨i, Nat.le_refl _, lt, h3⟩, fun _ => Or.inl rfl⟩
theorem cntO_0 {A : ya} : ∀ j, (cntO A j = 0 ↔ ∀ q, q < j → jb A q 3 = 3)
  | 0 => ⟨fun _ q h => absurd h (by omega), fun _ => rfl⟩
  | j + 1 => by
    rw [cntO]
    by_cases e : jb A j 3 = 3
    · rw [if_pos e, Nat.add_zero, cntO_0 j]
      constructor
      · intro h q hq
        by_cases z : q = j
        · subst z; exact e
        · exact h q (by omega)
      · intro h q hq
        exact h q (by omega)
    · rw [if_neg e]
      constructor
      · intro h; omega
      · intro h; exact absurd (h j (by omega)) e
def finX : Nat → mm_M → Option Nat
  | 0, X => if f_Mo_isAllDone X = 0 then none else some 0
  | t + 1, X => if f_Mo_isAllDone X = 0 then (finX t (f_Mo_secondOfAll X).2).map (· + 1) else some 0
section FIN
variable {n j T : Nat} {A : ya} {X : mm_M}
theorem done_iff (h : RL n j T A X) : sc A 7 = 0 ↔ ¬ f_Mo_isAllDone X = 0 := by
  have h8 := h.1.1.2.1
  have h5 : X 0 5 = nI j := (rd_s6 h.2.1).symm.trans h.1.1.2.2.2.1
  have e1 : f_Mo_isAllDone X = 0 ↔ _ := dn_spec h5 h8 9 1 0 (Nat.zero_le _) (by omega)
  rw [e1, h.1.2.2.2.2.2]
  have e2 : nI (cntO A j) = 0 ↔ cntO A j = 0 := ⟨fun z => nI_inj (by have := cntO_le (A := A) j; omega) (by decide) (z.trans rfl), fun z => by rw [z]; rfl⟩
  rw [e2, cntO_0]
  constructor
  · rintro a (b | ⟨q, b1, b2, b3⟩)
    · exact absurd b (by decide)
    · rw [← rd_j h.2.1 b2 (by decide)] at b3
      exact b3 (a q b2)
  · intro a q hq
    refine Classical.byContradiction fun z => a (Or.inr ⟨q, Nat.zero_le _, hq, ?_⟩)
    rw [← rd_j h.2.1 hq (by decide)]
    exact z
theorem RL_fin : ∀ (t : Nat) (A : ya) (X : mm_M), RL n j T A X → finA t A = finX t X
  | 0, A, X, h => by
    have := done_iff h
    rw [finA, finX]
    by_cases z : f_Mo_isAllDone X = 0
    · rw [if_pos z, if_neg (fun q => this.mp q z)]
    · rw [if_neg z, if_pos (this.mpr z)]
  | t + 1, A, X, h => by
    have := done_iff h
    rw [finA, finX]
    by_cases z : f_Mo_isAllDone X = 0
    · rw [if_pos z, if_neg (fun q => this.mp q z), RL_fin t _ _ (RL_second h)]
    · rw [if_neg z, if_pos (this.mpr z)]
theorem open_le (h : IA n j A) : sc A 7 ≤ 0 ↔ sc A 7 = 0 := by
  obtain ⟨X, T, h⟩ := h
  rw [h.1.2.2.2.2.2]
  have := cntO_le (A := A) j
  have h8 := h.1.1.2.1
  rw [xa_le, xa_eq, nI_toInt (by omega)]
  have : (0 : Int32).toInt = 0 := by decide
  omega
theorem tw2_spec {B : ya} : ∀ (r i : Nat) (P : mm_M) (A : ya), IA n j A → (P 0 8).toInt ≤ 300 → i ≤ 300 → 300 < i + r → (f_tw2 r (P, A) B i).2.1 = match (if (P 0 8).toInt < i then none else finA ((P 0 8).toInt - i).toNat A) with
    | some k => (f_Pl_keepWay P (nI (i + k))).2
    | none => P
  | 0, i, P, A, _, _, _, h => absurd h (by omega)
  | r + 1, i, P, A, hI, hL, hi, hr => by
    have e0 := open_le hI
    have ei : (nI i).toInt = i := nI_toInt (by omega)
    have elt : P 0 8 < nI i ↔ (P 0 8).toInt < i := by rw [xa_lt, ei]
    have ele : P 0 8 ≤ nI i ↔ (P 0 8).toInt ≤ i := by rw [xa_le, ei]
    rw [f_tw2]
    simp only
    by_cases h1 : sc A 7 = 0
    · rw [if_pos (e0.mpr h1), if_pos h1]
      by_cases h2 : P 0 8 < nI i
      · rw [if_pos h2, if_pos (elt.mp h2)]
      · rw [if_neg h2, if_neg (fun z => h2 (elt.mpr z))]
        have : finA ((P 0 8).toInt - ↑i).toNat A = some 0 := by
          cases ((P 0 8).toInt - ↑i).toNat with
          | zero => rw [finA, if_pos h1]
          | succ t => rw [finA, if_pos h1]
        rw [this]
        rfl
    · rw [if_neg (fun z => h1 (e0.mp z))]
      by_cases h2 : P 0 8 ≤ nI i
      · rw [if_pos h2, if_neg h1]
        have h3 := ele.mp h2
        by_cases h4 : (P 0 8).toInt < i
        · rw [if_pos h4]
        · rw [if_neg h4, show ((P 0 8).toInt - ↑i).toNat = 0 by omega, finA, if_neg h1]
      · rw [if_neg h2]
        have h3 : ¬ (P 0 8).toInt ≤ i := fun z => h2 (ele.mpr z)
        have ih := tw2_spec (B := B) r (i + 1) P (f_Yd_passSecond A).2 (IA_sec hI) hL (by omega) (by omega)
        rw [ih, if_neg (by omega), if_neg (by omega), show ((P 0 8).toInt - ↑i).toNat = ((P 0 8).toInt - ↑(i + 1)).toNat + 1 by omega, finA, if_neg h1]
        cases finA ((P 0 8).toInt - ↑(i + 1)).toNat (f_Yd_passSecond A).2 with
        | none => rfl
        | some k =>
          simp only [Option.map]
          rw [show i + 1 + k = i + (k + 1) by omega]
end FIN
/-! a row of numbers -/
def rowl (F : Nat → Int32) : Nat → List Nat → Prop
  | _, [] => True
  | i, v :: w => F i = nI v ∧ rowl F (i + 1) w
theorem rowl_congr {F G : Nat → Int32} : ∀ (w : List Nat) (i : Nat), (∀ k, i ≤ k → k < i + w.length → G k = F k) → rowl F i w → rowl G i w
  | [], _, _, _ => trivial
  | v :: w, i, h, hr => by
    rw [List.length_cons] at h
    exact ⟨(h i (Nat.le_refl _) (by omega)).trans hr.1, rowl_congr w (i + 1) (fun k h1 h2 => h k (by omega) (by omega)) hr.2⟩
theorem rowl_app {F : Nat → Int32} : ∀ (a b : List Nat) (i : Nat), rowl F i (a ++ b) ↔ rowl F i a ∧ rowl F (i + a.length) b
  | [], b, i => by simp [rowl]
  | v :: a, b, i => by
    rw [List.cons_append, rowl, rowl, rowl_app a b (i + 1), List.length_cons, show i + 1 + a.length = i + (a.length + 1) by omega, and_assoc]
theorem tw1_spec {B : ya} : ∀ (w : List Nat) (r i : Nat) (P : mm_M) (A : ya), P 0 5 = nI (i + w.length) → i + w.length ≤ 4 → w.length < r → rowl (P 2) i (w.map (· / 10)) → rowl (P 3) i (w.map (· % 10)) → (∀ v ∈ w, v < 80) → f_tw1 r (P, A) B i = f_tw2 301 (P, w.foldl hnd A) B 0
  | _, 0, _, _, _, _, _, h, _, _, _ => absurd h (by omega)
  | [], r + 1, i, P, A, h5, _, _, _, _, _ => by
    rw [f_tw1]
    simp only
    rw [List.length_nil, Nat.add_zero] at h5
    rw [if_pos (by rw [h5]; exact Int32.le_refl _)]
    rfl
  | v :: w, r + 1, i, P, A, h5, h4, hr, h2, h3, hv => by
    rw [List.length_cons] at h5 h4 hr
    rw [f_tw1]
    simp only
    rw [if_neg (fun z => by rw [h5] at z; have := (nI_leI (by omega) (by omega)).mp z; omega)]
    have a1 : P 2 i = nI (v / 10) := h2.1
    have a2 := h2.2
    have b1 : P 3 i = nI (v % 10) := h3.1
    have b2 := h3.2
    have v80 := hv v List.mem_cons_self
    rw [a1, b1, ix_nI (by omega), ix_nI (by omega)]
    exact tw1_spec w r (i + 1) P _ (by rw [h5, show i + (w.length + 1) = i + 1 + w.length by omega]) (by omega) (by omega) a2 b2 (fun u hu => hv u (List.mem_cons_of_mem _ hu))
theorem kw_spec {x : Int32} : ∀ (w : List Nat) (r i : Nat) (P : mm_M), P 0 5 = nI (i + w.length) → i + w.length ≤ 4 → w.length < r → rowl (P 2) i (w.map (· / 10)) → rowl (P 3) i (w.map (· % 10)) → (∀ v ∈ w, v < 80) → (∀ q k, q ≠ 4 → (f_kw r P x i).2 q k = P q k) ∧ rowl ((f_kw r P x i).2 4) i w ∧ ∀ k, k < i → (f_kw r P x i).2 4 k = P 4 k
  | _, 0, _, _, _, _, h, _, _, _ => absurd h (by omega)
  | [], r + 1, i, P, h5, _, _, _, _, _ => by
    rw [f_kw]
    rw [List.length_nil, Nat.add_zero] at h5
    rw [if_pos (by rw [h5]; exact Int32.le_refl _)]
    exact ⟨fun _ _ _ => rfl, trivial, fun _ _ => rfl⟩
  | v :: w, r + 1, i, P, h5, h4, hr, h2, h3, hv => by
    rw [List.length_cons] at h5 h4 hr
    rw [f_kw]
    rw [if_neg (fun z => by rw [h5] at z; have := (nI_leI (by omega) (by omega)).mp z; omega)]
    have a1 : P 2 i = nI (v / 10) := h2.1
    have a2 := h2.2
    have b1 : P 3 i = nI (v % 10) := h3.1
    have b2 := h3.2
    have v80 := hv v List.mem_cons_self
    have e : 10 * P 2 i + P 3 i = nI v := by
      rw [a1, b1, show (10 : Int32) = nI 10 from rfl, pk_mul, (show nI (10 * (v / 10)) + nI (v % 10) = nI (10 * (v / 10) + v % 10) from (Int32.ofNat_add _ _).symm), show 10 * (v / 10) + v % 10 = v by omega]
    obtain ⟨c1, c2, c3⟩ := kw_spec (x := x) w r (i + 1) (mm_up P 4 i (10 * P 2 i + P 3 i)) (by rw [show mm_up P 4 i (10 * P 2 i + P 3 i) 0 5 = P 0 5 by simp [mm_up], h5, show i + (w.length + 1) = i + 1 + w.length by omega]) (by omega) (by omega) (rowl_congr _ _ (fun k _ _ => by simp [mm_up]) a2) (rowl_congr _ _ (fun k _ _ => by simp [mm_up]) b2) (fun u hu => hv u (List.mem_cons_of_mem _ hu))
    refine ⟨fun q k hq => (c1 q k hq).trans (by simp [mm_up, hq]), ⟨(c3 i (by omega)).trans (by rw [mm_up_at, e]), c2⟩, fun k hk => (c3 k (by omega)).trans (by simp [mm_up]; omega)⟩
/-- the planner's numbers for what the search holds -/
def CR (f t : Nat) (s : Option (Nat × List Nat)) (P : mm_M) : Prop := P 0 5 = nI f ∧ match s with
  | none => P 0 6 = 0 ∧ P 0 7 = -1 ∧ P 0 8 = nI t
  | some q => q.1 ≤ t ∧ q.2.length = f ∧ P 0 6 = nI f ∧ P 0 7 = nI q.1 ∧ P 0 8 = nI q.1 - 1 ∧ rowl (P 4) 0 q.2
theorem keep_spec {w : List Nat} {f t k : Nat} {P : mm_M} (hf : w.length = f) (h4 : f ≤ 4) (h5 : P 0 5 = nI f) (h2 : rowl (P 2) 0 (w.map (· / 10))) (h3 : rowl (P 3) 0 (w.map (· % 10))) (hv : ∀ v ∈ w, v < 80) (hk : k ≤ t) : CR f t (some (k, w)) (f_Pl_keepWay P (nI k)).2 ∧ ∀ q x, 1 ≤ q → q < 4 → (f_Pl_keepWay P (nI k)).2 q x = P q x := by
  subst hf
  unfold f_Pl_keepWay
  generalize hP : mm_up (mm_up (mm_up P 0 7 (nI k)) 0 8 (nI k - 1)) 0 6 ((mm_up (mm_up P 0 7 (nI k)) 0 8 (nI k - 1)) 0 5) = P1
  have e5 : P1 0 5 = nI w.length := by rw [← hP]; simp [mm_up, h5]
  have e6 : P1 0 6 = nI w.length := by rw [← hP]; simp [mm_up, h5]
  have e7 : P1 0 7 = nI k := by rw [← hP]; simp [mm_up]
  have e8 : P1 0 8 = nI k - 1 := by rw [← hP]; simp [mm_up]
  have er : ∀ q x, 1 ≤ q → P1 q x = P q x := fun q x hq => by
    rw [← hP]
    simp only [mm_up]
    rw [if_neg (by omega), if_neg (by omega), if_neg (by omega)]
  obtain ⟨c1, c2, -⟩ := kw_spec (x := nI k) w 5 0 P1 (by rw [e5, Nat.zero_add]) (by omega) (by omega) (rowl_congr _ _ (fun q _ _ => er 2 q (by decide)) h2) (rowl_congr _ _ (fun q _ _ => er 3 q (by decide)) h3) hv
  exact ⟨⟨(c1 0 5 (by decide)).trans e5, hk, rfl, (c1 0 6 (by decide)).trans e6, (c1 0 7 (by decide)).trans e7, (c1 0 8 (by decide)).trans e8, c2⟩, fun q x h1 h4 => (c1 q x (by omega)).trans (er q x h1)⟩
theorem CR_lim0 {f t : Nat} {P : mm_M} (h : CR f t none P) (ht : t ≤ 300) : (P 0 8).toInt = t := by
  obtain ⟨-, -, -, h8⟩ := h
  rw [h8, nI_toInt (by omega)]
theorem CR_limS {f t : Nat} {q : Nat × List Nat} {P : mm_M} (h : CR f t (some q) P) (ht : t ≤ 300) : (P 0 8).toInt = q.1 - 1 := by
  obtain ⟨-, hk, -, -, -, h8, -⟩ := h
  have e1 : (1 : Int32).toInt = 1 := by decide
  rw [h8, xa_sub (by rw [nI_toInt (by omega), e1]; omega) (by rw [nI_toInt (by omega), e1]; omega), nI_toInt (by omega), e1]
theorem CR_lim {f t : Nat} {s : Option (Nat × List Nat)} {P : mm_M} (h : CR f t s P) (ht : t ≤ 300) : (P 0 8).toInt ≤ 300 := by
  cases s with
  | none => rw [CR_lim0 h ht]; omega
  | some q =>
    have hk : q.1 ≤ t := h.2.1
    rw [CR_limS h ht]
    omega
section TRY
variable {n j T : Nat} {B : ya} {X : mm_M} {f t : Nat}
/-- the trial yard stands for the yard -/
theorem try_fin {C : ya} {w : List Nat} (h : RL n j T B X) (hw : VW n j B w) (hT : T + w.length < 2 ^ 31) : (∀ l, finA l (w.foldl hnd (f_Yd_copyOf C B).2) = finA l (w.foldl hnd B)) ∧ IA n j (w.foldl hnd (f_Yd_copyOf C B).2) := by
  have ag := copy_agr (A := C) h.1.1.1 h.1.1.2.1 h.1.1.2.2.1 h.1.1.2.2.2.1
  have hC : RL n j T (f_Yd_copyOf C B).2 X := RL_agr ag h
  have hw2 : VW n j (f_Yd_copyOf C B).2 w := by
    refine ⟨fun v hv => ?_, hw.2⟩
    obtain ⟨a1, a2, a3, a4⟩ := hw.1 v hv
    have hi : v / 10 < j := by omega
    refine ⟨a1, a2, by rw [ag.2.1 _ 3 hi (by decide)]; exact a3, ?_⟩
    unfold yiR at a4 ⊢
    rw [ag.1 _ 1 a2 (by decide) (by decide) (by decide), ag.1 _ 2 a2 (by decide) (by decide) (by decide), ag.2.1 _ 0 hi (by decide), ag.2.1 _ 1 hi (by decide)]
    exact a4
  have r1 := RL_way w _ _ _ hC hw2 hT
  have r2 := RL_way w _ _ _ h hw hT
  exact ⟨fun l => (RL_fin l _ _ r1).trans (RL_fin l _ _ r2).symm, ⟨_, _, r1⟩⟩
theorem try_sim {C : ya} {P : mm_M} {w : List Nat} {s : Option (Nat × List Nat)} (h : RL n j T B X) (hw : VW n j B w) (hT : T + w.length < 2 ^ 31) (hf : w.length = f) (h4 : f ≤ 4) (ht : t ≤ 300) (h2 : rowl (P 2) 0 (w.map (· / 10))) (h3 : rowl (P 3) 0 (w.map (· % 10))) (hs : CR f t s P) {fin : List Nat → Option Nat} (hF : fin w = finA t (w.foldl hnd B)) :
    CR f t (ss_stp fin s w) (f_Pl_tryWay (P, C) B).2.1 ∧ ∀ q x, 1 ≤ q → q < 4 → (f_Pl_tryWay (P, C) B).2.1 q x = P q x := by
  obtain ⟨e1, e2⟩ := try_fin (C := C) h hw hT
  have hv : ∀ v ∈ w, v < 80 := fun v hv => by
    have := (hw.1 v hv).1
    have := h.1.1.2.1
    omega
  have l1 := CR_lim hs ht
  unfold f_Pl_tryWay
  rw [tw1_spec w 5 0 P _ (by rw [hf, Nat.zero_add]; exact hs.1) (by omega) (by omega) h2 h3 hv, tw2_spec 301 0 P _ e2 l1 (Nat.zero_le _) (by omega)]
  unfold ss_stp
  rw [hF]
  have hcut : ∀ l, l ≤ t → finA l (w.foldl hnd (f_Yd_copyOf C B).2) = match finA t (w.foldl hnd B) with
      | some k => if k ≤ l then some k else none
      | none => none := fun l hl => (e1 l).trans (finA_cut l t _ hl)
  have hle : ∀ k, finA t (w.foldl hnd B) = some k → k ≤ t := fun k hk => finA_le _ _ _ hk
  generalize finA t (w.foldl hnd B) = F at hcut hle
  cases s with
  | none =>
    have l2 := CR_lim0 hs ht
    rw [if_neg (by omega), show ((P 0 8).toInt - ↑(0 : Nat)).toNat = t by omega, hcut t (Nat.le_refl _)]
    cases F with
    | none => exact ⟨hs, fun _ _ _ _ => rfl⟩
    | some k =>
      have hk := hle k rfl
      simp only
      rw [if_pos hk]
      simp only [Nat.zero_add]
      exact keep_spec hf h4 hs.1 h2 h3 hv hk
  | some q =>
    have l2 := CR_limS hs ht
    have hq : q.1 ≤ t := hs.2.1
    by_cases z : (P 0 8).toInt < ↑(0 : Nat)
    · rw [if_pos z]
      have q0 : q.1 = 0 := by omega
      cases F with
      | none => exact ⟨hs, fun _ _ _ _ => rfl⟩
      | some k =>
        simp only
        rw [if_neg (by omega)]
        exact ⟨hs, fun _ _ _ _ => trivial⟩
    · rw [if_neg z, show ((P 0 8).toInt - ↑(0 : Nat)).toNat = q.1 - 1 by omega, hcut (q.1 - 1) (by omega)]
      cases F with
      | none => exact ⟨hs, fun _ _ _ _ => rfl⟩
      | some k =>
        have hk := hle k rfl
        simp only
        by_cases z2 : k < q.1
        · rw [if_pos (show k ≤ q.1 - 1 by omega), if_pos z2]
          simp only [Nat.zero_add]
          exact keep_spec hf h4 hs.1 h2 h3 hv hk
        · rw [if_neg (show ¬ k ≤ q.1 - 1 by omega), if_neg z2]
          exact ⟨hs, fun _ _ _ _ => rfl⟩
end TRY
