theorem rp_k1 {k : Nat} : nI (k + 1) + (-1) = nI k := by
  have h : nI (k + 1) - 1 = nI k := nI_m1 (Nat.succ_pos k)
  rw [← h, Int32.sub_eq_add_neg]
theorem rp_nn {k : Nat} (h : k < 2 ^ 31) : ¬ nI k < 0 := fun q => by
  rw [Int32.lt_iff_toInt_lt, nI_toInt h] at q
  have : (0 : Int32).toInt = 0 := by decide
  omega
theorem rp_ne {a b : Nat} (ha : a < 2 ^ 31) (hb : b < 2 ^ 31) (h : a ≠ b) : ¬ nI a = nI b := fun q => h (by
  have := congrArg Int32.toInt q
  rw [nI_toInt ha, nI_toInt hb] at this
  omega)
section RQ
variable {V : Nat → mm_M → Prop} {t f n j d : Nat} {M : mm_M}
set_option maxRecDepth 20000 in
set_option maxHeartbeats 1000000 in
theorem rp_w145 (hf4 : f ≤ 4) {l kk : Int32} {o5 : Option mm_V} {Q : mm_R → Prop} : ∀ (r i : Nat) (X : mm_M) (Mz : mm_M), i + r = f → rv Mz = X → rf M Mz → (∀ (M2 : mm_M) (o6 : Option mm_V), rv M2 = rp_cpb X r i → rf M M2 → mm_Wp pg_Mo_plan rt_Mo_plan (ct_Sem (d + 6)) (M2, 171, [some (.inr (5, 24)), some (.inl (nI t)), some (.inl (nI f)), some (.inl (l)), some (.inl (kk)), o5, o6], []) Q) → mm_Wp pg_Mo_plan rt_Mo_plan (ct_Sem (d + 6)) (Mz, 145, [some (.inr (5, 24)), some (.inl (nI t)), some (.inl (nI f)), some (.inl (l)), some (.inl (kk)), o5, some (.inl (nI i))], []) Q := by
  intro r
  induction r with
  | zero =>
    intro i X Mz hi hA hf hQ
    have e : i = f := by omega
    subst e
    refine wgo (g' := (Mz, 171, [some (.inr (5, 24)), some (.inl (nI t)), some (.inl (nI i)), some (.inl (l)), some (.inl (kk)), o5, some (.inl (nI i))], [])) [oz 0, oz 0, oz 1] rfl ⟨trivial, trivial, Int32.le_refl _, trivial⟩ ?_
    exact hQ _ _ hA hf
  | succ r ih =>
    intro i X Mz hi hA hf hQ
    have hlt : ¬ nI f ≤ nI i := fun q => by
      have := (nI_leI (by omega) (by omega)).mp q
      omega
    refine wgo (g' := (mm_up Mz 30 i (Mz 29 i), 145, [some (.inr (5, 24)), some (.inl (nI t)), some (.inl (nI f)), some (.inl (l)), some (.inl (kk)), o5, some (.inl (nI i + 1))], [])) [oz 0, oz 0, oz 0, oz 0, oz 0, oz 0, oz 0, oz 0, oz 0, oz i, oz i, oz 0, oz 0] rfl ⟨trivial, trivial, hlt, trivial, trivial, trivial, trivial, trivial, trivial, ⟨rfl, (show i < 5 from by omega)⟩, ⟨rfl, (show i < 4 from by omega)⟩, trivial, trivial, trivial⟩ ?_
    rw [nI_1 i]
    have hr : Mz 29 i = X 5 i := by rw [← hA]; rfl
    refine ih (i + 1) (mm_up X 6 i (X 5 i)) (mm_up Mz 30 i (Mz 29 i)) (by omega) (by rw [rv_up 6, hA, hr]) (rf_up hf (by decide)) (fun M2 o6 h1 h2 => hQ M2 o6 h1 h2)
set_option maxRecDepth 20000 in
set_option maxHeartbeats 1000000 in
theorem rp_w188 (h : rp_H V t f n j) {l : Int32} {k : Nat} {o5 o6 : Option mm_V} {Q : mm_R → Prop} (hk : k < 5) : ∀ (r v : Nat) (X : mm_M) (Mz : mm_M), V k X → X 5 k = nI v → v ≤ 10 * j → 10 * j < v + r → rv Mz = X → rf M Mz → (∀ (M2 : mm_M), rv M2 = rp_next r X k → rf M M2 → mm_Wp pg_Mo_plan rt_Mo_plan (ct_Sem (d + 6)) (M2, 228, [some (.inr (5, 24)), some (.inl (nI t)), some (.inl (nI f)), some (.inl (l)), some (.inl (nI k)), o5, o6], []) Q) → mm_Wp pg_Mo_plan rt_Mo_plan (ct_Sem (d + 6)) (Mz, 188, [some (.inr (5, 24)), some (.inl (nI t)), some (.inl (nI f)), some (.inl (l)), some (.inl (nI k)), o5, o6], []) Q := by
  intro r
  induction r with
  | zero => exact fun v X Mz _ _ a b => absurd b (by omega)
  | succ r ih =>
    intro v X Mz hV hv ha hb hA hf hQ
    have c5 := h.2.1 _ _ hV
    have g5 : Mz 24 5 = X 0 5 := by rw [← hA]; rfl
    have gk : Mz 29 k = X 5 k := by rw [← hA]; rfl
    rw [rp_next] at hQ
    refine wgo (g' := (Mz, 202, [some (.inr (5, 24)), some (.inl (nI t)), some (.inl (nI f)), some (.inl (l)), some (.inl (nI k)), o5, o6], [.inl (10 * Mz 24 5), .inl (Mz 29 k)])) [oz 0, oz 0, oz 0, oz k, oz 0, oz 0, oz 0, oz 0] rfl ⟨trivial, trivial, trivial, ⟨rfl, hk⟩, trivial, trivial, trivial, trivial, trivial⟩ ?_
    by_cases q1 : 10 * X 0 5 ≤ X 5 k
    · rw [if_pos q1] at hQ
      refine wgo (g' := (Mz, 228, [some (.inr (5, 24)), some (.inl (nI t)), some (.inl (nI f)), some (.inl (l)), some (.inl (nI k)), o5, o6], [])) [oz 1] rfl ⟨by rw [g5, gk]; exact q1, trivial⟩ ?_
      exact hQ _ hA hf
    · rw [if_neg q1] at hQ
      have lt : v < 10 * j := by
        rcases Nat.lt_or_ge v (10 * j) with z | z
        · exact z
        · exact absurd ((rp_lt10 h.1.2.2 c5.2 hv ha).mpr (by omega)) q1
      have sm := sm_Mo_may (d := d + 3) (M := Mz) (k := k) (n := n) hk (by rw [hA, hv]; exact okx_nI (by have := h.1.2.2; omega) (by decide)) (by rw [hA]; exact ⟨c5.1, h.1.2.1⟩)
      rw [hA] at sm
      refine wgo (g' := (Mz, 211, [some (.inr (5, 24)), some (.inl (nI t)), some (.inl (nI f)), some (.inl (l)), some (.inl (nI k)), o5, o6], [.inl (f_Mo_may X k)])) [oz 0, oz 0, oz 0, oc (some (f_Mo_may X k), Mz)] rfl ⟨by rw [g5, gk]; exact q1, trivial, trivial, ⟨sm, Nat.le_of_ble_eq_true rfl, Nat.le_of_ble_eq_true rfl, ⟨_, rfl⟩⟩, trivial⟩ ?_
      by_cases q2 : f_Mo_may X k = 0
      · rw [if_pos q2] at hQ
        refine wgo (g' := (mm_up Mz 29 k (Mz 29 k + 1), 188, [some (.inr (5, 24)), some (.inl (nI t)), some (.inl (nI f)), some (.inl (l)), some (.inl (nI k)), o5, o6], [])) [oz 0, oz 0, oz 0, oz 0, oz 0, oz k, oz 0, oz 0, oz k, oz 0] rfl ⟨fun z => z q2, trivial, trivial, trivial, trivial, ⟨rfl, hk⟩, trivial, trivial, ⟨rfl, hk⟩, trivial, trivial⟩ ?_
        exact ih (v + 1) (mm_up X 5 k (X 5 k + 1)) _ (h.2.2.1 _ _ _ _ hV (Nat.le_refl _) hk) (by rw [mm_up_at, hv, nI_1]) lt (by omega) (by rw [rv_up 5, hA, gk]) (rf_up hf (by decide)) hQ
      · rw [if_neg q2] at hQ
        refine wgo (g' := (Mz, 228, [some (.inr (5, 24)), some (.inl (nI t)), some (.inl (nI f)), some (.inl (l)), some (.inl (nI k)), o5, o6], [])) [oz 1] rfl ⟨q2, trivial⟩ ?_
        exact hQ _ hA hf
set_option maxRecDepth 20000 in
set_option maxHeartbeats 1000000 in
theorem rp_leaf_w (h : rp_H V t f n j) (hrs : ∀ M1, V f (rv M1) → RS (d + 6) 65 M1 [.inr (5, 24), .inl (nI f), .inl (nI t)] (some (f_Mo_secondsOf (rv M1) f t).1) (f_Mo_secondsOf (rv M1) f t).2) {Q : mm_R → Prop} (l : Int32) (X : mm_M) (Mz : mm_M) (o5 o6 : Option mm_V) (hV : V f X) (hA : rv Mz = X) (hf : rf M Mz) (hQ : ∀ (M2 : mm_M) (o5 o6 : Option mm_V), rv M2 = (rp_leaf t f (X, l)).1 → rf M M2 → mm_Wp pg_Mo_plan rt_Mo_plan (ct_Sem (d + 6)) (M2, 100, [some (.inr (5, 24)), some (.inl (nI t)), some (.inl (nI f)), some (.inl ((rp_leaf t f (X, l)).2)), some (.inl (nI f + (-1))), o5, o6], []) Q) : mm_Wp pg_Mo_plan rt_Mo_plan (ct_Sem (d + 6)) (Mz, 100, [some (.inr (5, 24)), some (.inl (nI t)), some (.inl (nI f)), some (.inl (l)), some (.inl (nI f)), o5, o6], []) Q := by
  have hf4 := h.1.1
  obtain ⟨M1, s1, a1, w1⟩ := hrs Mz (by rw [hA]; exact hV)
  rw [hA] at s1 a1
  have w2 := rf_tr hf w1
  have hl : rp_leaf t f (X, l) = if (f_Mo_secondsOf X f t).1 < 0 then ((f_Mo_secondsOf X f t).2, l) else if l < 0 ∨ (f_Mo_secondsOf X f t).1 < l then (rp_cpb (mm_up (f_Mo_secondsOf X f t).2 0 12 (nI f)) f 0, (f_Mo_secondsOf X f t).1) else ((f_Mo_secondsOf X f t).2, l) := rfl
  rw [hl] at hQ
  generalize f_Mo_secondsOf X f t = U at s1 a1 hQ
  refine wgo (g' := (M1, 121, [some (.inr (5, 24)), some (.inl (nI t)), some (.inl (nI f)), some (.inl (l)), some (.inl (nI f)), some (.inl U.1), o6], [.inl U.1])) [oz 0, oz 0, oz 0, oz 0, oz 0, oz 0, oz 0, oz 0, oc (some U.1, M1), oz 0, oz 0] rfl ⟨trivial, rp_nn (by omega), trivial, trivial, fun z => z rfl, trivial, trivial, trivial, ⟨s1, Nat.le_of_ble_eq_true rfl, Nat.le_of_ble_eq_true rfl, ⟨_, rfl⟩⟩, Nat.le_of_ble_eq_true rfl, trivial, trivial⟩ ?_
  by_cases q1 : U.1 < 0
  · rw [if_pos q1] at hQ
    refine wgo (g' := (M1, 100, [some (.inr (5, 24)), some (.inl (nI t)), some (.inl (nI f)), some (.inl (l)), some (.inl (nI f + (-1))), some (.inl U.1), o6], [])) [oz 1, oz 0, oz 0] rfl ⟨q1, trivial, trivial, trivial⟩ ?_
    exact hQ _ _ _ a1 w2
  · rw [if_neg q1] at hQ
    have key : (l < 0 ∨ U.1 < l) → mm_Wp pg_Mo_plan rt_Mo_plan (ct_Sem (d + 6)) (M1, 134, [some (.inr (5, 24)), some (.inl (nI t)), some (.inl (nI f)), some (.inl (l)), some (.inl (nI f)), some (.inl U.1), o6], []) Q := by
      intro q2
      rw [if_pos q2] at hQ
      refine wgo (g' := (mm_up M1 24 12 (nI f), 145, [some (.inr (5, 24)), some (.inl (nI t)), some (.inl (nI f)), some (.inl (U.1)), some (.inl (nI f)), some (.inl U.1), some (.inl (nI 0))], [])) [oz 0, oz 0, oz 0, oz 0, oz 0, oz 0, oz 0] rfl ⟨trivial, Nat.le_of_ble_eq_true rfl, trivial, trivial, trivial, trivial, Nat.le_of_ble_eq_true rfl, trivial⟩ ?_
      refine rp_w145 hf4 (M := M) f 0 (mm_up U.2 0 12 (nI f)) _ (Nat.zero_add f) (by rw [rv_up 0, a1]) (rf_up w2 (by decide)) (fun M2 o6' h1 h2 => ?_)
      refine wgo (g' := (M2, 100, [some (.inr (5, 24)), some (.inl (nI t)), some (.inl (nI f)), some (.inl (U.1)), some (.inl (nI f + (-1))), some (.inl U.1), o6'], [])) [oz 0, oz 0] rfl ⟨trivial, trivial, trivial⟩ ?_
      exact hQ _ _ _ h1 h2
    refine wgo (g' := (M1, 125, [some (.inr (5, 24)), some (.inl (nI t)), some (.inl (nI f)), some (.inl (l)), some (.inl (nI f)), some (.inl U.1), o6], [.inl l])) [oz 0, oz 0] rfl ⟨q1, trivial, trivial⟩ ?_
    by_cases q2 : l < 0
    · refine wgo (g' := (M1, 134, [some (.inr (5, 24)), some (.inl (nI t)), some (.inl (nI f)), some (.inl (l)), some (.inl (nI f)), some (.inl U.1), o6], [])) [oz 1] rfl ⟨q2, trivial⟩ ?_
      exact key (Or.inl q2)
    · refine wgo (g' := (M1, 131, [some (.inr (5, 24)), some (.inl (nI t)), some (.inl (nI f)), some (.inl (l)), some (.inl (nI f)), some (.inl U.1), o6], [.inl l, .inl U.1])) [oz 0, oz 0, oz 0] rfl ⟨q2, trivial, trivial, trivial⟩ ?_
      by_cases q3 : U.1 < l
      · refine wgo (g' := (M1, 134, [some (.inr (5, 24)), some (.inl (nI t)), some (.inl (nI f)), some (.inl (l)), some (.inl (nI f)), some (.inl U.1), o6], [])) [oz 0] rfl ⟨Int32.not_le.mpr q3, trivial⟩ ?_
        exact key (Or.inr q3)
      · rw [if_neg (fun z => z.elim q2 q3)] at hQ
        refine wgo (g' := (M1, 100, [some (.inr (5, 24)), some (.inl (nI t)), some (.inl (nI f)), some (.inl (l)), some (.inl (nI f + (-1))), some (.inl U.1), o6], [])) [oz 1, oz 0, oz 0] rfl ⟨Int32.not_lt.mp q3, trivial, trivial, trivial⟩ ?_
        exact hQ _ _ _ a1 w2
set_option maxRecDepth 20000 in
set_option maxHeartbeats 1000000 in
theorem rp_lev_w (h : rp_H V t f n j) {Q : mm_R → Prop} {g : mm_M × Int32 → mm_M × Int32} {k : Nat} (hk : k < f) (hg : ∀ S, V (k + 1) S.1 → S.1 5 (k + 1) = -1 → V (k + 1) (g S).1 ∧ ∀ i, i < k + 1 → (g S).1 5 i = S.1 5 i)
    (hgw : ∀ (l : Int32) (X : mm_M) (Mz : mm_M) (o5 o6 : Option mm_V), V (k + 1) X → X 5 (k + 1) = -1 → rv Mz = X → rf M Mz → (∀ (M2 : mm_M) (o5 o6 : Option mm_V), rv M2 = (g (X, l)).1 → rf M M2 → mm_Wp pg_Mo_plan rt_Mo_plan (ct_Sem (d + 6)) (M2, 100, [some (.inr (5, 24)), some (.inl (nI t)), some (.inl (nI f)), some (.inl ((g (X, l)).2)), some (.inl (nI (k + 1) + (-1))), o5, o6], []) Q) → mm_Wp pg_Mo_plan rt_Mo_plan (ct_Sem (d + 6)) (Mz, 100, [some (.inr (5, 24)), some (.inl (nI t)), some (.inl (nI f)), some (.inl (l)), some (.inl (nI (k + 1))), o5, o6], []) Q) :
    ∀ (r v : Nat) (l : Int32) (X : mm_M) (Mz : mm_M) (o5 o6 : Option mm_V), V k X → X 5 k + 1 = nI v → v ≤ 10 * j → 10 * j < v + r → rv Mz = X → rf M Mz → (∀ (M2 : mm_M) (o5 o6 : Option mm_V), rv M2 = (rp_lev g k r (X, l)).1 → rf M M2 → mm_Wp pg_Mo_plan rt_Mo_plan (ct_Sem (d + 6)) (M2, 100, [some (.inr (5, 24)), some (.inl (nI t)), some (.inl (nI f)), some (.inl ((rp_lev g k r (X, l)).2)), some (.inl (nI k + (-1))), o5, o6], []) Q) → mm_Wp pg_Mo_plan rt_Mo_plan (ct_Sem (d + 6)) (Mz, 100, [some (.inr (5, 24)), some (.inl (nI t)), some (.inl (nI f)), some (.inl (l)), some (.inl (nI k)), o5, o6], []) Q := by
  intro r
  induction r with
  | zero => exact fun v l X Mz _ _ _ _ a b => absurd b (by omega)
  | succ r ih =>
    intro v l X Mz o5 o6 hV hv ha hb hA hf hQ
    have hf4 := h.1.1
    have hk5 : k < 5 := by omega
    have gk : Mz 29 k = X 5 k := by rw [← hA]; rfl
    have hV1 := h.2.2.1 _ _ k (X 5 k + 1) hV (Nat.le_refl _) hk5
    obtain ⟨a1, a2, a3⟩ := rp_next_V h hk5 82 (mm_up X 5 k (X 5 k + 1)) hV1
    obtain ⟨w, b1, b2, b3, b4⟩ := a3 v (by rw [mm_up_at, hv]) ha (by have := h.1.2.2; omega)
    refine wgo (g' := (mm_up Mz 29 k (Mz 29 k + 1), 188, [some (.inr (5, 24)), some (.inl (nI t)), some (.inl (nI f)), some (.inl (l)), some (.inl (nI k)), o5, o6], [])) [oz 0, oz 0, oz 0, oz 0, oz 1, oz 0, oz 0, oz 0, oz 0, oz k, oz 0, oz 0, oz k] rfl ⟨trivial, rp_nn (by omega), trivial, trivial, rp_ne (by omega) (by omega) (by omega), trivial, trivial, trivial, trivial, ⟨rfl, hk5⟩, trivial, trivial, ⟨rfl, hk5⟩, trivial⟩ ?_
    refine rp_w188 h hk5 82 v (mm_up X 5 k (X 5 k + 1)) _ hV1 (by rw [mm_up_at, hv]) ha (by have := h.1.2.2; omega) (by rw [rv_up 5, hA, gk]) (rf_up hf (by decide)) (fun M1 h1 h2 => ?_)
    rw [rp_lev] at hQ
    simp only at hQ
    generalize rp_next 82 (mm_up X 5 k (X 5 k + 1)) k = X1 at a1 a2 b3 b4 h1 hQ
    have c5 := (h.2.1 _ _ a1).2
    have g5 : M1 24 5 = X1 0 5 := by rw [← h1]; rfl
    have gk1 : M1 29 k = X1 5 k := by rw [← h1]; rfl
    refine wgo (g' := (M1, 242, [some (.inr (5, 24)), some (.inl (nI t)), some (.inl (nI f)), some (.inl (l)), some (.inl (nI k)), o5, o6], [.inl (10 * M1 24 5), .inl (M1 29 k)])) [oz 0, oz 0, oz 0, oz k, oz 0, oz 0, oz 0, oz 0] rfl ⟨trivial, trivial, trivial, ⟨rfl, hk5⟩, trivial, trivial, trivial, trivial, trivial⟩ ?_
    by_cases q1 : 10 * X1 0 5 ≤ X1 5 k
    · rw [if_pos q1] at hQ
      refine wgo (g' := (M1, 100, [some (.inr (5, 24)), some (.inl (nI t)), some (.inl (nI f)), some (.inl (l)), some (.inl (nI k + (-1))), o5, o6], [])) [oz 1, oz 0, oz 0] rfl ⟨by rw [g5, gk1]; exact q1, trivial, trivial, trivial⟩ ?_
      exact hQ _ _ _ h1 h2
    · rw [if_neg q1] at hQ
      have lt : w < 10 * j := by
        rcases Nat.lt_or_ge w (10 * j) with z | z
        · exact z
        · exact absurd ((rp_lt10 h.1.2.2 c5 b3 b2).mpr (by omega)) q1
      have v1 : V (k + 1) X1 := h.2.2.2.2.2.2.1 _ _ a1 hk (okx_of b3 lt (by have := h.1.2.2; omega)) (b4 lt)
      have hk1 : k + 1 < 5 := by omega
      have v2 := h.2.2.1 _ _ (k + 1) (-1) v1 (Nat.le_refl _) hk1
      obtain ⟨c1, c2⟩ := hg (mm_up X1 5 (k + 1) (-1), l) v2 (mm_up_at _ _ _ _)
      have e1 : ∀ i, i < k + 1 → (g (mm_up X1 5 (k + 1) (-1), l)).1 5 i = X1 5 i := fun i hi => (c2 i hi).trans (by simp [mm_up]; omega)
      refine wgo (g' := (mm_up M1 29 (k + 1) (-1), 100, [some (.inr (5, 24)), some (.inl (nI t)), some (.inl (nI f)), some (.inl (l)), some (.inl (nI k + 1)), o5, o6], [])) [oz 0, oz 0, oz 0, oz 0, oz 0, oz 0, oz (k + 1), oz 0] rfl ⟨by rw [g5, gk1]; exact q1, trivial, trivial, trivial, trivial, trivial, ⟨nI_1 k, hk1⟩, trivial, trivial⟩ ?_
      rw [nI_1 k]
      refine hgw l (mm_up X1 5 (k + 1) (-1)) _ _ _ v2 (mm_up_at _ _ _ _) (by rw [rv_up 5, h1]) (rf_up h2 (by decide)) (fun M2 o5' o6' z1 z2 => ?_)
      rw [rp_k1]
      exact ih (w + 1) (g (mm_up X1 5 (k + 1) (-1), l)).2 _ M2 o5' o6' (h.2.2.2.2.2.1 _ _ c1) (by rw [e1 k (by omega), b3, nI_1]) lt (by omega) z1 z2 hQ
theorem rp_go_w (h : rp_H V t f n j) (hrs : ∀ M1, V f (rv M1) → RS (d + 6) 65 M1 [.inr (5, 24), .inl (nI f), .inl (nI t)] (some (f_Mo_secondsOf (rv M1) f t).1) (f_Mo_secondsOf (rv M1) f t).2) {Q : mm_R → Prop} : ∀ (e k : Nat), k + e = f → ∀ (l : Int32) (X : mm_M) (Mz : mm_M) (o5 o6 : Option mm_V), V k X → (e ≠ 0 → X 5 k = -1) → rv Mz = X → rf M Mz → (∀ (M2 : mm_M) (o5 o6 : Option mm_V), rv M2 = (rp_go t f e k (X, l)).1 → rf M M2 → mm_Wp pg_Mo_plan rt_Mo_plan (ct_Sem (d + 6)) (M2, 100, [some (.inr (5, 24)), some (.inl (nI t)), some (.inl (nI f)), some (.inl ((rp_go t f e k (X, l)).2)), some (.inl (nI k + (-1))), o5, o6], []) Q) → mm_Wp pg_Mo_plan rt_Mo_plan (ct_Sem (d + 6)) (Mz, 100, [some (.inr (5, 24)), some (.inl (nI t)), some (.inl (nI f)), some (.inl (l)), some (.inl (nI k)), o5, o6], []) Q
  | 0, k, hk, l, X, Mz, o5, o6, hV, _, hA, hf, hQ => by
    have hk' : k = f := by omega
    subst hk'
    exact rp_leaf_w h hrs l X Mz o5 o6 hV hA hf hQ
  | e + 1, k, hk, l, X, Mz, o5, o6, hV, h1, hA, hf, hQ => by
    refine rp_lev_w h (g := rp_go t f e (k + 1)) (by omega) (fun S' hS' h' => rp_go_V h e (k + 1) (by omega) S' hS' (fun _ => h')) (fun l X Mz o5 o6 a1 a2 a3 a4 a5 => rp_go_w h hrs e (k + 1) (by omega) l X Mz o5 o6 a1 (fun _ => a2) a3 a4 a5) 82 0 l X Mz o5 o6 hV ?_ (Nat.zero_le _) (by have := h.1.2.2; omega) hA hf hQ
    rw [h1 (by omega)]; rfl
end RQ
def rp_cf (X : mm_M) : Nat → Nat
  | 0 => 0
  | i + 1 => rp_cf X i + if f_Mo_ofJob X i 3 = 0 then 1 else 0
theorem rp_cf_le {X : mm_M} : ∀ i, rp_cf X i ≤ i
  | 0 => Nat.le_refl _
  | i + 1 => by
    have := rp_cf_le (X := X) i
    rw [rp_cf]
    split <;> omega
set_option maxRecDepth 20000 in
set_option maxHeartbeats 1000000 in
theorem rp_w4 {d : Nat} {M : mm_M} {x : Int32} {j : Nat} (hj8 : j ≤ 8) (hj : rv M 0 5 = nI j) {Q : mm_R → Prop} (hQ : mm_Wp pg_Mo_plan rt_Mo_plan (ct_Sem (d + 6)) (M, 35, [some (.inr (5, 24)), some (.inl x), some (.inl (nI (rp_cf (rv M) j))), some (.inl (nI j)), none, none, none], []) Q) : ∀ (r i : Nat), i + r = j → mm_Wp pg_Mo_plan rt_Mo_plan (ct_Sem (d + 6)) (M, 4, [some (.inr (5, 24)), some (.inl x), some (.inl (nI (rp_cf (rv M) i))), some (.inl (nI i)), none, none, none], []) Q := by
  have g5 : M 24 5 = nI j := hj
  intro r
  induction r with
  | zero =>
    intro i hi
    have e : i = j := by omega
    subst e
    exact wgo (g' := (M, 35, [some (.inr (5, 24)), some (.inl x), some (.inl (nI (rp_cf (rv M) i))), some (.inl (nI i)), none, none, none], [])) [oz 0, oz 0, oz 0, oz 1] rfl ⟨trivial, trivial, trivial, (show M 24 5 ≤ nI i from by rw [g5]; exact Int32.le_refl _), trivial⟩ hQ
  | succ r ih =>
    intro i hi
    have lt : ¬ M 24 5 ≤ nI i := by
      rw [g5]
      intro q
      have := (nI_leI (by omega) (by omega)).mp q
      omega
    have s1 := sm_Mo_ofJob (d := d + 5) (M := M) (j := i) (w := 3) (by omega)
    refine wgo (g' := (M, 19, [some (.inr (5, 24)), some (.inl x), some (.inl (nI (rp_cf (rv M) i))), some (.inl (nI i)), none, none, none], [.inl (f_Mo_ofJob (rv M) i 3), .inl (nI (rp_cf (rv M) i))])) [oz 0, oz 0, oz 0, oz 0, oz 0, oz 0, oz 0, oz 0, oc (some (f_Mo_ofJob (rv M) i 3), M)] rfl ⟨trivial, trivial, trivial, lt, trivial, trivial, trivial, trivial, ⟨s1, Nat.le_of_ble_eq_true rfl, Nat.le_of_ble_eq_true rfl, ⟨_, rfl⟩⟩, trivial⟩ ?_
    by_cases q : f_Mo_ofJob (rv M) i 3 = 0
    · refine wgo (g' := (M, 4, [some (.inr (5, 24)), some (.inl x), some (.inl (nI (rp_cf (rv M) i) + 1)), some (.inl (nI i + 1)), none, none, none], [])) [oz 0, oz 0, oz 0, oz 0, oz 0, oz 0, oz 0] rfl ⟨fun z => z q, trivial, trivial, trivial, Nat.le_of_ble_eq_true rfl, trivial, trivial, trivial⟩ ?_
      have := ih (i + 1) (by omega)
      rw [rp_cf, if_pos q] at this
      rw [nI_1, nI_1]; exact this
    · refine wgo (g' := (M, 4, [some (.inr (5, 24)), some (.inl x), some (.inl (nI (rp_cf (rv M) i) + 0)), some (.inl (nI i + 1)), none, none, none], [])) [oz 1, oz 0, oz 0, oz 0, oz 0, oz 0] rfl ⟨q, trivial, trivial, Nat.le_of_ble_eq_true rfl, trivial, trivial, trivial⟩ ?_
      have := ih (i + 1) (by omega)
      rw [rp_cf, if_neg q] at this
      rw [nI_p0, nI_1]; exact this
def rp_T (X : mm_M) (x : Int32) (j : Nat) : Int32 × mm_M := f_Mo_throwing X (if X 0 1 = 0 then 1 else 0) (if f_Mo_in x 1 300 = 0 then 1 else 0) (if nI (rp_cf X j) ≤ 4 then 0 else 1) 0
def rp_S (X : mm_M) (x : Int32) (j : Nat) : mm_M × Int32 := rp_go (ix x) (rp_cf X j) (rp_cf X j) 0 (mm_up (mm_up (rp_T X x j).2 0 12 0) 5 0 (-1), -1)
def f_Mo_plan (X : mm_M) (x : Int32) (j : Nat) : Int32 × mm_M := if (rp_T X x j).1 = 0 then ((rp_S X x j).2, (rp_S X x j).1) else (0, (rp_T X x j).2)
theorem thr_0 {X : mm_M} {p1 p2 p3 : Int32} (h : (f_Mo_throwing X p1 p2 p3 0).1 = 0) : p1 = 0 ∧ p2 = 0 ∧ p3 = 0 := by
  have key : ∀ t : Int32, 0 < t → ¬ (f_thr X p1 p2 p3 0 t).1 = 0 := fun t ht => by
    unfold f_thr
    rw [if_neg (by rw [mm_up_at]; exact Int32.not_le.mpr ht)]
    exact (by decide : ¬ (1 : Int32) = 0)
  unfold f_Mo_throwing at h
  by_cases h1 : p1 = 0
  · rw [if_pos h1] at h
    by_cases h2 : p2 = 0
    · rw [if_pos h2] at h
      by_cases h3 : p3 = 0
      · exact ⟨h1, h2, h3⟩
      · rw [if_neg h3] at h; exact absurd h (key 3 (by decide))
    · rw [if_neg h2] at h; exact absurd h (key 2 (by decide))
  · rw [if_neg h1] at h; exact absurd h (key 1 (by decide))
theorem rp_in {x : Int32} (h : ¬ f_Mo_in x 1 300 = 0) : x = nI (ix x) ∧ 1 ≤ ix x ∧ ix x ≤ 300 := by
  unfold f_Mo_in at h
  by_cases q1 : x < 1
  · rw [if_pos q1] at h; exact absurd rfl h
  · rw [if_neg q1] at h
    by_cases q2 : (300 : Int32) < x
    · rw [if_pos q2] at h; exact absurd rfl h
    · have e1 : (1 : Int32).toInt = 1 := by decide
      have e3 : (300 : Int32).toInt = 300 := by decide
      have q3 : ¬ x < 0 := fun z => q1 (by
        rw [Int32.lt_iff_toInt_lt] at z ⊢
        have e0 : (0 : Int32).toInt = 0 := by decide
        omega)
      obtain ⟨k, hk, rfl⟩ := nI_of q3
      rw [Int32.lt_iff_toInt_lt, nI_toInt hk] at q1 q2
      rw [ix_nI hk]
      exact ⟨rfl, by omega, by omega⟩
set_option maxRecDepth 20000 in
set_option maxHeartbeats 1000000 in
theorem rs_Mo_plan {d : Nat} {M : mm_M} {x : Int32} {n j : Nat} {V : Nat → mm_M → Prop} (hj8 : j ≤ 8) (hn : rv M 0 1 = nI n) (hj : rv M 0 5 = nI j)
    (hH : rp_cf (rv M) j ≤ 4 → 1 ≤ ix x → ix x ≤ 300 → rp_H V (ix x) (rp_cf (rv M) j) n j) (hrs : ∀ M1, 1 ≤ ix x → ix x ≤ 300 → V (rp_cf (rv M) j) (rv M1) → RS (d + 6) 65 M1 [.inr (5, 24), .inl (nI (rp_cf (rv M) j)), .inl (nI (ix x))] (some (f_Mo_secondsOf (rv M1) (rp_cf (rv M) j) (ix x)).1) (f_Mo_secondsOf (rv M1) (rp_cf (rv M) j) (ix x)).2)
    (hV0 : (rp_T (rv M) x j).1 = 0 → V 0 (mm_up (mm_up (rp_T (rv M) x j).2 0 12 0) 5 0 (-1))) : RS (d + 7) 68 M [.inr (5, 24), .inl x] (some (f_Mo_plan (rv M) x j).1) (f_Mo_plan (rv M) x j).2 := by
  refine RS_of (Nat.le_of_ble_eq_true rfl) ?_
  show mm_Wp pg_Mo_plan rt_Mo_plan (ct_Sem (d + 6)) (M, 0, [some (.inr (5, 24)), some (.inl x), none, none, none, none, none], []) _
  refine wgo (g' := (M, 4, [some (.inr (5, 24)), some (.inl x), some (.inl (nI (rp_cf (rv M) 0))), some (.inl (nI 0)), none, none, none], [])) [oz 0, oz 0, oz 0, oz 0] rfl ⟨trivial, Nat.le_of_ble_eq_true rfl, trivial, Nat.le_of_ble_eq_true rfl, trivial⟩ ?_
  refine rp_w4 hj8 hj ?_ j 0 (Nat.zero_add j)
  have g1 : M 24 1 = rv M 0 1 := rfl
  have hfl := rp_cf_le (X := rv M) j
  have hT : rp_T (rv M) x j = f_Mo_throwing (rv M) (if rv M 0 1 = 0 then 1 else 0) (if f_Mo_in x 1 300 = 0 then 1 else 0) (if nI (rp_cf (rv M) j) ≤ 4 then 0 else 1) 0 := rfl
  have hP : f_Mo_plan (rv M) x j = if (rp_T (rv M) x j).1 = 0 then ((rp_S (rv M) x j).2, (rp_S (rv M) x j).1) else (0, (rp_T (rv M) x j).2) := rfl
  have hS : rp_S (rv M) x j = rp_go (ix x) (rp_cf (rv M) j) (rp_cf (rv M) j) 0 (mm_up (mm_up (rp_T (rv M) x j).2 0 12 0) 5 0 (-1), -1) := rfl
  rw [hP]
  clear hP
  have hin : f_Mo_in x 1 300 = 0 ∨ x = nI (ix x) ∧ 1 ≤ ix x ∧ ix x ≤ 300 := by
    by_cases q : f_Mo_in x 1 300 = 0
    · exact Or.inl q
    · exact Or.inr (rp_in q)
  have hle : nI (rp_cf (rv M) j) ≤ 4 → rp_cf (rv M) j ≤ 4 := fun q => (nI_leI (b := 4) (by omega) (by decide)).mp q
  generalize hS9 : rp_S (rv M) x j = S9 at hS ⊢
  generalize hF : rp_cf (rv M) j = F at hH hrs hT hS hfl hle ⊢
  have s1 := sm_Mo_in (d := d + 5) (M := M) (v := x) (a := 1) (e := 300)
  obtain ⟨M1, s2, a1, w1⟩ := rs_Mo_throwing (d := d + 5) (M := M) (p1 := if rv M 0 1 = 0 then 1 else 0) (p2 := if f_Mo_in x 1 300 = 0 then 1 else 0) (p3 := if nI F ≤ 4 then 0 else 1) (p4 := 0)
  rw [← hT] at s2 a1
  -- with the four arguments on the stack
  have k74 : mm_Wp pg_Mo_plan rt_Mo_plan (ct_Sem (d + 6)) (M, 74, [some (.inr (5, 24)), some (.inl x), some (.inl (nI F)), some (.inl (nI j)), none, none, none], [.inl (if nI F ≤ 4 then 0 else 1), .inl (if f_Mo_in x 1 300 = 0 then 1 else 0), .inl (if rv M 0 1 = 0 then 1 else 0), .inr (5, 24)]) (rQ M (some (if (rp_T (rv M) x j).1 = 0 then (S9.2, S9.1) else (0, (rp_T (rv M) x j).2)).1) (if (rp_T (rv M) x j).1 = 0 then (S9.2, S9.1) else (0, (rp_T (rv M) x j).2)).2) := by
    refine wgo (g' := (M1, 78, [some (.inr (5, 24)), some (.inl x), some (.inl (nI F)), some (.inl (nI j)), none, none, none], [.inl (rp_T (rv M) x j).1])) [oz 0, oc (some (rp_T (rv M) x j).1, M1)] rfl ⟨trivial, ⟨s2, Nat.le_of_ble_eq_true rfl, Nat.le_of_ble_eq_true rfl, ⟨_, rfl⟩⟩, trivial⟩ ?_
    by_cases q : (rp_T (rv M) x j).1 = 0
    · rw [if_pos q]
      rw [hT] at q
      obtain ⟨p1, p2, p3⟩ := thr_0 q
      rw [← hT] at q
      have z2 : ¬ f_Mo_in x 1 300 = 0 := fun z => by rw [if_pos z] at p2; exact absurd p2 (by decide)
      have z3 : nI F ≤ 4 := Classical.byContradiction fun z => by rw [if_neg z] at p3; exact absurd p3 (by decide)
      obtain ⟨x1, x2, x3⟩ := hin.resolve_left z2
      have hF4 := hle z3
      have hH' := hH hF4 x2 x3
      refine wgo (g' := (mm_up (mm_up M1 24 12 0) 29 0 (-1), 100, [some (.inr (5, 24)), some (.inl x), some (.inl (nI F)), some (.inl (-1)), some (.inl (nI 0)), none, none], [])) [oz 1, oz 0, oz 0, oz 0, oz 0, oz 0, oz 0, oz 0, oz 0, oz 0, oz 0, oz 0, oz 0] rfl ⟨q, trivial, trivial, trivial, trivial, Nat.le_of_ble_eq_true rfl, trivial, Nat.le_of_ble_eq_true rfl, trivial, trivial, trivial, trivial, ⟨rfl, by decide⟩, trivial⟩ ?_
      rw [x1]
      refine rp_go_w (M := M) hH' (fun M1 hM1 => hrs M1 x2 x3 hM1) F 0 (Nat.zero_add F) (-1) (mm_up (mm_up (rp_T (rv M) x j).2 0 12 0) 5 0 (-1)) _ none none (hV0 q) (fun _ => mm_up_at _ _ _ _) (by rw [rv_up 5, rv_up 0, a1]) (rf_up (rf_up w1 (by decide)) (by decide)) (fun M2 o5 o6 z1 z2 => ?_)
      refine wgo (g' := (M2, 266, [some (.inr (5, 24)), some (.inl (nI (ix x))), some (.inl (nI F)), some (.inl _), some (.inl (nI 0 + (-1))), o5, o6], [.inl _])) [oz 0, oz 1, oz 0] rfl ⟨trivial, (by decide), trivial, trivial⟩ ?_
      rw [hS]
      exact wend ⟨_, rfl, rfl⟩ ⟨rfl, z1, z2⟩
    · rw [if_neg q]
      refine wgo (g' := (M1, 82, [some (.inr (5, 24)), some (.inl x), some (.inl (nI F)), some (.inl (nI j)), none, none, none], [.inl 0])) [oz 0, oz 0] rfl ⟨q, trivial, trivial⟩ ?_
      exact wend ⟨_, rfl, rfl⟩ ⟨rfl, a1, w1⟩
  generalize rQ M (some (if (rp_T (rv M) x j).1 = 0 then (S9.2, S9.1) else (0, (rp_T (rv M) x j).2)).1) (if (rp_T (rv M) x j).1 = 0 then (S9.2, S9.1) else (0, (rp_T (rv M) x j).2)).2 = QQ at k74 ⊢
  have k64 : mm_Wp pg_Mo_plan rt_Mo_plan (ct_Sem (d + 6)) (M, 64, [some (.inr (5, 24)), some (.inl x), some (.inl (nI F)), some (.inl (nI j)), none, none, none], [.inl (if f_Mo_in x 1 300 = 0 then 1 else 0), .inl (if rv M 0 1 = 0 then 1 else 0), .inr (5, 24)]) QQ := by
    generalize (if f_Mo_in x 1 300 = 0 then (1 : Int32) else 0) = a2 at k74 ⊢
    generalize (if rv M 0 1 = 0 then (1 : Int32) else 0) = a3 at k74 ⊢
    by_cases q : nI F ≤ 4
    · rw [if_pos q] at k74
      exact wgo (g' := (M, 74, [some (.inr (5, 24)), some (.inl x), some (.inl (nI F)), some (.inl (nI j)), none, none, none], [.inl 0, .inl a2, .inl a3, .inr (5, 24)])) [oz 0, oz 0, oz 1, oz 0] rfl ⟨trivial, trivial, q, trivial, trivial⟩ k74
    · rw [if_neg q] at k74
      exact wgo (g' := (M, 74, [some (.inr (5, 24)), some (.inl x), some (.inl (nI F)), some (.inl (nI j)), none, none, none], [.inl 1, .inl a2, .inl a3, .inr (5, 24)])) [oz 0, oz 0, oz 0, oz 0, oz 0] rfl ⟨trivial, trivial, q, trivial, trivial, trivial⟩ k74
  have k48 : mm_Wp pg_Mo_plan rt_Mo_plan (ct_Sem (d + 6)) (M, 48, [some (.inr (5, 24)), some (.inl x), some (.inl (nI F)), some (.inl (nI j)), none, none, none], [.inl (if rv M 0 1 = 0 then 1 else 0), .inr (5, 24)]) QQ := by
    generalize (if rv M 0 1 = 0 then (1 : Int32) else 0) = a3 at k64 ⊢
    refine wgo (g' := (M, 56, [some (.inr (5, 24)), some (.inl x), some (.inl (nI F)), some (.inl (nI j)), none, none, none], [.inl (f_Mo_in x 1 300), .inl a3, .inr (5, 24)])) [oz 0, oz 0, oz 0, oc (some (f_Mo_in x 1 300), M)] rfl ⟨trivial, trivial, trivial, ⟨s1, Nat.le_of_ble_eq_true rfl, Nat.le_of_ble_eq_true rfl, trivial⟩, trivial⟩ ?_
    by_cases q : f_Mo_in x 1 300 = 0
    · rw [if_pos q] at k64
      exact wgo (g' := (M, 64, [some (.inr (5, 24)), some (.inl x), some (.inl (nI F)), some (.inl (nI j)), none, none, none], [.inl 1, .inl a3, .inr (5, 24)])) [oz 0, oz 0, oz 0] rfl ⟨fun z => z q, trivial, trivial, trivial⟩ k64
    · rw [if_neg q] at k64
      exact wgo (g' := (M, 64, [some (.inr (5, 24)), some (.inl x), some (.inl (nI F)), some (.inl (nI j)), none, none, none], [.inl 0, .inl a3, .inr (5, 24)])) [oz 1, oz 0] rfl ⟨q, trivial, trivial⟩ k64
  by_cases q : rv M 0 1 = 0
  · rw [if_pos q] at k48
    exact wgo (g' := (M, 48, [some (.inr (5, 24)), some (.inl x), some (.inl (nI F)), some (.inl (nI j)), none, none, none], [.inl 1, .inr (5, 24)])) [oz 0, oz 0, oz 0, oz 0, oz 0, oz 0] rfl ⟨trivial, trivial, trivial, fun z => z q, trivial, trivial, trivial⟩ k48
  · rw [if_neg q] at k48
    exact wgo (g' := (M, 48, [some (.inr (5, 24)), some (.inl x), some (.inl (nI F)), some (.inl (nI j)), none, none, none], [.inl 0, .inr (5, 24)])) [oz 0, oz 0, oz 0, oz 1, oz 0] rfl ⟨trivial, trivial, trivial, q, trivial, trivial⟩ k48
