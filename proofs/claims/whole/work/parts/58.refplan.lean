/-! THE REFERENCE'S plan: its search by levels -/
def rp_cpb (X : mm_M) : Nat → Nat → mm_M
  | 0, _ => X
  | r + 1, i => rp_cpb (mm_up X 6 i (X 5 i)) r (i + 1)
def rp_leaf (t f : Nat) (S : mm_M × Int32) : mm_M × Int32 :=
  if (f_Mo_secondsOf S.1 f t).1 < 0 then ((f_Mo_secondsOf S.1 f t).2, S.2)
  else if S.2 < 0 ∨ (f_Mo_secondsOf S.1 f t).1 < S.2 then (rp_cpb (mm_up (f_Mo_secondsOf S.1 f t).2 0 12 (nI f)) f 0, (f_Mo_secondsOf S.1 f t).1)
  else ((f_Mo_secondsOf S.1 f t).2, S.2)
def rp_next : Nat → mm_M → Nat → mm_M
  | 0, X, _ => X
  | r + 1, X, k => if 10 * X 0 5 ≤ X 5 k then X else if f_Mo_may X k = 0 then rp_next r (mm_up X 5 k (X 5 k + 1)) k else X
def rp_lev (g : mm_M × Int32 → mm_M × Int32) (k : Nat) : Nat → mm_M × Int32 → mm_M × Int32
  | 0, S => S
  | r + 1, S => if 10 * (rp_next 82 (mm_up S.1 5 k (S.1 5 k + 1)) k) 0 5 ≤ (rp_next 82 (mm_up S.1 5 k (S.1 5 k + 1)) k) 5 k then (rp_next 82 (mm_up S.1 5 k (S.1 5 k + 1)) k, S.2)
    else rp_lev g k r (g (mm_up (rp_next 82 (mm_up S.1 5 k (S.1 5 k + 1)) k) 5 (k + 1) (-1), S.2))
def rp_go (t f : Nat) : Nat → Nat → mm_M × Int32 → mm_M × Int32
  | 0, _ => rp_leaf t f
  | e + 1, k => rp_lev (rp_go t f e (k + 1)) k 82
/-- what the search needs of the rows, by levels -/
def rp_H (V : Nat → mm_M → Prop) (t f n j : Nat) : Prop :=
  (f ≤ 4 ∧ n ≤ 3 ∧ j ≤ 8) ∧ (∀ k X, V k X → X 0 1 = nI n ∧ X 0 5 = nI j) ∧ (∀ k X i v, V k X → k ≤ i → i < 5 → V k (mm_up X 5 i v)) ∧ (∀ k X v, V k X → V k (mm_up X 0 12 v)) ∧ (∀ k X i v, V k X → V k (mm_up X 6 i v)) ∧ (∀ k X, V (k + 1) X → V k X) ∧ (∀ k X, V k X → k < f → okx (10 * j) (X 5 k) → ¬ f_Mo_may X k = 0 → V (k + 1) X) ∧ (∀ X, V f X → V f (f_Mo_secondsOf X f t).2 ∧ ∀ i, (f_Mo_secondsOf X f t).2 5 i = X 5 i)
section RP
variable {V : Nat → mm_M → Prop} {t f n j : Nat}
theorem rp_cpb_V {k : Nat} (h : rp_H V t f n j) : ∀ (r i : Nat) (X : mm_M), V k X → V k (rp_cpb X r i)
  | 0, _, X, hX => hX
  | r + 1, i, X, hX => rp_cpb_V h r (i + 1) _ (h.2.2.2.2.1 _ _ _ _ hX)
theorem rp_cpb_5 : ∀ (r i : Nat) (X : mm_M) (q : Nat), rp_cpb X r i 5 q = X 5 q
  | 0, _, X, q => rfl
  | r + 1, i, X, q => (rp_cpb_5 r (i + 1) _ q).trans (by simp [mm_up])
theorem rp_leaf_V (h : rp_H V t f n j) {S : mm_M × Int32} (hS : V f S.1) : V f (rp_leaf t f S).1 ∧ ∀ i, (rp_leaf t f S).1 5 i = S.1 5 i := by
  obtain ⟨h1, h2⟩ := h.2.2.2.2.2.2.2 _ hS
  unfold rp_leaf
  by_cases q1 : (f_Mo_secondsOf S.1 f t).1 < 0
  · rw [if_pos q1]; exact ⟨h1, h2⟩
  · rw [if_neg q1]
    by_cases q2 : S.2 < 0 ∨ (f_Mo_secondsOf S.1 f t).1 < S.2
    · rw [if_pos q2]
      exact ⟨rp_cpb_V h _ _ _ (h.2.2.2.1 _ _ _ h1), fun i => (rp_cpb_5 _ _ _ i).trans ((by simp [mm_up] : mm_up _ 0 12 _ 5 i = _).trans (h2 i))⟩
    · rw [if_neg q2]; exact ⟨h1, h2⟩
theorem rp_next_V (h : rp_H V t f n j) {k : Nat} (hk : k < 5) : ∀ (r : Nat) (X : mm_M), V k X → V k (rp_next r X k) ∧ (∀ i, i ≠ k → rp_next r X k 5 i = X 5 i) ∧ (∀ v, X 5 k = nI v → v ≤ 10 * j → 10 * j < v + r → ∃ w, v ≤ w ∧ w ≤ 10 * j ∧ rp_next r X k 5 k = nI w ∧ (w < 10 * j → ¬ f_Mo_may (rp_next r X k) k = 0))
  | 0, X, hX => ⟨hX, fun _ _ => rfl, fun v _ a b => absurd b (by omega)⟩
  | r + 1, X, hX => by
    have h5 := (h.2.1 _ _ hX).2
    rw [rp_next]
    by_cases q1 : 10 * X 0 5 ≤ X 5 k
    · rw [if_pos q1]
      refine ⟨hX, fun _ _ => rfl, fun v hv a b => ⟨v, Nat.le_refl _, a, hv, fun q => ?_⟩⟩
      rw [h5, hv, show (10 : Int32) = nI 10 from rfl, pk_mul] at q1
      have := (nI_leI (a := 10 * j) (b := v) (by have := h.1.2.2; omega) (by have := h.1.2.2; omega)).mp q1
      omega
    · rw [if_neg q1]
      by_cases q2 : f_Mo_may X k = 0
      · rw [if_pos q2]
        obtain ⟨a1, a2, a3⟩ := rp_next_V h hk r (mm_up X 5 k (X 5 k + 1)) (h.2.2.1 _ _ _ _ hX (Nat.le_refl _) hk)
        refine ⟨a1, fun i hi => (a2 i hi).trans (by simp [mm_up, hi]), fun v hv a b => ?_⟩
        have lt : v < 10 * j := by
          rw [h5, hv, show (10 : Int32) = nI 10 from rfl, pk_mul] at q1
          rcases Nat.lt_or_ge v (10 * j) with z | z
          · exact z
          · exact absurd (nI_le z (by have := h.1.2.2; omega)) q1
        obtain ⟨w, b1, b2, b3, b4⟩ := a3 (v + 1) (by rw [mm_up_at, hv, nI_1]) lt (by omega)
        exact ⟨w, by omega, b2, b3, b4⟩
      · rw [if_neg q2]
        exact ⟨hX, fun _ _ => rfl, fun v hv a b => ⟨v, Nat.le_refl _, a, hv, fun _ => q2⟩⟩
theorem rp_lt10 {X : mm_M} {k w : Nat} (hj : j ≤ 8) (h5 : X 0 5 = nI j) (hw : X 5 k = nI w) (hw2 : w ≤ 10 * j) : (10 * X 0 5 ≤ X 5 k) ↔ ¬ w < 10 * j := by
  rw [h5, hw, show (10 : Int32) = nI 10 from rfl, pk_mul]
  constructor
  · intro q
    have := (nI_leI (a := 10 * j) (b := w) (by omega) (by omega)).mp q
    omega
  · intro q
    exact nI_le (by omega) (by omega)
theorem rp_lev_V (h : rp_H V t f n j) {g : mm_M × Int32 → mm_M × Int32} {k : Nat} (hk : k < f) (hg : ∀ S, V (k + 1) S.1 → S.1 5 (k + 1) = -1 → V (k + 1) (g S).1 ∧ ∀ i, i < k + 1 → (g S).1 5 i = S.1 5 i) : ∀ (r v : Nat) (S : mm_M × Int32), V k S.1 → S.1 5 k + 1 = nI v → v ≤ 10 * j → 10 * j < v + r → V k (rp_lev g k r S).1 ∧ ∀ i, i < k → (rp_lev g k r S).1 5 i = S.1 5 i
  | 0, v, S, hS, hv, a, b => absurd b (by omega)
  | r + 1, v, S, hS, hv, a, b => by
    have hk5 : k < 5 := by have := h.1.1; omega
    obtain ⟨a1, a2, a3⟩ := rp_next_V h hk5 82 (mm_up S.1 5 k (S.1 5 k + 1)) (h.2.2.1 _ _ _ _ hS (Nat.le_refl _) hk5)
    obtain ⟨w, b1, b2, b3, b4⟩ := a3 v (by rw [mm_up_at, hv]) a (by have := h.1.2.2; omega)
    rw [rp_lev]
    generalize rp_next 82 (mm_up S.1 5 k (S.1 5 k + 1)) k = X1 at a1 a2 b3 b4
    have c5 := (h.2.1 _ _ a1).2
    have hlow : ∀ i, i < k → X1 5 i = S.1 5 i := fun i hi => (a2 i (by omega)).trans (by simp [mm_up]; omega)
    by_cases q1 : 10 * X1 0 5 ≤ X1 5 k
    · rw [if_pos q1]
      exact ⟨a1, hlow⟩
    · rw [if_neg q1]
      have lt : w < 10 * j := by
        rcases Nat.lt_or_ge w (10 * j) with z | z
        · exact z
        · exact absurd ((rp_lt10 h.1.2.2 c5 b3 b2).mpr (by omega)) q1
      have v1 : V (k + 1) X1 := h.2.2.2.2.2.2.1 _ _ a1 hk (okx_of b3 lt (by have := h.1.2.2; omega)) (b4 lt)
      have hk1 : k + 1 < 5 := by have := h.1.1; omega
      have v2 := h.2.2.1 _ _ (k + 1) (-1) v1 (Nat.le_refl _) hk1
      obtain ⟨c1, c2⟩ := hg (mm_up X1 5 (k + 1) (-1), S.2) v2 (mm_up_at _ _ _ _)
      have e1 : ∀ i, i < k + 1 → (g (mm_up X1 5 (k + 1) (-1), S.2)).1 5 i = X1 5 i := fun i hi => (c2 i hi).trans (by simp [mm_up]; omega)
      obtain ⟨d1, d2⟩ := rp_lev_V h hk hg r (w + 1) (g (mm_up X1 5 (k + 1) (-1), S.2)) (h.2.2.2.2.2.1 _ _ c1) (by rw [e1 k (by omega), b3, nI_1]) lt (by omega)
      exact ⟨d1, fun i hi => (d2 i hi).trans ((e1 i (by omega)).trans (hlow i hi))⟩
theorem rp_go_V (h : rp_H V t f n j) : ∀ (e k : Nat), k + e = f → ∀ (S : mm_M × Int32), V k S.1 → (e ≠ 0 → S.1 5 k = -1) → V k (rp_go t f e k S).1 ∧ ∀ i, i < k → (rp_go t f e k S).1 5 i = S.1 5 i
  | 0, k, hk, S, hS, _ => by
    have hk' : k = f := by omega
    subst hk'
    obtain ⟨a, b⟩ := rp_leaf_V h hS
    exact ⟨a, fun i _ => b i⟩
  | e + 1, k, hk, S, hS, h1 => by
    refine rp_lev_V h (by omega) (fun S' hS' h' => rp_go_V h e (k + 1) (by omega) S' hS' (fun _ => h')) 82 0 S hS ?_ (Nat.zero_le _) (by have := h.1.2.2; omega)
    rw [h1 (by omega)]; rfl
end RP
