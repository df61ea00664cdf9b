/-! THE SEARCH, APART FROM THE CLASS -/
section SRCH
variable {N : Nat} {fin : List Nat → Option Nat}
def ss_stp (fin : List Nat → Option Nat) (s : Option (Nat × List Nat)) (w : List Nat) : Option (Nat × List Nat) :=
  match fin w with
  | none => s
  | some k => match s with
    | none => some (k, w)
    | some q => if k < q.1 then some (k, w) else some q
def ss_lvl (g : Nat → Option (Nat × List Nat) → Option (Nat × List Nat)) : Nat → Nat → Option (Nat × List Nat) → Option (Nat × List Nat)
  | 0, _, s => s
  | r + 1, v, s => ss_lvl g r (v + 1) (g v s)
def ss_go (N : Nat) (fin : List Nat → Option Nat) (m : List Nat → Nat → Bool) : Nat → List Nat → Option (Nat × List Nat) → Option (Nat × List Nat)
  | 0, w, s => ss_stp fin s w
  | e + 1, w, s => ss_lvl (fun v s => if m w v = true then ss_go N fin m e (w ++ [v]) s else s) N 0 s
def ss_cov (fin : List Nat → Option Nat) (s : Option (Nat × List Nat)) (x : List Nat) : Prop :=
  match fin x with
  | none => True
  | some k => match s with
    | none => False
    | some q => q.1 ≤ k
theorem ss_cov_stp {s : Option (Nat × List Nat)} {x w : List Nat} (h : ss_cov fin s x) : ss_cov fin (ss_stp fin s w) x := by
  unfold ss_cov at h ⊢
  cases hx : fin x with
  | none => trivial
  | some k =>
    rw [hx] at h
    cases s with
    | none => exact absurd h id
    | some q =>
      simp only at h
      unfold ss_stp
      cases fin w with
      | none => exact h
      | some k' =>
        simp only
        by_cases z : k' < q.1
        · rw [if_pos z]
          show k' ≤ k
          omega
        · rw [if_neg z]; exact h
theorem ss_cov_self {s : Option (Nat × List Nat)} {w : List Nat} : ss_cov fin (ss_stp fin s w) w := by
  unfold ss_cov ss_stp
  cases hx : fin w with
  | none => trivial
  | some k =>
    cases s with
    | none => exact Nat.le_refl _
    | some q =>
      simp only
      by_cases z : k < q.1
      · rw [if_pos z]
        exact Nat.le_refl _
      · rw [if_neg z]
        show q.1 ≤ k
        omega
theorem ss_skip {s : Option (Nat × List Nat)} {w : List Nat} (h : ss_cov fin s w) : ss_stp fin s w = s := by
  unfold ss_cov at h
  unfold ss_stp
  cases hx : fin w with
  | none => rfl
  | some k =>
    rw [hx] at h
    cases s with
    | none => exact absurd h id
    | some q =>
      simp only at h ⊢
      rw [if_neg (by omega)]
theorem ss_lvl_mono {g : Nat → Option (Nat × List Nat) → Option (Nat × List Nat)} {x : List Nat} (hg : ∀ v s, ss_cov fin s x → ss_cov fin (g v s) x) : ∀ (r v : Nat) (s : Option (Nat × List Nat)), ss_cov fin s x → ss_cov fin (ss_lvl g r v s) x
  | 0, _, _, h => h
  | r + 1, v, s, h => ss_lvl_mono hg r (v + 1) _ (hg v s h)
theorem ss_lvl_hit {g : Nat → Option (Nat × List Nat) → Option (Nat × List Nat)} {x : List Nat} (hg : ∀ v s, ss_cov fin s x → ss_cov fin (g v s) x) {u : Nat} (hu : ∀ s, ss_cov fin (g u s) x) : ∀ (r v : Nat) (s : Option (Nat × List Nat)), v ≤ u → u < v + r → ss_cov fin (ss_lvl g r v s) x
  | 0, _, _, _, h => absurd h (by omega)
  | r + 1, v, s, h1, h2 => by
    by_cases e : v = u
    · subst e
      exact ss_lvl_mono hg r (v + 1) _ (hu s)
    · exact ss_lvl_hit hg hu r (v + 1) _ (by omega) (by omega)
theorem ss_lvl_id {g : Nat → Option (Nat × List Nat) → Option (Nat × List Nat)} {s : Option (Nat × List Nat)} : ∀ (r v : Nat), (∀ u, v ≤ u → u < v + r → g u s = s) → ss_lvl g r v s = s
  | 0, _, _ => rfl
  | r + 1, v, h => by
    rw [ss_lvl, h v (Nat.le_refl _) (by omega)]
    exact ss_lvl_id r (v + 1) (fun u h1 h2 => h u (by omega) (by omega))
theorem ss_lvl_inv {g1 g2 : Nat → Option (Nat × List Nat) → Option (Nat × List Nat)} {P : Nat → Option (Nat × List Nat) → Prop} : ∀ (r v : Nat) (s : Option (Nat × List Nat)), (∀ u s, v ≤ u → u < v + r → P u s → g1 u s = g2 u s ∧ P (u + 1) (g2 u s)) → P v s → ss_lvl g1 r v s = ss_lvl g2 r v s
  | 0, _, _, _, _ => rfl
  | r + 1, v, s, h, hs => by
    obtain ⟨a, b⟩ := h v s (Nat.le_refl _) (by omega) hs
    rw [ss_lvl, ss_lvl, a]
    exact ss_lvl_inv r (v + 1) _ (fun u s h1 h2 => h u s (by omega) (by omega)) b
theorem ss_lvl_add {g : Nat → Option (Nat × List Nat) → Option (Nat × List Nat)} : ∀ (a b v : Nat) (s : Option (Nat × List Nat)), ss_lvl g (a + b) v s = ss_lvl g b (v + a) (ss_lvl g a v s)
  | 0, b, v, s => by rw [Nat.zero_add]; rfl
  | a + 1, b, v, s => by
    rw [show a + 1 + b = (a + b) + 1 by omega, ss_lvl, ss_lvl, ss_lvl_add a b (v + 1), show v + (a + 1) = v + 1 + a by omega]
def ss_ext (N : Nat) (m : List Nat → Nat → Bool) : List Nat → List Nat → Prop
  | _, [] => True
  | w, v :: r => v < N ∧ m w v = true ∧ ss_ext N m (w ++ [v]) r
section
variable {m : List Nat → Nat → Bool}
theorem ss_ext_app : ∀ (a b w : List Nat), ss_ext N m w (a ++ b) ↔ ss_ext N m w a ∧ ss_ext N m (w ++ a) b
  | [], b, w => by simp [ss_ext]
  | v :: a, b, w => by
    rw [List.cons_append, ss_ext, ss_ext, ss_ext_app a b, List.append_assoc]
    simp [and_assoc]
theorem ss_go_mono {x : List Nat} : ∀ (e : Nat) (w : List Nat) (s : Option (Nat × List Nat)), ss_cov fin s x → ss_cov fin (ss_go N fin m e w s) x
  | 0, w, s, h => ss_cov_stp h
  | e + 1, w, s, h => by
    rw [ss_go]
    refine ss_lvl_mono (fun v s h => ?_) N 0 s h
    by_cases z : m w v = true
    · rw [if_pos z]; exact ss_go_mono e _ s h
    · rw [if_neg z]; exact h
theorem ss_go_cov : ∀ (e : Nat) (w : List Nat) (s : Option (Nat × List Nat)) (r : List Nat), r.length = e → ss_ext N m w r → ss_cov fin (ss_go N fin m e w s) (w ++ r)
  | 0, w, s, r, hr, _ => by
    have e : r = [] := List.eq_nil_of_length_eq_zero hr
    subst e
    rw [List.append_nil]
    exact ss_cov_self
  | e + 1, w, s, r, hr, hx => by
    cases r with
    | nil => cases hr
    | cons u r =>
      obtain ⟨h1, h2, h3⟩ := hx
      rw [ss_go]
      refine ss_lvl_hit (u := u) (fun v s h => ?_) (fun s => ?_) N 0 s (Nat.zero_le _) (by omega)
      · by_cases z : m w v = true
        · rw [if_pos z]; exact ss_go_mono e _ s h
        · rw [if_neg z]; exact h
      · rw [if_pos h2, show w ++ u :: r = (w ++ [u]) ++ r by simp]
        exact ss_go_cov e (w ++ [u]) s r (by rw [List.length_cons] at hr; omega) h3
theorem ss_go_skip : ∀ (e : Nat) (w : List Nat) (s : Option (Nat × List Nat)), (∀ r, r.length = e → ss_ext N m w r → ss_cov fin s (w ++ r)) → ss_go N fin m e w s = s
  | 0, w, s, h => ss_skip (by have := h [] rfl trivial; rw [List.append_nil] at this; exact this)
  | e + 1, w, s, h => by
    rw [ss_go]
    refine ss_lvl_id N 0 (fun u _ hu => ?_)
    by_cases z : m w u = true
    · rw [if_pos z]
      refine ss_go_skip e _ s (fun r hr hx => ?_)
      have := h (u :: r) (by rw [List.length_cons, hr]) ⟨by omega, z, hx⟩
      rw [show w ++ u :: r = (w ++ [u]) ++ r by simp] at this
      exact this
    · rw [if_neg z]
def ss_lt (x w : List Nat) : Prop := ∃ p a b r s, x = p ++ a :: r ∧ w = p ++ b :: s ∧ a < b
theorem ss_lt_snoc {x w : List Nat} {v : Nat} : ss_lt x (w ++ [v]) ↔ ss_lt x w ∨ ∃ a r, x = w ++ a :: r ∧ a < v := by
  constructor
  · rintro ⟨p, a, b, r, s, h1, h2, h3⟩
    rcases List.eq_nil_or_concat s with rfl | ⟨s', y, rfl⟩
    · have e := List.append_inj' h2 rfl
      have e1 := e.1
      have e2 : v = b := by have := e.2; simp at this; exact this
      subst e1 e2
      exact Or.inr ⟨a, r, h1, h3⟩
    · rw [List.concat_eq_append, show p ++ b :: (s' ++ [y]) = (p ++ b :: s') ++ [y] by simp] at h2
      have e := List.append_inj' h2 rfl
      exact Or.inl ⟨p, a, b, r, s', h1, e.1, h3⟩
  · rintro (⟨p, a, b, r, s, h1, h2, h3⟩ | ⟨a, r, h1, h2⟩)
    · exact ⟨p, a, b, r, s ++ [v], h1, by rw [h2]; simp, h3⟩
    · exact ⟨w, a, v, r, [], h1, rfl, h2⟩
theorem ss_prune {f : Nat} {k : List Nat → Nat → Bool} (hk0 : ∀ v, k [] v = true) (hsw : ∀ w0 u v r, ss_ext N m [] (w0 ++ u :: v :: r) → (w0 ++ u :: v :: r).length = f → k (w0 ++ [u]) v = false → v < u ∧ ss_ext N m [] (w0 ++ v :: u :: r) ∧ fin (w0 ++ v :: u :: r) = fin (w0 ++ u :: v :: r)) :
    ∀ (e : Nat) (w : List Nat) (s : Option (Nat × List Nat)), w.length + e = f → ss_ext N m [] w → (∀ x, ss_ext N m [] x → x.length = f → ss_lt x w → ss_cov fin s x) → ss_go N fin (fun w v => m w v && k w v) e w s = ss_go N fin m e w s
  | 0, w, s, _, _, _ => rfl
  | e + 1, w, s, hf, hw, hc => by
    rw [ss_go, ss_go]
    refine ss_lvl_inv (P := fun v s => ∀ x, ss_ext N m [] x → x.length = f → ss_lt x (w ++ [v]) → ss_cov fin s x) N 0 s (fun v s _ hv hP => ?_) (fun x h1 h2 h3 => ?_)
    · by_cases z : m w v = true
      · have hwv : ss_ext N m [] (w ++ [v]) := (ss_ext_app w [v] []).mpr ⟨hw, by omega, z, trivial⟩
        have hstep : (if (m w v && k w v) = true then ss_go N fin (fun w v => m w v && k w v) e (w ++ [v]) s else s) = ss_go N fin m e (w ++ [v]) s := by
          cases hk : k w v with
          | true =>
            rw [if_pos (by simp [z])]
            exact ss_prune hk0 hsw e (w ++ [v]) s (by simp; omega) hwv hP
          | false =>
            rw [if_neg (by simp)]
            refine (ss_go_skip e (w ++ [v]) s (fun r hr hx => ?_)).symm
            rcases List.eq_nil_or_concat w with rfl | ⟨w0, u, rfl⟩
            · rw [hk0] at hk; cases hk
            · rw [List.concat_eq_append] at *
              have e1 : w0 ++ [u] ++ [v] ++ r = w0 ++ u :: v :: r := by simp
              have l1 : (w0 ++ u :: v :: r).length = f := by
                simp at hf ⊢
                omega
              have x1 : ss_ext N m [] (w0 ++ u :: v :: r) := by
                rw [← e1]
                exact (ss_ext_app _ r []).mpr ⟨hwv, hx⟩
              obtain ⟨a1, a2, a3⟩ := hsw w0 u v r x1 l1 hk
              have c := hP _ a2 (by simp at l1 ⊢; omega) (ss_lt_snoc.mpr (Or.inl ⟨w0, v, u, u :: r, [], rfl, rfl, a1⟩))
              rw [e1]
              unfold ss_cov at c ⊢
              rw [← a3]
              exact c
        rw [hstep, if_pos z]
        refine ⟨rfl, fun x h1 h2 h3 => ?_⟩
        rcases ss_lt_snoc.mp h3 with q | ⟨a, r, q1, q2⟩
        · exact ss_go_mono e _ s (hP x h1 h2 (ss_lt_snoc.mpr (Or.inl q)))
        · by_cases ea : a = v
          · subst ea
            rw [q1, show w ++ a :: r = (w ++ [a]) ++ r by simp] at h1 h2 ⊢
            exact ss_go_cov e _ s r (by simp at h2; omega) ((ss_ext_app _ r []).mp h1).2
          · exact ss_go_mono e _ s (hP x h1 h2 (ss_lt_snoc.mpr (Or.inr ⟨a, r, q1, by omega⟩)))
      · rw [if_neg (by simp [z]), if_neg z]
        refine ⟨rfl, fun x h1 h2 h3 => ?_⟩
        rcases ss_lt_snoc.mp h3 with q | ⟨a, r, q1, q2⟩
        · exact hP x h1 h2 (ss_lt_snoc.mpr (Or.inl q))
        · by_cases ea : a = v
          · subst ea
            rw [q1] at h1
            exact absurd ((ss_ext_app w (a :: r) []).mp h1).2.2.1 z
          · exact hP x h1 h2 (ss_lt_snoc.mpr (Or.inr ⟨a, r, q1, by omega⟩))
    · rcases ss_lt_snoc.mp h3 with q | ⟨a, r, q1, q2⟩
      · exact hc x h1 h2 q
      · omega
end
end SRCH
