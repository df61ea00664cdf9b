/-! BOTH PLANS AGREE -/
section BOTH
variable {n j T : Nat} {B : ya} {X P : mm_M} {f t : Nat}
theorem rowl_get {F : Nat → Int32} : ∀ (w : List Nat) (i k : Nat), rowl F i w → i ≤ k → k < i + w.length → F k = nI (w.getD (k - i) 0)
  | [], i, k, _, h1, h2 => by rw [List.length_nil] at h2; omega
  | v :: w, i, k, h, h1, h2 => by
    rw [List.length_cons] at h2
    by_cases e : k = i
    · subst e
      rw [Nat.sub_self]
      exact h.1
    · rw [rowl_get w (i + 1) k h.2 (by omega) (by omega), show k - i = (k - (i + 1)) + 1 by omega]
      rfl
/-- best and bestMany -/
def BB (P X : mm_M) : Prop := ∃ m, m ≤ 4 ∧ P 0 6 = nI m ∧ X 0 12 = nI m ∧ ∀ i, i < m → P 4 i = X 6 i
theorem CR_RR {s : Option (Nat × List Nat)} {l : Int32} (h : CR f t s P) (hR : RR f t s X l) (h4 : f ≤ 4) : P 0 7 = l ∧ BB P X := by
  cases s with
  | none =>
    obtain ⟨-, a1, a2, -⟩ := h
    obtain ⟨b1, b2⟩ := hR
    exact ⟨a2.trans b1.symm, 0, by decide, a1, b2, fun i hi => absurd hi (by omega)⟩
  | some q =>
    obtain ⟨-, -, l1, a1, a2, -, a3⟩ := h
    obtain ⟨b1, -, l2, b2, b3⟩ := hR
    refine ⟨a2.trans b1.symm, f, h4, a1, b2, fun i hi => ?_⟩
    rw [rowl_get q.2 0 i a3 (Nat.zero_le _) (by omega), rowl_get q.2 0 i b3 (Nat.zero_le _) (by omega)]
theorem plan_ref {x : Int32} (h : RL n j T B X) (hT : T + 4 < 2 ^ 31) (h0 : (rp_T X x j).1 = 0) : rp_cf X j ≤ 4 ∧ x = nI (ix x) ∧ ix x ≤ 300 ∧ f_Mo_plan X x j = ((rp_S X x j).2, (rp_S X x j).1) ∧ sw (mm_up X 0 0 0) (rp_S X x j).1 ∧ RR (rp_cf X j) (ix x) (ss_go (10 * j) (fun w => finA (ix x) (w.foldl hnd B)) (mayb n B) (rp_cf X j) [] none) (rp_S X x j).1 (rp_S X x j).2 := by
  obtain ⟨p1, p2, p3⟩ := thr_0 h0
  have h4 := cf4 h.1.1.2.1 p3
  have hin : ¬ f_Mo_in x 1 300 = 0 := fun z => by rw [if_pos z] at p2; exact absurd p2 (by decide)
  have hx : x = nI (ix x) ∧ ix x ≤ 300 := by
    unfold f_Mo_in at hin
    by_cases z1 : x < 1
    · rw [if_pos z1] at hin; exact absurd rfl hin
    · rw [if_neg z1] at hin
      by_cases z2 : 300 < x
      · rw [if_pos z2] at hin; exact absurd rfl hin
      · rw [xa_lt] at z1 z2
        have e1 : (1 : Int32).toInt = 1 := by decide
        have e3 : (300 : Int32).toInt = 300 := by decide
        have e : x = nI x.toInt.toNat := xa_eq.mpr (by rw [nI_toInt (by omega)]; omega)
        have e2 : ix x = x.toInt.toNat := by rw [e, ix_nI (by omega), ← e]
        rw [e2]
        exact ⟨e, by omega⟩
  have hT2 : (rp_T X x j).2 = mm_up X 0 0 0 := by
    unfold rp_T at h0 ⊢
    rw [thr_eq] at h0 ⊢
    generalize thrw _ _ _ _ = y at h0 ⊢
    have y0 : y = 0 := Classical.byContradiction fun z => by
      simp only at h0
      rw [if_neg z] at h0
      exact absurd h0 (by decide)
    rw [y0]
  refine ⟨h4, hx.1, hx.2, by unfold f_Mo_plan; rw [if_pos h0], ?_⟩
  unfold rp_S
  rw [hT2]
  have := ref_sim (fin := fun w => finA (ix x) (w.foldl hnd B)) (RL_thr h) hT h4 hx.2 (fun _ => rfl) (rp_cf X j) [] (mm_up (mm_up (mm_up X 0 0 0) 0 12 0) 5 0 (-1)) (-1) none (by simp) trivial (sw_up (sw_up sw_rf (Or.inr ⟨rfl, rfl⟩)) (Or.inl (by decide))) trivial (fun _ => mm_up_at _ _ _ _) ⟨rfl, by simp [mm_up]⟩
  exact ⟨this.1, this.2.2⟩
end BOTH
