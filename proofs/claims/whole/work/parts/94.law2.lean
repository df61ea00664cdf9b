/-! THE LAW'S long[1] BESIDE THE WORLD -/
section MO
variable {D : va_G} {ad : Nat → Nat} {cA : Nat → ClassId} {M M' : mm_M} {o : Nat} {A : Nat → Prop} {f g : Nat → Int64} {H H1 : Heap}
def mo_E (cA : Nat → ClassId) (f : Nat → Int64) : va_E := .inl (cA 4, 1, .inr (.inl f))
def mo_Pre (D : va_G) (ad : Nat → Nat) (cA : Nat → ClassId) (M : mm_M) (as : List mm_V) (o : Nat) (f : Nat → Int64) (sz : Nat) : Array Value → State → Prop := fun a U => a = (as.map (mm_v ad) ++ [Value.ref o]).toArray ∧ U.heap.size = sz ∧ va_P D ct_cl (ct_W ad cA M) U.heap ∧ va_P D ct_cl [(o, mo_E cA f)] U.heap ∧ va_K D ct_cl (ct_tys cA) U ∧ va_D (fun _ => True) (ct_W ad cA M ++ [(o, mo_E cA f)]) ∧ mm_nw ct_NW U ∧ mx_cx cu_XS U ∧ mx_st (va_A (ct_W ad cA M ++ [(o, mo_E cA f)]) sz) U U.heap
def mo_Post (D : va_G) (ad : Nat → Nat) (cA : Nat → ClassId) (k r : Int32) (M' : mm_M) (o : Nat) (A : Nat → Prop) : Array Value → State → Outcome → State → Prop := fun _ st oc t => (oc = .returned (some (.int k)) ∧ va_P D ct_cl (ct_W ad cA M') t.heap ∧ ∃ f', va_P D ct_cl [(o, mo_E cA f')] t.heap ∧ (k = 0 → f' 0 = r.toInt64)) ∧ va_F A st t
theorem ct_W_len : (ct_W ad cA M).length = 53 := by
  simp only [ct_W, mm_W, List.length_map]
  rfl
theorem mo_at : (ct_W ad cA M ++ [(o, mo_E cA f)])[53]? = some (o, mo_E cA f) := by
  rw [List.getElem?_append_right (by rw [ct_W_len]; exact Nat.le_refl _), ct_W_len]
  rfl
theorem mo_set : (ct_W ad cA M ++ [(o, mo_E cA f)]).set 53 (o, mo_E cA g) = ct_W ad cA M ++ [(o, mo_E cA g)] := by
  rw [List.set_append_right _ _ (by rw [ct_W_len]; exact Nat.le_refl _), ct_W_len]
  rfl
theorem mo_get {k : Nat} {q : Nat × va_E} (h : (ct_W ad cA M ++ [(o, mo_E cA f)])[k]? = some q) : (k < 53 ∧ (ct_W ad cA M)[k]? = some q) ∨ (k = 53 ∧ q = (o, mo_E cA f)) := by
  rcases Nat.lt_or_ge k 53 with z | z
  · rw [List.getElem?_append_left (by rw [ct_W_len]; exact z)] at h
    exact Or.inl ⟨z, h⟩
  · rw [List.getElem?_append_right (by rw [ct_W_len]; exact z), ct_W_len] at h
    cases hk : k - 53 with
    | zero =>
      rw [hk] at h
      exact Or.inr ⟨by omega, (Option.some.inj h).symm⟩
    | succ n => rw [hk] at h; cases h
theorem mo_in {k : Nat} {q : Nat × va_E} (hk : k < 53) (h : (ct_W ad cA M)[k]? = some q) : (ct_W ad cA M ++ [(o, mo_E cA f)])[k]? = some q := by
  rw [List.getElem?_append_left (by rw [ct_W_len]; exact hk)]
  exact h
theorem ct_W_lt {k : Nat} {q : Nat × va_E} (h : (ct_W ad cA M)[k]? = some q) : k < 53 := by
  have := (List.getElem?_eq_some_iff.mp h).1
  rw [ct_W_len] at this
  exact this
theorem mo_D (h : va_D A (ct_W ad cA M ++ [(o, mo_E cA f)])) : va_D A (ct_W ad cA M' ++ [(o, mo_E cA g)]) := by
  have key : ∀ (k : Nat) (q : Nat × va_E), (ct_W ad cA M' ++ [(o, mo_E cA g)])[k]? = some q → ∃ e, (ct_W ad cA M ++ [(o, mo_E cA f)])[k]? = some (q.1, e) := fun k q hq => by
    rcases mo_get hq with ⟨z, hq2⟩ | ⟨z, hq2⟩
    · obtain ⟨e, he⟩ := ct_W_addr (M' := M) hq2
      exact ⟨e, mo_in z he⟩
    · rw [z, hq2]
      exact ⟨_, mo_at⟩
  refine ⟨fun i j p q hi hj e => ?_, fun k q hk => ?_⟩
  · obtain ⟨e1, h1⟩ := key i p hi
    obtain ⟨e2, h2⟩ := key j q hj
    exact h.1 i j _ _ h1 h2 e
  · obtain ⟨e1, h1⟩ := key k q hk
    exact h.2 k (q.1, e1) h1
theorem mo_Dl (h : va_D A (ct_W ad cA M ++ [(o, mo_E cA f)])) : va_D A (ct_W ad cA M) := ⟨fun i j p q hi hj e => h.1 i j p q (mo_in (ct_W_lt hi) hi) (mo_in (ct_W_lt hj) hj) e, fun k q hk => h.2 k q (mo_in (ct_W_lt hk) hk)⟩
theorem mo_l (h : va_P D ct_cl (ct_W ad cA M ++ [(o, mo_E cA f)]) H) : va_P D ct_cl (ct_W ad cA M) H := fun k q hk => h k q (mo_in (ct_W_lt hk) hk)
theorem mo_r (h : va_P D ct_cl (ct_W ad cA M ++ [(o, mo_E cA f)]) H) : va_P D ct_cl [(o, mo_E cA f)] H := fun k q hk => by
  cases k with
  | zero =>
    have e : (o, mo_E cA f) = q := Option.some.inj hk
    subst e
    exact h 53 _ mo_at
  | succ k => cases hk
/-- the long[1] lies apart -/
theorem mo_o {sz : Nat} (hP : va_P D ct_cl (ct_W ad cA M) H) (hPo : va_P D ct_cl [(o, mo_E cA f)] H) (h : va_D A (ct_W ad cA M ++ [(o, mo_E cA f)])) : o < H.size ∧ ¬ va_A (ct_W ad cA M) H.size o := by
  have lt : o < H.size := vx_lt hPo (k := 0) rfl
  refine ⟨lt, fun z => ?_⟩
  rcases z with ⟨k, e, z⟩ | z
  · have := h.1 k 53 (o, e) (o, mo_E cA f) (mo_in (ct_W_lt z) z) mo_at rfl
    have := ct_W_lt z
    omega
  · omega
theorem mo_kept (ho : o < H.size ∧ ¬ va_A (ct_W ad cA M) H.size o) (hq : ∀ q : Nat, q < H.size → ¬ va_A (ct_W ad cA M) H.size q → H1[q]? = H[q]?) : ∀ (k : Nat) (q : Nat × va_E), ([(o, mo_E cA f)] : va_W)[k]? = some q → H1[q.1]? = H[q.1]? := fun k q hk => by
  cases k with
  | zero =>
    have e : (o, mo_E cA f) = q := Option.some.inj hk
    subst e
    exact hq o ho.1 ho.2
  | succ k => cases hk
end MO
