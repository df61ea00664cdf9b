/-! THE REFERENCE'S SEARCH: what it keeps, its seconds -/
def sw (X Y : mm_M) : Prop := (∀ q, q < 12 → Y 0 q = X 0 q) ∧ (∀ q, Y 1 q = X 1 q) ∧ (∀ q, Y 2 q = X 2 q) ∧ ∀ q, q < 110 → Y 3 q = X 3 q
theorem sw_rf {X : mm_M} : sw X X := ⟨fun _ _ => rfl, fun _ => rfl, fun _ => rfl, fun _ _ => rfl⟩
theorem sw_tr {X Y Z : mm_M} (h : sw X Y) (h2 : sw Y Z) : sw X Z := ⟨fun q a => (h2.1 q a).trans (h.1 q a), fun q => (h2.2.1 q).trans (h.2.1 q), fun q => (h2.2.2.1 q).trans (h.2.2.1 q), fun q a => (h2.2.2.2 q a).trans (h.2.2.2 q a)⟩
theorem sw_up {X Y : mm_M} {r k : Nat} {v : Int32} (h : sw X Y) (hr : 4 ≤ r ∨ (r = 0 ∧ k = 12)) : sw X (mm_up Y r k v) :=
  sw_tr h ⟨fun q a => by simp only [mm_up]; rw [if_neg (by omega)], fun q => by simp only [mm_up]; rw [if_neg (by omega)], fun q => by simp only [mm_up]; rw [if_neg (by omega)], fun q a => by simp only [mm_up]; rw [if_neg (by omega)]⟩
theorem sw_j {X Y : mm_M} (h : sw X Y) {i w : Nat} (hi : i < 8) (hw : w < 7) : f_Mo_ofJob Y i w = f_Mo_ofJob X i w := h.2.2.2 _ (by omega)
theorem sw_c {X Y : mm_M} (h : sw X Y) {c w : Nat} (hc : c < 3) (hw : w < 10) : f_Mo_ofCrane Y c w = f_Mo_ofCrane X c w := h.2.2.2 _ (by omega)
section SW
variable {n j T : Nat} {A : ya} {X Y : mm_M}
theorem vx_sw (h : sw X Y) (hn : n ≤ 3) (hj : j ≤ 8) : vX n j Y = vX n j X := by
  refine yv_ext (fun c' k' => ?_) (fun i' w => ?_) (fun q => ?_) (fun c' k' => ?_) (fun _ _ => rfl)
  · simp only [vX]
    by_cases z : c' < n ∧ k' < 8 ∧ k' ≠ 6
    · rw [if_pos z, if_pos z]
      have e : k' = 0 ∨ k' = 1 ∨ k' = 2 ∨ k' = 3 ∨ k' = 4 ∨ k' = 5 ∨ k' = 7 := by omega
      rcases e with rfl | rfl | rfl | rfl | rfl | rfl | rfl <;> simp only [vXc] <;> first | exact sw_c h (by omega) (by omega) | exact h.2.1 _ | exact h.2.2.1 _
    · rw [if_neg z, if_neg z]
  · simp only [vX]
    by_cases z : i' < j ∧ w < 6
    · rw [if_pos z, if_pos z]; exact sw_j h (by omega) (by omega)
    · rw [if_neg z, if_neg z]
  · simp only [vX]
    by_cases z : q < 7
    · rw [if_pos z, if_pos z]
      unfold vXs
      split <;> first | exact h.1 _ (by omega) | exact h.2.2.2 _ (by omega)
    · rw [if_neg z, if_neg z]
  · simp only [vX]
    by_cases z : c' < n ∧ k' < 4
    · rw [if_pos z, if_pos z]; exact sw_c h (by omega) (by omega)
    · rw [if_neg z, if_neg z]
theorem RL_sw (h : RL n j T A X) (hs : sw X Y) : RL n j T A Y := by
  have h8 := h.1.1.2.1
  refine ⟨h.1, h.2.1.trans (vx_sw hs h.1.1.1 h8).symm, (hs.2.2.2 2 (by decide)).trans h.2.2.1, fun c hc => ?_, fun i hi a => ?_⟩
  · refine (h.2.2.2.1 c hc).imp_of_mem (fun {x y} hx hy hxy => ?_)
    have k3 := (h.1.2.2.2.2.1 c hc).2.2.1
    rw [sw_j hs (Nat.lt_of_lt_of_le (k3 x hx).1.2 h8) (by decide), sw_j hs (Nat.lt_of_lt_of_le (k3 y hy).1.2 h8) (by decide)]
    exact hxy
  · rw [sw_j hs (by omega) (by decide)]
    exact h.2.2.2.2 i hi a
theorem rz_sw (h : rz n X) (hs : sw X Y) : rz n Y := fun q h1 h2 => (sw_c hs h2 (by decide)).trans (h q h1 h2)
end SW
theorem gvt_row {X : mm_M} {v r q : Nat} (h : r ≠ 3) : gvt X v r q = X r q := by
  unfold gvt
  rw [give_eq]
  have e : ∀ (Z : mm_M) (w : Int32), mm_up Z 3 2 w r q = Z r q := fun Z w => by simp only [mm_up]; rw [if_neg (by omega)]
  rw [e, sj_row (Or.inl h), sj_row (Or.inl h), sj_row (Or.inl h)]
theorem gvts_row {r q : Nat} (h : r ≠ 3) : ∀ (w : List Nat) (X : mm_M), w.foldl gvt X r q = X r q
  | [], _ => rfl
  | v :: w, X => by rw [List.foldl_cons, gvts_row h w, gvt_row h]
theorem rz_gvt {n v : Nat} {X : mm_M} (h : rz n X) : rz n (gvt X v) := fun q h1 h2 => by
  unfold gvt
  rw [give_eq]
  refine Eq.trans (mm_up_k _ _ _ (by omega)) ?_
  exact (oc_sj h2 (by decide)).trans ((oc_sj h2 (by decide)).trans ((oc_sj h2 (by decide)).trans (h q h1 h2)))
theorem ra2_row {a q : Nat} (h : a ≠ 3) : ∀ (r i : Nat) (X : mm_M), (f_ra2 r X i).2 a q = X a q
  | 0, i, X => rfl
  | r + 1, i, X => by
    have e : ∀ (Z : mm_M) (w : Int32), mm_up Z 3 1 w a q = Z a q := fun Z w => by simp only [mm_up]; rw [if_neg (by omega)]
    rw [f_ra2]
    split
    · rfl
    · split
      · rw [ra2_row h r, e]
      · rw [ra2_row h r, e]
theorem ra1_row {a q : Nat} (h : a ≠ 3) : ∀ (r i : Nat) (X : mm_M), (f_ra1 r X i).2 a q = X a q
  | 0, i, X => rfl
  | r + 1, i, X => by
    rw [f_ra1]
    split
    · rw [ra2_row h]
      simp only [mm_up]
      rw [if_neg (by omega)]
    · rw [ra1_row h r, Fr_second.2 a q (Or.inl h)]
theorem all_row {a q : Nat} {X : mm_M} (h : a ≠ 3) : (f_Mo_secondOfAll X).2 a q = X a q := ra1_row h 4 0 X
theorem so4_spec {m t x y : Int32} : ∀ (r i : Nat) (X : mm_M), i ≤ 110 → 110 < i + r → (f_so4 r X m t x y i).1 = (if y = 0 then -1 else x) ∧ (∀ a q, a ≠ 3 → (f_so4 r X m t x y i).2 a q = X a q) ∧ ∀ q, (f_so4 r X m t x y i).2 3 q = if i ≤ q ∧ q < 110 then X 4 q else X 3 q
  | 0, i, X, _, h => absurd h (by omega)
  | r + 1, i, X, hi, hr => by
    rw [f_so4]
    have e1 : (110 : Int32) ≤ nI i ↔ 110 ≤ i := by
      rw [show (110 : Int32) = nI 110 from rfl, nI_leI (by omega) (by omega)]
    by_cases h1 : (110 : Int32) ≤ nI i
    · rw [if_pos h1]
      have := e1.mp h1
      refine ⟨?_, ?_, ?_⟩
      · by_cases z : y = 0
        · rw [if_pos z, if_pos z]
        · rw [if_neg z, if_neg z]
      · intro a q _
        by_cases z : y = 0
        · rw [if_pos z]
        · rw [if_neg z]
      · intro q
        have hq : ¬ (i ≤ q ∧ q < 110) := by omega
        rw [if_neg hq]
        by_cases z : y = 0
        · rw [if_pos z]
        · rw [if_neg z]
    · rw [if_neg h1]
      have : ¬ 110 ≤ i := fun z => h1 (e1.mpr z)
      obtain ⟨a1, a2, a3⟩ := so4_spec (m := m) (t := t) (x := x) (y := y) r (i + 1) (mm_up X 3 i (X 4 i)) (by omega) (by omega)
      refine ⟨a1, fun a q ha => (a2 a q ha).trans (by simp only [mm_up]; rw [if_neg (by omega)]), fun q => ?_⟩
      rw [a3 q]
      by_cases z : i ≤ q ∧ q < 110
      · rw [if_pos z]
        by_cases z2 : i + 1 ≤ q ∧ q < 110
        · rw [if_pos z2]
          simp [mm_up]
        · have e : q = i := by omega
          subst e
          rw [if_neg z2, mm_up_at]
      · rw [if_neg z, if_neg (by omega)]
        simp only [mm_up]
        rw [if_neg (by omega)]
theorem so3_spec {m : Int32} {t : Nat} (ht : t ≤ 300) : ∀ (r i : Nat) (X : mm_M), i ≤ t → 300 < i + r → (f_so3 r X m t i).1 = (match finX (t - i) X with | some k => nI (i + k) | none => -1) ∧ (∀ a q, a ≠ 3 → (f_so3 r X m t i).2 a q = X a q) ∧ ∀ q, q < 110 → (f_so3 r X m t i).2 3 q = X 4 q
  | 0, i, X, _, h => absurd h (by omega)
  | r + 1, i, X, hi, hr => by
    have s4 := so4_spec (m := m) (t := nI t) (x := nI i) (y := f_Mo_isAllDone X) 111 0 X (Nat.zero_le _) (by omega)
    have fin : (f_so4 111 X m (nI t) (nI i) (f_Mo_isAllDone X) 0).1 = (if f_Mo_isAllDone X = 0 then -1 else nI i) ∧ (∀ a q, a ≠ 3 → (f_so4 111 X m (nI t) (nI i) (f_Mo_isAllDone X) 0).2 a q = X a q) ∧ ∀ q, q < 110 → (f_so4 111 X m (nI t) (nI i) (f_Mo_isAllDone X) 0).2 3 q = X 4 q := ⟨s4.1, s4.2.1, fun q hq => by rw [s4.2.2, if_pos ⟨Nat.zero_le _, hq⟩]⟩
    clear s4
    have hfx : ¬ f_Mo_isAllDone X = 0 → ∀ l, finX l X = some 0 := fun z l => by
      cases l with
      | zero => rw [finX, if_neg z]
      | succ l => rw [finX, if_neg z]
    rw [f_so3]
    by_cases h1 : nI t ≤ nI i
    · rw [if_pos h1]
      have e : t = i := by
        have := (nI_leI (by omega) (by omega)).mp h1
        omega
      subst e
      refine ⟨?_, fin.2⟩
      rw [fin.1, Nat.sub_self]
      by_cases z : f_Mo_isAllDone X = 0
      · rw [if_pos z, finX, if_pos z]
      · rw [if_neg z, hfx z]
        rfl
    · rw [if_neg h1]
      have lt : i < t := by
        rcases Nat.lt_or_ge i t with z | z
        · exact z
        · exact absurd (nI_le z (by omega)) h1
      by_cases z : f_Mo_isAllDone X = 0
      · rw [if_pos z]
        obtain ⟨a1, a2, a3⟩ := so3_spec (m := m) ht r (i + 1) (f_Mo_secondOfAll X).2 lt (by omega)
        refine ⟨?_, fun a q ha => (a2 a q ha).trans (all_row ha), fun q hq => (a3 q hq).trans (all_row (by decide))⟩
        rw [a1, show t - i = (t - (i + 1)) + 1 by omega, finX, if_pos z]
        cases finX (t - (i + 1)) (f_Mo_secondOfAll X).2 with
        | none => rfl
        | some k =>
          simp only [Option.map]
          rw [show i + 1 + k = i + (k + 1) by omega]
      · rw [if_neg z]
        refine ⟨?_, fin.2⟩
        rw [fin.1, if_neg z, hfx z]
        rfl
theorem so2_spec {m t : Nat} : ∀ (w : List Nat) (r i : Nat) (X : mm_M), i + w.length = m → m ≤ 4 → w.length < r → rowl (X 5) i w → (∀ v ∈ w, v < 80) → f_so2 r X m t i = f_so3 301 (w.foldl gvt X) (nI m) t 0
  | _, 0, _, _, _, _, h, _, _ => absurd h (by omega)
  | [], r + 1, i, X, hi, _, _, _, _ => by
    rw [List.length_nil, Nat.add_zero] at hi
    subst hi
    rw [f_so2, if_pos (Int32.le_refl _)]
    rfl
  | v :: w, r + 1, i, X, hi, h4, hr, h5, hv => by
    rw [List.length_cons] at hi hr
    rw [f_so2, if_neg (fun z => by have := (nI_leI (by omega) (by omega)).mp z; omega)]
    have e : X 5 i = nI v := h5.1
    have v80 := hv v List.mem_cons_self
    rw [e, ix_nI (by omega)]
    exact so2_spec w r (i + 1) (gvt X v) (by omega) h4 (by omega) (rowl_congr _ _ (fun k _ _ => gvt_row (by decide)) h5.2) (fun u hu => hv u (List.mem_cons_of_mem _ hu))
theorem so1_spec {m t : Nat} : ∀ (r i : Nat) (X : mm_M), i ≤ 110 → 110 < i + r → ∃ X1, f_so1 r X m t i = f_so2 5 X1 m t 0 ∧ ∀ a q, X1 a q = if a = 4 ∧ i ≤ q ∧ q < 110 then X 3 q else X a q
  | 0, i, X, _, h => absurd h (by omega)
  | r + 1, i, X, hi, hr => by
    rw [f_so1]
    have e1 : (110 : Int32) ≤ nI i ↔ 110 ≤ i := by
      rw [show (110 : Int32) = nI 110 from rfl, nI_leI (by omega) (by omega)]
    by_cases h1 : (110 : Int32) ≤ nI i
    · have := e1.mp h1
      exact ⟨X, by rw [if_pos h1], fun a q => by rw [if_neg (by omega)]⟩
    · have : ¬ 110 ≤ i := fun z => h1 (e1.mpr z)
      obtain ⟨X1, a1, a2⟩ := so1_spec (m := m) (t := t) r (i + 1) (mm_up X 4 i (X 3 i)) (by omega) (by omega)
      refine ⟨X1, by rw [if_neg h1, a1], fun a q => ?_⟩
      rw [a2]
      by_cases z : a = 4 ∧ i ≤ q ∧ q < 110
      · rw [if_pos z]
        by_cases z2 : a = 4 ∧ i + 1 ≤ q ∧ q < 110
        · rw [if_pos z2]
          simp [mm_up]
        · have e : q = i := by omega
          have e' := z.1
          subst e e'
          rw [if_neg z2, mm_up_at]
      · rw [if_neg z, if_neg (by omega)]
        simp only [mm_up]
        rw [if_neg (by omega)]
section SOF
variable {n j T : Nat} {A : ya} {X : mm_M} {f t : Nat}
theorem secondsOf_spec {w : List Nat} (h : RL n j T A X) (hw : VW n j A w) (hT : T + 4 < 2 ^ 31) (hf : w.length = f) (h4 : f ≤ 4) (ht : t ≤ 300) (h5 : rowl (X 5) 0 w) : (f_Mo_secondsOf X f t).1 = (match finA t (w.foldl hnd A) with | some k => nI k | none => -1) ∧ (∀ a q, a ≠ 3 → a ≠ 4 → (f_Mo_secondsOf X f t).2 a q = X a q) ∧ ∀ q, q < 110 → (f_Mo_secondsOf X f t).2 3 q = X 3 q := by
  unfold f_Mo_secondsOf
  obtain ⟨X1, e1, e2⟩ := so1_spec (m := f) (t := t) 111 0 X (Nat.zero_le _) (by omega)
  have hv : ∀ v ∈ w, v < 80 := fun v hv => by
    have := (hw.1 v hv).1
    have := h.1.1.2.1
    omega
  have hs : sw X X1 := ⟨fun q _ => by rw [e2, if_neg (by omega)], fun q => by rw [e2, if_neg (by omega)], fun q => by rw [e2, if_neg (by omega)], fun q _ => by rw [e2, if_neg (by omega)]⟩
  have r1 := RL_way w _ _ _ (RL_sw h hs) hw (by omega)
  rw [e1, so2_spec w 5 0 X1 (by omega) h4 (by omega) (rowl_congr _ _ (fun k _ _ => by rw [e2, if_neg (by omega)]) h5) hv]
  obtain ⟨s1, s2, s3⟩ := so3_spec (m := nI f) ht 301 0 (w.foldl gvt X1) (Nat.zero_le _) (by omega)
  refine ⟨?_, fun a q h3 h4' => ?_, fun q hq => ?_⟩
  · rw [s1, Nat.sub_zero, RL_fin t _ _ r1]
    cases finX t (w.foldl gvt X1) with
    | none => rfl
    | some k => simp only [Nat.zero_add]
  · rw [s2 a q h3, gvts_row h3, e2, if_neg (by omega)]
  · rw [s3 q hq, gvts_row (by decide), e2, if_pos ⟨rfl, Nat.zero_le _, hq⟩]
end SOF
