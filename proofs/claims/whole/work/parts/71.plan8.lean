/-! THE CLASS'S SEARCH IS THE SEARCH -/
theorem reach_iff {A : ya} {c i : Nat} : ¬ f_Cr_reaches A c i = 0 ↔ yiR A c i := by
  unfold f_Cr_reaches yiR
  have key : ∀ v a e : Int32, f_Ct_within v a e = 0 ↔ ¬ (a.toInt ≤ v.toInt ∧ v.toInt ≤ e.toInt) := fun v a e => by
    rw [in_eq]
    unfold f_Mo_in
    by_cases h1 : v < a
    · rw [if_pos h1]
      rw [xa_lt] at h1
      exact ⟨fun _ z => by omega, fun _ => rfl⟩
    · rw [if_neg h1]
      rw [xa_lt] at h1
      by_cases h2 : e < v
      · rw [if_pos h2]
        rw [xa_lt] at h2
        exact ⟨fun _ z => by omega, fun _ => rfl⟩
      · rw [if_neg h2]
        rw [xa_lt] at h2
        exact ⟨fun z => absurd z (by decide), fun z => absurd ⟨by omega, by omega⟩ z⟩
  by_cases h1 : f_Ct_within (jb A i 0) (cr A c 1) (cr A c 2) = 0
  · rw [if_pos h1]
    rw [key] at h1
    exact ⟨fun z => absurd rfl z, fun z => absurd ⟨z.1, z.2.1⟩ h1⟩
  · rw [if_neg h1]
    rw [key] at h1
    by_cases h2 : f_Ct_within (jb A i 1) (cr A c 1) (cr A c 2) = 0
    · rw [if_pos h2]
      rw [key] at h2
      exact ⟨fun z => absurd rfl z, fun z => absurd ⟨z.2.2.1, z.2.2.2⟩ h2⟩
    · rw [if_neg h2]
      rw [key] at h2
      refine ⟨fun _ => ?_, fun _ => by decide⟩
      have a := Classical.not_not.mp h1
      have b := Classical.not_not.mp h2
      exact ⟨a.1, a.2, b.1, b.2⟩
def mayb (n : Nat) (B : ya) (w : List Nat) (v : Nat) : Bool := decide (v % 10 < n) && (decide (jb B (v / 10) 3 = 0) && (!decide (v / 10 ∈ w.map (· / 10)) && !decide (f_Cr_reaches B (v % 10) (v / 10) = 0)))
theorem mayb_iff {n : Nat} {B : ya} {w : List Nat} {v : Nat} : mayb n B w v = true ↔ v % 10 < n ∧ jb B (v / 10) 3 = 0 ∧ v / 10 ∉ w.map (· / 10) ∧ ¬ f_Cr_reaches B (v % 10) (v / 10) = 0 := by
  unfold mayb
  rw [Bool.and_eq_true, Bool.and_eq_true, Bool.and_eq_true, decide_eq_true_iff, decide_eq_true_iff, Bool.not_eq_true', Bool.not_eq_true', decide_eq_false_iff_not, decide_eq_false_iff_not]
def kpb (w : List Nat) (v : Nat) : Bool := match w.getLast? with
  | none => true
  | some u => !(!decide (u % 10 = v % 10) && decide (v / 10 < u / 10))
theorem kpb_snoc {w : List Nat} {u v : Nat} : kpb (w ++ [u]) v = false ↔ u % 10 ≠ v % 10 ∧ v / 10 < u / 10 := by
  unfold kpb
  rw [List.getLast?_append]
  simp
theorem ext_iff {n j : Nat} {B : ya} : ∀ (r w : List Nat), ss_ext (10 * j) (mayb n B) w r ↔ (∀ v ∈ r, okv n j B v) ∧ (r.map (· / 10)).Nodup ∧ ∀ v ∈ r, v / 10 ∉ w.map (· / 10)
  | [], w => by simp [ss_ext]
  | v :: r, w => by
    rw [ss_ext, ext_iff r (w ++ [v]), mayb_iff, reach_iff]
    constructor
    · rintro ⟨a, ⟨b1, b2, b3, b4⟩, c1, c2, c3⟩
      refine ⟨fun u hu => ?_, ?_, fun u hu => ?_⟩
      · rcases List.mem_cons.mp hu with rfl | hu
        · exact ⟨a, b1, b2, b4⟩
        · exact c1 u hu
      · rw [List.map_cons, List.nodup_cons]
        refine ⟨fun z => ?_, c2⟩
        obtain ⟨u, hu, e⟩ := List.mem_map.mp z
        refine c3 u hu ?_
        rw [List.map_append]
        exact List.mem_append_right _ (by simp at e ⊢; exact e)
      · rcases List.mem_cons.mp hu with rfl | hu
        · exact b3
        · exact fun z => c3 u hu (by rw [List.map_append]; exact List.mem_append_left _ z)
    · rintro ⟨a, b, c⟩
      rw [List.map_cons, List.nodup_cons] at b
      obtain ⟨a1, a2, a3, a4⟩ := a v List.mem_cons_self
      refine ⟨a1, ⟨a2, a3, c v List.mem_cons_self, a4⟩, fun u hu => a u (List.mem_cons_of_mem _ hu), b.2, fun u hu z => ?_⟩
      rw [List.map_append] at z
      rcases List.mem_append.mp z with z | z
      · exact c u (List.mem_cons_of_mem _ hu) z
      · have e : u / 10 = v / 10 := by simpa using z
        exact b.1 (List.mem_map.mpr ⟨u, hu, e⟩)
theorem ext_VW {n j : Nat} {B : ya} {w : List Nat} : ss_ext (10 * j) (mayb n B) [] w ↔ VW n j B w := by
  rw [ext_iff]
  exact ⟨fun h => ⟨h.1, h.2.1⟩, fun h => ⟨h.1, h.2, fun _ _ z => by cases z⟩⟩
section SIM
variable {n j T : Nat} {B : ya} {X : mm_M} {f t : Nat}
theorem VW_app : ∀ (a b : List Nat) (B : ya) (X : mm_M) (T : Nat), RL n j T B X → VW n j B (a ++ b) → T + (a ++ b).length < 2 ^ 31 → VW n j (a.foldl hnd B) b ∧ yi n j (a.foldl hnd B)
  | [], b, B, X, T, h, hw, _ => ⟨hw, h.1⟩
  | v :: a, b, B, X, T, h, hw, hT => by
    rw [List.cons_append] at hw hT
    rw [List.length_cons] at hT
    exact VW_app a b (hnd B v) (gvt X v) (T + 1) (RL_hnd h (hw.1 v List.mem_cons_self) (by omega)) (VW_tail h.1 hw) (by omega)
theorem swap_ok (h : RL n j T B X) (hT : T + 4 < 2 ^ 31) (h4 : f ≤ 4) (w0 : List Nat) (u v : Nat) (r : List Nat) (hx : ss_ext (10 * j) (mayb n B) [] (w0 ++ u :: v :: r)) (hl : (w0 ++ u :: v :: r).length = f) (hk : kpb (w0 ++ [u]) v = false) : v < u ∧ ss_ext (10 * j) (mayb n B) [] (w0 ++ v :: u :: r) ∧ finA t ((w0 ++ v :: u :: r).foldl hnd B) = finA t ((w0 ++ u :: v :: r).foldl hnd B) := by
  rw [kpb_snoc] at hk
  rw [ext_VW] at hx ⊢
  refine ⟨by omega, ⟨fun x hx' => hx.1 x ?_, ?_⟩, ?_⟩
  · rcases List.mem_append.mp hx' with z | z
    · exact List.mem_append_left _ z
    · refine List.mem_append_right _ ?_
      rcases List.mem_cons.mp z with rfl | z
      · exact List.mem_cons_of_mem _ List.mem_cons_self
      · rcases List.mem_cons.mp z with rfl | z
        · exact List.mem_cons_self
        · exact List.mem_cons_of_mem _ (List.mem_cons_of_mem _ z)
  · exact (((List.Perm.append_left w0 (List.Perm.swap u v r)).map _).nodup_iff).mpr hx.2
  · obtain ⟨a1, a2⟩ := VW_app w0 (u :: v :: r) B X T h hx (by omega)
    rw [List.foldl_append, List.foldl_append, List.foldl_cons, List.foldl_cons, List.foldl_cons, List.foldl_cons]
    rw [hnd_comm a2 (a1.1 v (List.mem_cons_of_mem _ List.mem_cons_self)) (a1.1 u List.mem_cons_self) (by omega) (by omega)]
/-- way and marks in the planner -/
def EW (w ps : List Nat) (P : mm_M) : Prop := rowl (P 2) 0 (w.map (· / 10)) ∧ rowl (P 3) 0 (w.map (· % 10)) ∧ ∀ i, i < 8 → P 1 i = if i ∈ ps then 1 else 0
def F_ext (B : ya) : Nat → Nat → mm_M × ya → mm_M × ya
  | 0, _, A => (f_Pl_tryWay A B).2
  | p + 1, q, A => f_ej (F_ext B p (q + 1)) 9 A B q 0
theorem EW_up {w ps : List Nat} {P : mm_M} {v : Nat} (h : EW w ps P) (hps : ∀ i, i ∈ ps ↔ i ∈ (w ++ [v]).map (· / 10)) : EW (w ++ [v]) ((w ++ [v]).map (· / 10)) (mm_up (mm_up P 2 w.length (nI (v / 10))) 3 w.length (nI (v % 10))) := by
  obtain ⟨a1, a2, a3⟩ := h
  refine ⟨?_, ?_, fun i hi => ?_⟩
  · rw [List.map_append, rowl_app, List.length_map, Nat.zero_add]
    refine ⟨rowl_congr _ _ (fun k _ hk => ?_) a1, ?_, trivial⟩
    · rw [List.length_map] at hk
      simp [mm_up]
      omega
    · simp [mm_up]
  · rw [List.map_append, rowl_app, List.length_map, Nat.zero_add]
    refine ⟨rowl_congr _ _ (fun k _ hk => ?_) a2, ?_, trivial⟩
    · rw [List.length_map] at hk
      simp [mm_up]
      omega
    · simp [mm_up]
  · have e : mm_up (mm_up P 2 w.length (nI (v / 10))) 3 w.length (nI (v % 10)) 1 i = P 1 i := by simp [mm_up]
    rw [e, a3 i hi]
    by_cases z : i ∈ ps
    · rw [if_pos z, if_pos ((hps i).mp z)]
    · rw [if_neg z, if_neg (fun q => z ((hps i).mpr q))]
theorem EW_dn {w ps qs : List Nat} {P : mm_M} {v : Nat} (h : EW (w ++ [v]) qs P) (hps : ∀ i, i ∈ ps ↔ i ∈ qs) : EW w ps P := by
  obtain ⟨a1, a2, a3⟩ := h
  rw [List.map_append, rowl_app] at a1 a2
  refine ⟨a1.1, a2.1, fun i hi => ?_⟩
  rw [a3 i hi]
  by_cases z : i ∈ ps
  · rw [if_pos z, if_pos ((hps i).mp z)]
  · rw [if_neg z, if_neg (fun q => z ((hps i).mpr q))]
theorem CR_up {s : Option (Nat × List Nat)} {P : mm_M} {r k : Nat} {v : Int32} (h : CR f t s P) (h1 : 1 ≤ r) (h2 : r < 4) : CR f t s (mm_up P r k v) := by
  have e : ∀ k', mm_up P r k v 0 k' = P 0 k' := fun k' => by simp only [mm_up]; rw [if_neg (by omega)]
  have e4 : ∀ k', mm_up P r k v 4 k' = P 4 k' := fun k' => by simp only [mm_up]; rw [if_neg (by omega)]
  unfold CR at h ⊢
  rw [e]
  cases s with
  | none =>
    simp only at h ⊢
    rw [e, e, e]
    exact h
  | some q =>
    simp only at h ⊢
    rw [e, e, e]
    exact ⟨h.1, h.2.1, h.2.2.1, h.2.2.2.1, h.2.2.2.2.1, h.2.2.2.2.2.1, rowl_congr _ _ (fun k' _ _ => e4 k') h.2.2.2.2.2.2⟩
theorem tried_iff {w ps : List Nat} {P : mm_M} {jj c : Nat} (h : EW w ps P) (hw : ∀ v ∈ w, v < 80) (hl : w.length < 4) (hj : jj < 8) (hc : c < 3) : f_Pl_isTriedAlready P w.length (nI jj) (nI c) = 0 ↔ kpb w (10 * jj + c) = true := by
  unfold f_Pl_isTriedAlready
  rcases List.eq_nil_or_concat w with rfl | ⟨w0, u, rfl⟩
  · rw [List.length_nil, if_pos (show nI 0 ≤ 0 by decide)]
    exact ⟨fun _ => rfl, fun _ => rfl⟩
  · rw [List.concat_eq_append] at *
    have hu := hw u (List.mem_append_right _ List.mem_cons_self)
    have el : (w0 ++ [u]).length = w0.length + 1 := by simp
    obtain ⟨a1, a2, -⟩ := h
    rw [List.map_append, rowl_app, List.length_map, Nat.zero_add] at a1 a2
    have b1 : P 2 w0.length = nI (u / 10) := a1.2.1
    have b2 : P 3 w0.length = nI (u % 10) := a2.2.1
    rw [el] at hl ⊢
    have e0 : ¬ nI (w0.length + 1) ≤ 0 := fun z => by
      rw [xa_le, nI_toInt (by omega)] at z
      have : (0 : Int32).toInt = 0 := by decide
      omega
    rw [if_neg e0, Nat.add_sub_cancel, b1, b2]
    have ek := kpb_snoc (w := w0) (u := u) (v := 10 * jj + c)
    rw [show (10 * jj + c) % 10 = c by omega, show (10 * jj + c) / 10 = jj by omega] at ek
    by_cases z1 : nI (u % 10) = nI c
    · rw [if_pos z1]
      have := nI_inj (by omega) (by omega) z1
      refine ⟨fun _ => ?_, fun _ => rfl⟩
      cases hk : kpb (w0 ++ [u]) (10 * jj + c) with
      | true => rfl
      | false => exact absurd (ek.mp hk).1 (by omega)
    · rw [if_neg z1]
      have n1 : u % 10 ≠ c := fun e => z1 (by rw [e])
      by_cases z2 : nI (u / 10) ≤ nI jj
      · rw [if_pos z2]
        have := (nI_leI (by omega) (by omega)).mp z2
        refine ⟨fun _ => ?_, fun _ => rfl⟩
        cases hk : kpb (w0 ++ [u]) (10 * jj + c) with
        | true => rfl
        | false => exact absurd (ek.mp hk).2 (by omega)
      · rw [if_neg z2]
        have lt : jj < u / 10 := by
          rcases Nat.lt_or_ge jj (u / 10) with q | q
          · exact q
          · exact absurd (nI_le q (by omega)) z2
        refine ⟨fun z => absurd z (by decide), fun z => ?_⟩
        rw [ek.mpr ⟨n1, lt⟩] at z
        cases z
end SIM
