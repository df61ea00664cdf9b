/-! THE CLASS'S SEARCH IN THE MACHINE -/
section MEXT
variable {n j T : Nat} {B : ya} {X : mm_M} {f t : Nat} {fin : List Nat → Option Nat}
theorem okx_row {w : List Nat} {F : Nat → Int32} {N : Nat} (hN : N < 2 ^ 31) : ∀ (w : List Nat) (i : Nat), rowl F i w → (∀ v ∈ w, v < N) → ∀ k, i ≤ k → k < i + w.length → okx N (F k)
  | [], i, _, _, k, h1, h2 => by rw [List.length_nil] at h2; omega
  | v :: w, i, h, hv, k, h1, h2 => by
    rw [List.length_cons] at h2
    by_cases e : k = i
    · subst e
      exact okx_of h.1 (hv v List.mem_cons_self) hN
    · exact okx_row (w := w) hN w (i + 1) h.2 (fun u hu => hv u (List.mem_cons_of_mem _ hu)) k (by omega) (by omega)
theorem m_try {d : Nat} {M : mm_M} {w : List Nat} {s : Option (Nat × List Nat)} (h : RL n j T B X) (hz : ∀ c, c < 3 → cr B c 3 = 0 ∨ cr B c 3 = 1) (hT : T + 4 < 2 ^ 31) (h4 : f ≤ 4) (ht : t ≤ 300) (hB : yv 8 M = B) (hl : w.length = f) (hw : ss_ext (10 * j) (mayb n B) [] w) (hE : EW w (w.map (· / 10)) (cv M).1) (hs : CR f t s (cv M).1) : CS (d + 5) 13 M [.inr (2, 1), .inr (3, 8)] none (f_Pl_tryWay (cv M) B).2 := by
  have hV := ext_VW.mp hw
  have ag := copy_agr (A := (cv M).2) h.1.1.1 h.1.1.2.1 h.1.1.2.2.1 h.1.1.2.2.2.1
  have hC : RL n j T (f_Yd_copyOf (cv M).2 B).2 X := RL_agr ag h
  have hw2 : VW n j (f_Yd_copyOf (cv M).2 B).2 w := by
    refine ⟨fun v hv => ?_, hV.2⟩
    obtain ⟨a1, a2, a3, a4⟩ := hV.1 v hv
    have hi : v / 10 < j := by omega
    refine ⟨a1, a2, by rw [ag.2.1 _ 3 hi (by decide)]; exact a3, ?_⟩
    unfold yiR at a4 ⊢
    rw [ag.1 _ 1 a2 (by decide) (by decide) (by decide), ag.1 _ 2 a2 (by decide) (by decide) (by decide), ag.2.1 _ 0 hi (by decide), ag.2.1 _ 1 hi (by decide)]
    exact a4
  subst hB
  refine cs_Pl_tryWay (n := n) (m := f) (j := j) (I := IA n j) (P := fun i A => A.1 = (cv M).1 ∧ ∃ a b X' T', w = a ++ b ∧ a.length = i ∧ RL n j T' A.2 X' ∧ VW n j A.2 b ∧ T' + b.length < 2 ^ 31) h.1.1.1 h4 (fun A => IA_nn) (fun A i => IA_one) (fun A i => IA_tick) (fun A => IA_sec) ?_ ?_ ?_ ?_ h.1.1.2.1 h.1.1.2.2.1 h.1.1.2.2.2.1 hz h.1.1.2.2.2.2.2 ?_
  · rintro i A ⟨e, a, b, X', T', hab, ha, hR, hb, hT'⟩ hi
    cases b with
    | nil =>
      rw [List.append_nil] at hab
      subst hab
      omega
    | cons v b =>
      have hr2 := hE.1
      have hr3 := hE.2.1
      rw [hab, List.map_append, rowl_app, List.length_map, Nat.zero_add, ha] at hr2 hr3
      have e2 : A.1 2 i = nI (v / 10) := by rw [e]; exact hr2.2.1
      have e3 : A.1 3 i = nI (v % 10) := by rw [e]; exact hr3.2.1
      have v80 : v < 80 := by
        have := (hV.1 v (by rw [hab]; exact List.mem_append_right _ List.mem_cons_self)).1
        have := h.1.1.2.1
        omega
      rw [List.length_cons] at hT'
      refine ⟨e, a ++ [v], b, gvt X' v, T' + 1, by rw [hab]; simp, by simp [ha], ?_, ?_, by omega⟩
      · rw [e2, e3, ix_nI (by omega), ix_nI (by omega)]
        exact RL_hnd hR (hb.1 v List.mem_cons_self) (by omega)
      · rw [e2, e3, ix_nI (by omega), ix_nI (by omega)]
        exact VW_tail hR.1 hb
  · rintro A ⟨e, a, b, X', T', hab, ha, hR, hb, hT'⟩
    exact ⟨⟨X', T', hR⟩, by
      rw [e]
      have := CR_lim hs ht
      rw [xa_le]
      have : (300 : Int32).toInt = 300 := by decide
      omega⟩
  · rintro i A ⟨e, -⟩
    rw [e]
    exact hs.1
  · rintro i A ⟨e, a, b, X', T', hab, ha, hR, hb, hT'⟩ hi
    cases b with
    | nil =>
      rw [List.append_nil] at hab
      subst hab
      omega
    | cons v b =>
      have hr2 := hE.1
      have hr3 := hE.2.1
      rw [hab, List.map_append, rowl_app, List.length_map, Nat.zero_add, ha] at hr2 hr3
      have e2 : A.1 2 i = nI (v / 10) := by rw [e]; exact hr2.2.1
      have e3 : A.1 3 i = nI (v % 10) := by rw [e]; exact hr3.2.1
      obtain ⟨o1, o2, o3, o4⟩ := hb.1 v List.mem_cons_self
      have h8 := h.1.1.2.1
      have h3 := h.1.1.1
      refine ⟨okx_of e2 (by omega) (by decide), okx_of e3 (by omega) (by decide), fun _ => ?_⟩
      rw [e3, ix_nI (by omega)]
      obtain ⟨m, m8, hm, -⟩ := q_room hR.1 o2 (show v / 10 < j by omega) o3
      exact okx_of hm m8 (by decide)
  · exact ⟨rfl, [], w, X, T, rfl, rfl, hC, hw2, by omega⟩
theorem m_ext (h : RL n j T B X) (hz : ∀ c, c < 3 → cr B c 3 = 0 ∨ cr B c 3 = 1) (hT : T + 4 < 2 ^ 31) (h4 : f ≤ 4) (ht : t ≤ 300) : ∀ (p d : Nat) (w : List Nat) (M : mm_M) (s : Option (Nat × List Nat)), w.length + p = f → ss_ext (10 * j) (mayb n B) [] w → yv 8 M = B → EW w (w.map (· / 10)) (cv M).1 → CR f t s (cv M).1 → CS (d + 6 + p) 11 M [.inr (2, 1), .inr (3, 8), .inl (nI w.length)] none (F_ext B p w.length (cv M))
  | 0, d, w, M, s, hl, hw, hB, hE, hs => by
    have hl' : w.length = f := by omega
    refine cs_ext_0 (d := d) ?_ (m_try h hz hT h4 ht hB hl' hw hE hs)
    rw [hs.1, hl']
    exact fun z => by rw [xa_lt] at z; omega
  | p + 1, d, w, M, s, hl, hw, hB, hE, hs => by
    have hsim := fun p w A s a b c e => ext_sim (fin := fun w => finA t (w.foldl hnd B)) h hT h4 ht (fun _ => rfl) p w A s a b c e
    have key := cs_ext_S (d := d + 1 + p) (M := M) (g := F_ext B p (w.length + 1)) (q := w.length) (n := n) (jn := j) (G := fun A => ∃ v s, ss_ext (10 * j) (mayb n B) [] (w ++ [v]) ∧ EW (w ++ [v]) ((w ++ [v]).map (· / 10)) A.1 ∧ CR f t s A.1) (O := fun A => ∃ s, EW w (w.map (· / 10)) A.1 ∧ CR f t s A.1) (H := fun jj A => jj ∉ w.map (· / 10) ∧ jb B jj 3 = 0 ∧ ∃ s, EW w (jj :: w.map (· / 10)) A.1 ∧ CR f t s A.1)
      (by rw [hs.1]; exact Int32.lt_iff_toInt_lt.mpr (by rw [nI_toInt (by omega), nI_toInt (by omega)]; omega)) h.1.1.1 (by rw [hB]; exact h.1.1.2.2.1) (by rw [hB]; exact h.1.1.2.2.2.1) h.1.1.2.1 (by omega) ?_ ?_ ?_ ?_ ⟨s, hE, hs⟩
    · rw [hB] at key
      rw [show d + 6 + (p + 1) = d + 1 + p + 5 + 1 by omega]
      exact key
    · rintro M1 hM1 ⟨v, s1, c1, c2, c3⟩
      have el : (w ++ [v]).length = w.length + 1 := by simp
      have := m_ext h hz hT h4 ht p d (w ++ [v]) M1 s1 (by omega) c1 (hM1.trans hB) c2 c3
      rw [el] at this
      rw [show d + 1 + p + 5 = d + 6 + p by omega]
      exact this
    · rintro jj A c hjj ⟨hnew, hfree, s1, c1, c2⟩ hc hre -
      rw [hB] at hre
      have hg : gOK n j f t B (fun w => finA t (w.foldl hnd B)) p w (F_ext B p (w.length + 1)) := fun v A s hx hE hs => by
        have el : (w ++ [v]).length = w.length + 1 := by simp
        have := hsim p (w ++ [v]) A s (by omega) hx hE hs
        rw [el] at this
        exact this
      obtain ⟨⟨r1, r2, r3⟩, r4, r5⟩ := ec_one hg hw hjj hfree hnew hc h.1.1.1 hre c1 c2
      exact ⟨⟨_, _, r1, r2, r3⟩, hnew, hfree, _, r4, r5⟩
    · rintro A jj ⟨s1, c1, c2⟩ hjj hf0 h0
      rw [hB] at hf0
      exact ⟨(EW_0 c1 (by have := h.1.1.2.1; omega)).mp h0, hf0, s1, EW_mark c1, CR_up c2 (by decide) (by decide)⟩
    · rintro A jj ⟨hnew, hfree, s1, c1, c2⟩ hjj
      exact ⟨s1, EW_unmark c1 hnew, CR_up c2 (by decide) (by decide)⟩
/-- the class's search: what it answers and keeps -/
theorem m_search {d : Nat} {M : mm_M} {x : Int32} (h : RL n j T (yv 8 M) X) (hz : ∀ c, c < 3 → cr (yv 8 M) c 3 = 0 ∨ cr (yv 8 M) c 3 = 1) (hT : T + 4 < 2 ^ 31) (h4 : f ≤ 4) (ht : t ≤ 300) (hx : x = nI t) (hfr : f_Yd_countFree (yv 8 M) = nI f) (h0 : ∀ i, i < 8 → pv M 1 i = 0) :
    ∃ A', CS (d + 7 + f) 9 M [.inr (2, 1), .inr (3, 8), .inl x] (some (A'.1 0 7)) A' ∧ (∀ i, i < 8 → A'.1 1 i = 0) ∧ CR f t (ss_go (10 * j) (fun w => finA t (w.foldl hnd (yv 8 M))) (mayb n (yv 8 M)) f [] none) A'.1 := by
  have e4 : (if (4 : Int32) < f_Yd_countFree (yv 8 M) then (4 : Int32) else f_Yd_countFree (yv 8 M)) = nI f := by
    rw [hfr, if_neg]
    intro z
    rw [xa_lt, nI_toInt (by omega)] at z
    have : (4 : Int32).toInt = 4 := by decide
    omega
  have hE0 : EW [] ([].map (· / 10)) (srch0 (cv M) (yv 8 M) x).1 := ⟨trivial, trivial, fun i hi => by
    rw [if_neg (by simp)]
    refine Eq.trans ?_ (h0 i hi)
    simp [srch0, ucv, mm_up, cv]⟩
  have hC0 : CR f t none (srch0 (cv M) (yv 8 M) x).1 := by
    unfold srch0
    rw [e4]
    refine ⟨?_, ?_, ?_, ?_⟩ <;> simp [ucv, mm_up, hx]
  obtain ⟨r1, r2⟩ := ext_sim (fin := fun w => finA t (w.foldl hnd (yv 8 M))) h hT h4 ht (fun _ => rfl) f [] (srch0 (cv M) (yv 8 M) x) none (by simp) trivial hE0 hC0
  have hp := ss_prune (N := 10 * j) (fin := fun w => finA t (w.foldl hnd (yv 8 M))) (m := mayb n (yv 8 M)) (f := f) (k := kpb) (fun _ => rfl) (fun w0 u v r a b c => swap_ok h hT h4 w0 u v r a b c) f [] none (by simp) trivial (fun x _ _ z => by
    obtain ⟨p, a, b, r, s, -, h2, -⟩ := z
    exact absurd h2.symm (by simp))
  rw [hp] at r2
  refine ⟨F_ext (yv 8 M) f 0 (srch0 (cv M) (yv 8 M) x), ?_, fun i hi => by rw [show (F_ext (yv 8 M) f 0 (srch0 (cv M) (yv 8 M) x)).1 1 i = _ from r1.2.2 i hi, if_neg (by simp)], r2⟩
  rw [show d + 7 + f = (d + 5 + f) + 1 + 1 by omega]
  refine cs_search (n := j) h.1.1.2.2.2.1 h.1.1.2.1 (fun M1 hy hc => ?_)
  have := m_ext h hz hT h4 ht f d [] M1 none (by simp) trivial hy (by rw [hc]; exact hE0) (by rw [hc]; exact hC0)
  rw [hc] at this
  rw [show d + 5 + f + 1 = d + 6 + f by omega]
  exact this
end MEXT
