/-! GIVING A JOB; A COPY OF THE YARD; HOW LONG ALL TAKES -/
section GIVE
variable {n j T : Nat} {A : ya} {X : mm_M} {c i : Nat}
theorem hand_eq {m : Nat} (hm : cr A c 10 = nI m) (h8 : m < 8) : (f_Yd_hand A i c).2 = usc (ucr (uwa (ujb (ujb A i 3 1) i 4 (nI c)) c m (nI i)) c 10 (nI (m + 1))) 8 1 := by
  unfold f_Yd_hand
  rw [(queue_spec (A := ujb (ujb A i 3 1) i 4 (nI c)) (x := nI i) hm h8).1]
theorem give_eq : (f_Mo_giveTo X i c).2 = mm_up (f_Mo_setJob (f_Mo_setJob (f_Mo_setJob X i 3 1).2 i 4 (nI c)).2 i 6 (X 3 2)).2 3 2 (X 3 2 + 1) := by
  show mm_up (f_Mo_setJob (f_Mo_setJob (f_Mo_setJob X i 3 1).2 i 4 (nI c)).2 i 6 ((f_Mo_setJob (f_Mo_setJob X i 3 1).2 i 4 (nI c)).2 3 2)).2 3 2 ((f_Mo_setJob (f_Mo_setJob (f_Mo_setJob X i 3 1).2 i 4 (nI c)).2 i 6 ((f_Mo_setJob (f_Mo_setJob X i 3 1).2 i 4 (nI c)).2 3 2)).2 3 2 + 1) = _
  rw [sj_row (q := 2) (by omega), sj_row (q := 2) (by omega), sj_row (q := 2) (by omega), sj_row (q := 2) (by omega), sj_row (q := 2) (by omega)]
/-- there is room for a free job in every queue -/
theorem q_room (h : yi n j A) (hc : c < n) (hi : i < j) (h0 : jb A i 3 = 0) : ∃ m, m < 8 ∧ cr A c 10 = nI m ∧ nI i ∉ qs A c := by
  obtain ⟨⟨m, m8, hm⟩, k2, k3, k4⟩ := h.2.2.2.2.1 c hc
  have hj8 := h.1.2.1
  have hno : nI i ∉ qs A c := fun z => by
    have := (k3 _ z).2.1
    rw [ix_nI (by omega), h0] at this
    exact absurd this (by decide)
  refine ⟨m, ?_, hm, hno⟩
  have hl : (nI i :: qs A c).length ≤ j := qs_len (by omega) (List.nodup_cons.mpr ⟨hno, k2⟩) (fun x hx => by
    rcases List.mem_cons.mp hx with e | e
    · rw [e]; exact okx_nI hi (by omega)
    · exact (k3 x e).1)
  rw [qs_of hm] at hl
  simp at hl
  omega
theorem RL_give (h : RL n j T A X) (hi : i < j) (hc : c < n) (h0 : jb A i 3 = 0) (hr : yiR A c i) (hT : T + 1 < 2 ^ 31) : RL n j (T + 1) (f_Yd_hand A i c).2 (f_Mo_giveTo X i c).2 := by
  obtain ⟨hy, hv, a1, a2, a3⟩ := h
  obtain ⟨m, m8, hm, hno⟩ := q_room hy hc hi h0
  have hn := hy.1.1
  have hj8 := hy.1.2.1
  rw [hand_eq hm m8, give_eq, a1, nI_1]
  have hqs := (queue_spec (A := ujb (ujb A i 3 1) i 4 (nI c)) (x := nI i) hm m8).2
  have q0 : qs (ujb (ujb A i 3 1) i 4 (nI c)) c = qs A c := rfl
  rw [q0] at hqs
  generalize hB : usc (ucr (uwa (ujb (ujb A i 3 1) i 4 (nI c)) c m (nI i)) c 10 (nI (m + 1))) 8 1 = B
  have bj : ∀ i' k, jb B i' k = if i' = i ∧ k = 4 then nI c else if i' = i ∧ k = 3 then 1 else jb A i' k := fun i' k => by rw [← hB]; rfl
  have bcr : ∀ c' k, (c' ≠ c ∨ k ≠ 10) → cr B c' k = cr A c' k := fun c' k z => by rw [← hB]; exact ucr_ne z
  have bsc : ∀ k, k ≠ 8 → sc B k = sc A k := fun k z => by
    rw [← hB]
    show upd (sc A) 8 1 k = _
    simp [upd, z]
  have qc : qs B c = qs A c ++ [nI i] := by rw [← hB]; exact hqs
  have qo : ∀ c', c' ≠ c → qs B c' = qs A c' := fun c' e => qs_congr (bcr c' 10 (Or.inl e)) (by
    rw [← hB]
    funext q
    show mm_up (wa A) c m (nI i) c' q = _
    rw [mm_up_z e])
  have at_ne : ∀ c', c' < n → cr A c' 5 ≠ 0 → ix (cr A c' 4) ≠ i := fun c' hc' h5 e => by
    have := (at_ok hy hc' h5).2.1
    rw [e, h0] at this
    exact absurd this (by decide)
  have q_ne : ∀ c', c' < n → ∀ x ∈ qs A c', ix x ≠ i := fun c' hc' x hx e => by
    have := ((hy.2.2.2.2.1 c' hc').2.2.1 x hx).2.1
    rw [e, h0] at this
    exact absurd this (by decide)
  refine ⟨⟨?_, fun c' hc' => ?_, fun c' hc' => ?_, fun i' hi' => ?_, fun c' hc' => ?_, ?_⟩, ?_, ?_⟩
  · obtain ⟨s1, s2, s3, s4, s5, s6⟩ := hy.1
    refine ⟨s1, s2, by rw [bsc 0 (by decide)]; exact s3, by rw [bsc 6 (by decide)]; exact s4, by rw [bsc 1 (by decide), bsc 2 (by decide), bsc 3 (by decide)]; exact s5, Or.inr ?_⟩
    rw [← hB]
    show upd (sc A) 8 1 8 = _
    simp [upd]
  · obtain ⟨k1, k2, k3⟩ := hy.2.1 c' hc'
    refine ⟨?_, by rw [bcr c' 3 (by omega)]; exact k2, ?_⟩
    · unfold yiB at k1 ⊢
      rw [bcr c' 0 (by omega), bcr c' 1 (by omega), bcr c' 2 (by omega)]
      exact k1
    · by_cases e5 : cr A c' 5 = 0
      · rcases k3 with k3 | ⟨l1, -, -, l4⟩
        · exact Or.inl (by rw [bcr c' 5 (by omega), bcr c' 4 (by omega)]; exact k3)
        · rw [e5] at l4
          rcases l4 with ⟨z, -⟩ | ⟨z, -⟩ | ⟨z | z, -⟩ <;> exact absurd z (by decide)
      · have e6 := at_ne c' hc' e5
        unfold yiH at k3 ⊢
        rw [bcr c' 4 (by omega), bcr c' 5 (by omega), bcr c' 6 (by omega), bcr c' 7 (by omega), bj, bj, bj, bj, if_neg (by omega), if_neg (by omega), if_neg (by omega), if_neg (by omega), if_neg (by omega), if_neg (by omega), if_neg (by omega), if_neg (by omega)]
        exact k3
  · have := hy.2.2.1 c' hc'
    rw [bcr c' 0 (by omega), bcr (c' + 1) 0 (by omega), bsc 1 (by decide)]
    exact this
  · have rR : ∀ c', yiR B c' i' ↔ yiR A c' i' := fun c' => by
      unfold yiR
      rw [bcr c' 1 (by omega), bcr c' 2 (by omega), bj, bj, if_neg (by omega), if_neg (by omega), if_neg (by omega), if_neg (by omega)]
    by_cases e : i' = i
    · subst e
      refine ⟨?_, fun _ => ⟨c, hc, ?_, (rR c).mpr hr⟩⟩
      · rw [bj, if_neg (by omega), if_pos ⟨rfl, rfl⟩]; exact Or.inr (Or.inl rfl)
      · rw [bj, if_pos ⟨rfl, rfl⟩]
    · have b3 : jb B i' 3 = jb A i' 3 := by rw [bj, if_neg (by omega), if_neg (by omega)]
      have b4 : jb B i' 4 = jb A i' 4 := by rw [bj, if_neg (by omega), if_neg (by omega)]
      obtain ⟨k1, k2⟩ := hy.2.2.2.1 i' hi'
      unfold yiJ
      rw [b3, b4]
      refine ⟨k1, fun z => ?_⟩
      obtain ⟨c', l1, l2, l3⟩ := k2 z
      exact ⟨c', l1, l2, (rR c').mpr l3⟩
  · obtain ⟨k1, k2, k3, k4⟩ := hy.2.2.2.2.1 c' hc'
    have b3 : ∀ i', i' ≠ i → jb B i' 3 = jb A i' 3 := fun i' z => by rw [bj, if_neg (by omega), if_neg (by omega)]
    have b4 : ∀ i', i' ≠ i → jb B i' 4 = jb A i' 4 := fun i' z => by rw [bj, if_neg (by omega), if_neg (by omega)]
    have bi3 : jb B i 3 = 1 := by rw [bj, if_neg (by omega), if_pos ⟨rfl, rfl⟩]
    have bi4 : jb B i 4 = nI c := by rw [bj, if_pos ⟨rfl, rfl⟩]
    by_cases e : c' = c
    · subst e
      unfold yiQ
      rw [qc]
      refine ⟨⟨m + 1, by omega, by rw [← hB]; exact ucr_at⟩, ?_, fun x hx => ?_, fun i' hi' z1 z2 => ?_⟩
      · rw [List.nodup_append]
        exact ⟨k2, by simp, fun a ha b hb e => by
          rw [List.mem_singleton.mp hb] at e
          exact hno (by rw [← e]; exact ha)⟩
      · rcases List.mem_append.mp hx with z | z
        · have := q_ne c' hc' x z
          rw [b3 _ this, b4 _ this]; exact k3 x z
        · rw [List.mem_singleton.mp z, ix_nI (by omega)]
          exact ⟨okx_nI hi (by omega), bi3, bi4⟩
      · by_cases e2 : i' = i
        · rw [e2]; exact List.mem_append_right _ (List.mem_singleton.mpr rfl)
        · rw [b3 _ e2] at z1
          rw [b4 _ e2] at z2
          exact List.mem_append_left _ (k4 i' hi' z1 z2)
    · unfold yiQ
      rw [qo c' e, bcr c' 10 (Or.inl e)]
      refine ⟨k1, k2, fun x hx => ?_, fun i' hi' z1 z2 => ?_⟩
      · have := q_ne c' hc' x hx
        rw [b3 _ this, b4 _ this]; exact k3 x hx
      · by_cases e2 : i' = i
        · subst e2
          rw [bi4] at z2
          exact absurd (nI_inj (by omega) (by omega) z2).symm e
        · rw [b3 _ e2] at z1
          rw [b4 _ e2] at z2
          exact k4 i' hi' z1 z2
  · rw [bsc 7 (by decide), hy.2.2.2.2.2, cntO_congr (A := A) (B := B) (fun i' _ => by
      by_cases e : i' = i
      · subst e
        rw [bj, if_neg (by omega), if_pos ⟨rfl, rfl⟩, h0]; decide
      · rw [bj, if_neg (by omega), if_neg (by omega)])]
  · rw [← hB, va_sc0 (by decide), va_cr0 (by omega), va_wa, va_jb hi (by decide), va_jb hi (by decide), hv]
    rw [vx_ext (X := (f_Mo_setJob (f_Mo_setJob (f_Mo_setJob X i 3 1).2 i 4 (nI c)).2 i 6 (nI T)).2) hn (fun q _ _ => by simp [mm_up]) (fun q _ => by simp [mm_up]) (fun q _ => by simp [mm_up]) (fun q hq _ => mm_up_k _ _ _ (by omega))]
    rw [vx_ext (X := (f_Mo_setJob (f_Mo_setJob X i 3 1).2 i 4 (nI c)).2) hn (fun q _ _ => sj_row (by omega)) (fun q _ => sj_row (by omega)) (fun q _ => sj_row (by omega)) (fun q _ h6 => mm_up_k _ _ _ (h6 i))]
    rw [vx_jb (by decide) hi hn, vx_jb (by decide) hi hn]
  · have o6 : ∀ i', f_Mo_ofJob (mm_up (f_Mo_setJob (f_Mo_setJob (f_Mo_setJob X i 3 1).2 i 4 (nI c)).2 i 6 (nI T)).2 3 2 (nI (T + 1))) i' 6 = if i' = i then nI T else f_Mo_ofJob X i' 6 := fun i' => by
      have e1 : f_Mo_ofJob (mm_up (f_Mo_setJob (f_Mo_setJob (f_Mo_setJob X i 3 1).2 i 4 (nI c)).2 i 6 (nI T)).2 3 2 (nI (T + 1))) i' 6 = f_Mo_ofJob (f_Mo_setJob (f_Mo_setJob (f_Mo_setJob X i 3 1).2 i 4 (nI c)).2 i 6 (nI T)).2 i' 6 := mm_up_k _ _ _ (by omega)
      rw [e1]
      by_cases e : i' = i
      · subst e; rw [if_pos rfl, oj_at (by omega)]
      · rw [if_neg e, oj_ne (by omega) (by omega) (by omega), oj_ne (by omega) (by omega) (by omega), oj_ne (by omega) (by omega) (by omega)]
    refine ⟨mm_up_at _ _ _ _, fun c' hc' => ?_, fun i' hi' z => ?_⟩
    · have base : (qs A c').Pairwise (fun x y => f_Mo_ofJob (mm_up (f_Mo_setJob (f_Mo_setJob (f_Mo_setJob X i 3 1).2 i 4 (nI c)).2 i 6 (nI T)).2 3 2 (nI (T + 1))) (ix x) 6 < f_Mo_ofJob (mm_up (f_Mo_setJob (f_Mo_setJob (f_Mo_setJob X i 3 1).2 i 4 (nI c)).2 i 6 (nI T)).2 3 2 (nI (T + 1))) (ix y) 6) := (a2 c' hc').imp_of_mem (fun {x y} hx hy' lt => by
        rw [o6, o6, if_neg (q_ne c' hc' x hx), if_neg (q_ne c' hc' y hy')]; exact lt)
      by_cases e : c' = c
      · subst e
        rw [qc, List.pairwise_append]
        refine ⟨base, by simp, fun x hx y hy' => ?_⟩
        rw [List.mem_singleton.mp hy', ix_nI (by omega), o6, o6, if_pos rfl, if_neg (q_ne c' hc' x hx)]
        obtain ⟨x1, x2, x3⟩ := (hy.2.2.2.2.1 c' hc').2.2.1 x hx
        obtain ⟨o, o1, o2⟩ := a3 _ x1.2 x2
        rw [o2]; exact nI_lt o1 (by omega)
      · rw [qo c' e]; exact base
    · rw [o6]
      by_cases e : i' = i
      · rw [if_pos e]; exact ⟨T, by omega, rfl⟩
      · rw [if_neg e]
        rw [bj, if_neg (by omega), if_neg (by omega)] at z
        obtain ⟨o, o1, o2⟩ := a3 i' hi' z
        exact ⟨o, by omega, o2⟩
end GIVE
/-! a yard that agrees where it counts -/
def agr (n j : Nat) (A B : ya) : Prop := (∀ c k, c < n → k < 11 → k ≠ 8 → k ≠ 9 → cr A c k = cr B c k) ∧ (∀ i k, i < j → k < 6 → jb A i k = jb B i k) ∧ (∀ k, k < 9 → sc A k = sc B k) ∧ (∀ c k, c < n → k < 4 → se A c k = se B c k) ∧ (∀ c k, c < n → k < 8 → wa A c k = wa B c k)
theorem agr_qs {n j : Nat} {A B : ya} (h : agr n j A B) (hy : yi n j B) {c : Nat} (hc : c < n) : qs A c = qs B c := by
  obtain ⟨m, m8, hm⟩ := (hy.2.2.2.2.1 c hc).1
  have e : cr A c 10 = nI m := (h.1 c 10 hc (by decide) (by decide) (by decide)).trans hm
  rw [qs_of hm, qs_of e]
  exact List.map_congr_left (fun q hq => h.2.2.2.2 c q hc (by have := List.mem_range.mp hq; omega))
theorem RL_agr {n j T : Nat} {A B : ya} {X : mm_M} (h : agr n j A B) (hB : RL n j T B X) : RL n j T A X := by
  obtain ⟨hy, hv, a1, a2, a3⟩ := hB
  have hq : ∀ c, c < n → qs A c = qs B c := fun c hc => agr_qs h hy hc
  obtain ⟨h1, h2, h3, h4, h5⟩ := h
  obtain ⟨hS, hC, hN, hJ, hQ, hO⟩ := hy
  have hn := hS.1
  refine ⟨⟨?_, fun c hc => ?_, fun c hc => ?_, fun i hi => ?_, fun c hc => ?_, ?_⟩, ?_, a1, fun c hc => ?_, fun i hi => ?_⟩
  · unfold yiS at hS ⊢
    rw [h3 0 (by decide), h3 6 (by decide), h3 1 (by decide), h3 2 (by decide), h3 3 (by decide), h3 8 (by decide)]
    exact hS
  · obtain ⟨k1, k2, k3⟩ := hC c hc
    have g : ∀ k, k < 8 → cr A c k = cr B c k := fun k hk => h1 c k hc (by omega) (by omega) (by omega)
    refine ⟨?_, by rw [g 3 (by decide)]; exact k2, ?_⟩
    · unfold yiB at k1 ⊢
      rw [g 0 (by decide), g 1 (by decide), g 2 (by decide)]; exact k1
    · rcases k3 with k3 | ⟨l1, l2, l3, l4⟩
      · exact Or.inl (by rw [g 5 (by decide), g 4 (by decide)]; exact k3)
      · refine Or.inr ?_
        rw [g 4 (by decide), g 5 (by decide), g 6 (by decide), g 7 (by decide), h2 _ 3 l1.2 (by decide), h2 _ 4 l1.2 (by decide), h2 _ 0 l1.2 (by decide), h2 _ 1 l1.2 (by decide)]
        exact ⟨l1, l2, l3, l4⟩
  · have := hN c hc
    rw [h1 c 0 (by omega) (by decide) (by decide) (by decide), h1 (c + 1) 0 (by omega) (by decide) (by decide) (by decide), h3 1 (by decide)]
    exact this
  · obtain ⟨k1, k2⟩ := hJ i hi
    unfold yiJ
    rw [h2 i 3 hi (by decide), h2 i 4 hi (by decide)]
    refine ⟨k1, fun z => ?_⟩
    obtain ⟨c, l1, l2, l3⟩ := k2 z
    refine ⟨c, l1, l2, ?_⟩
    unfold yiR at l3 ⊢
    rw [h1 c 1 l1 (by decide) (by decide) (by decide), h1 c 2 l1 (by decide) (by decide) (by decide), h2 i 0 hi (by decide), h2 i 1 hi (by decide)]
    exact l3
  · obtain ⟨k1, k2, k3, k4⟩ := hQ c hc
    unfold yiQ
    rw [hq c hc, h1 c 10 hc (by decide) (by decide) (by decide)]
    refine ⟨k1, k2, fun x hx => ?_, fun i hi => ?_⟩
    · have := k3 x hx
      rw [h2 _ 3 this.1.2 (by decide), h2 _ 4 this.1.2 (by decide)]; exact this
    · rw [h2 i 3 hi (by decide), h2 i 4 hi (by decide)]; exact k4 i hi
  · rw [h3 7 (by decide), hO, cntO_congr (A := B) (B := A) (fun i hi => by rw [h2 i 3 hi (by decide)])]
  · rw [← hv]
    refine yv_ext (fun c k => ?_) (fun c k => ?_) (fun k => ?_) (fun c k => ?_) (fun _ _ => rfl)
    · simp only [vA]
      by_cases z : c < n ∧ k < 8 ∧ k ≠ 6
      · rw [if_pos z, if_pos z, h1 c k z.1 (by omega) (by omega) (by omega)]
      · rw [if_neg z, if_neg z]
    · simp only [vA]
      by_cases z : c < j ∧ k < 6
      · rw [if_pos z, if_pos z, h2 c k z.1 z.2]
      · rw [if_neg z, if_neg z]
    · simp only [vA]
      by_cases z : k < 7
      · rw [if_pos z, if_pos z, h3 k (by omega)]
      · rw [if_neg z, if_neg z]
    · simp only [vA]
      by_cases z : c < n ∧ k < 4
      · rw [if_pos z, if_pos z, h4 c k z.1 z.2]
      · rw [if_neg z, if_neg z]
  · rw [hq c hc]; exact a2 c hc
  · rw [h2 i 3 hi (by decide)]; exact a3 i hi
