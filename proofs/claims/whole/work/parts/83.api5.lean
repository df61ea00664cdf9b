/-! give, take, broken -/
section API5
variable {n j T : Nat} {A : ya} {P X : mm_M}
theorem gv_row {i c r q : Nat} (h : r ≠ 3) : (f_Mo_giveTo X i c).2 r q = X r q := by
  rw [give_eq]
  have e : ∀ (Z : mm_M) (w : Int32), mm_up Z 3 2 w r q = Z r q := fun Z w => by simp only [mm_up]; rw [if_neg (by omega)]
  rw [e, sj_row (Or.inl h), sj_row (Or.inl h), sj_row (Or.inl h)]
theorem rz_gv {i c : Nat} (h : rz n X) : rz n (f_Mo_giveTo X i c).2 := fun q h1 h2 => by
  rw [give_eq]
  refine Eq.trans (mm_up_k _ _ _ (by omega)) ?_
  exact (oc_sj h2 (by decide)).trans ((oc_sj h2 (by decide)).trans ((oc_sj h2 (by decide)).trans (h q h1 h2)))
theorem GR_give {i c : Nat} (h : GR n j T A P X) (hi : i < j) (hc : c < n) (h0 : jb A i 3 = 0) (hr : yiR A c i) (hT : T + 1 < 2 ^ 31) : GR n j (T + 1) (f_Yd_hand A i c).2 P (f_Mo_giveTo X i c).2 := by
  obtain ⟨⟨hR, hz⟩, g3, g4, g5, g6, g7, g8, ⟨m, b1, b2, b3, b4⟩, g10⟩ := h
  have hG := RL_give hR hi hc h0 hr hT
  obtain ⟨q, q8, hq, -⟩ := q_room hR.1 hc hi h0
  have he := hand_eq (i := i) hq q8
  refine ⟨⟨hG, rz_gv hz⟩, fun c' k1 k2 => ?_, fun i' k1 k2 => ?_, ?_, ?_, fun z => absurd z (by omega), fun z => absurd z (by omega), ⟨m, b1, b2, (gv_row (by decide)).trans b3, fun i' hi' => (b4 i' hi').trans (gv_row (by decide)).symm⟩, g10⟩
  · rw [he]
    show cr (ucr A c 10 _) c' 3 = 0 ∧ cr (ucr A c 10 _) c' 10 = 0
    rw [ucr_ne (by omega), ucr_ne (by omega)]
    exact g3 c' k1 k2
  · rw [he]
    show jb (ujb (ujb A i 3 1) i 4 (nI c)) i' 3 = 0 ∧ jb (ujb (ujb A i 3 1) i 4 (nI c)) i' 4 = -1 ∧ jb (ujb (ujb A i 3 1) i 4 (nI c)) i' 5 = -1
    rw [ujb_ne (by omega), ujb_ne (by omega), ujb_ne (by omega), ujb_ne (by omega), ujb_ne (by omega), ujb_ne (by omega)]
    exact g4 i' k1 k2
  · rw [he, usc_sc, if_pos rfl]
    exact ⟨fun z => absurd z (by decide), fun z => absurd z (by omega)⟩
  · rw [he, usc_sc, if_neg (by decide)]
    exact g6
def c_give (A : ya) (x w : Int32) : Int32 × ya := if f_Ct_within x 0 (sc A 6 - 1) = 0 then (1, A) else if f_Ct_within w 0 (sc A 0 - 1) = 0 then (1, A) else if jb A (ix x) 3 = 0 then (if f_Cr_reaches A (ix w) (ix x) = 0 then (3, A) else (0, (f_Yd_hand A (ix x) (ix w)).2)) else (2, A)
theorem st_le (h : yi n j A) {i : Nat} (hi : i < j) : jb A i 3 ≤ 0 ↔ jb A i 3 = 0 := by
  rcases (h.2.2.2.1 i hi).1 with e | e | e | e <;> rw [e] <;> decide
theorem thr_2 {p1 p2 p3 p4 : Int32} : (f_Mo_throwing X p1 p2 p3 p4).2 = mm_up X 0 0 (thrw p1 p2 p3 p4) := by rw [thr_eq]
theorem thr_1 {p1 p2 p3 p4 : Int32} : (f_Mo_throwing X p1 p2 p3 p4).1 = if thrw p1 p2 p3 p4 = 0 then 0 else 1 := by rw [thr_eq]
theorem gr_give {x w : Int32} (h : GR n j T A P X) (hT : T + 1 < 2 ^ 31) : (∃ n' j' T', T' ≤ T + 1 ∧ GR n' j' T' (c_give A x w).2 P (f_Mo_give X x w).2) ∧ (f_Mo_give X x w).2 0 0 = (c_give A x w).1 := by
  have hr := h.1.1
  have bad : ∀ p1 p2 p3 p4 : Int32, ∀ c : Int32, thrw p1 p2 p3 p4 = c → (∃ n' j' T', T' ≤ T + 1 ∧ GR n' j' T' A P (f_Mo_throwing X p1 p2 p3 p4).2) ∧ (f_Mo_throwing X p1 p2 p3 p4).2 0 0 = c := fun p1 p2 p3 p4 c hc => by
    rw [thr_2, hc]
    exact ⟨⟨n, j, T, by omega, GR_thr h⟩, mm_up_at _ _ _ _⟩
  unfold c_give f_Mo_give
  rw [isJ_eq hr, isC_eq hr]
  by_cases q1 : f_Ct_within x 0 (sc A 6 - 1) = 0
  · rw [if_pos q1, if_pos q1]; exact bad 1 0 0 0 1 (by decide)
  · rw [if_neg q1, if_neg q1]
    by_cases q2 : f_Ct_within w 0 (sc A 0 - 1) = 0
    · rw [if_pos q2, if_pos q2]; exact bad 1 0 0 0 1 (by decide)
    · rw [if_neg q2, if_neg q2]
      obtain ⟨-, lx⟩ := (j_ok hr).mp q1
      obtain ⟨-, lw⟩ := (c_ok hr).mp q2
      have e1 : f_Mo_ofJob X (ix x) 3 ≤ 0 ↔ jb A (ix x) 3 = 0 := by rw [← rd_j hr.2.1 lx (by decide)]; exact st_le hr.1 lx
      rw [reach_eq hr lw lx]
      by_cases q3 : jb A (ix x) 3 = 0
      · rw [if_pos q3, if_pos (e1.mpr q3)]
        by_cases q4 : f_Cr_reaches A (ix w) (ix x) = 0
        · rw [if_pos q4, if_pos q4, if_neg (by rw [thr_1]; decide)]; exact bad 0 0 1 0 3 (by decide)
        · rw [if_neg q4, if_neg q4, if_pos (by rw [thr_1]; decide), thr_2]
          have t0 : thrw 0 0 0 0 = 0 := by decide
          rw [t0]
          exact ⟨⟨n, j, T + 1, Nat.le_refl _, GR_give (GR_thr h) lx lw q3 (reach_iff.mp q4) hT⟩, (gv_row (by decide)).trans (mm_up_at _ _ _ _)⟩
      · rw [if_neg q3, if_neg (fun z => q3 (e1.mp z))]
        by_cases q4 : f_Cr_reaches A (ix w) (ix x) = 0
        · rw [if_pos q4, if_neg (by rw [thr_1]; decide)]; exact bad 0 1 1 0 2 (by decide)
        · rw [if_neg q4, if_neg (by rw [thr_1]; decide)]; exact bad 0 1 0 0 2 (by decide)
/-! take -/
theorem GR_take {i : Nat} (h : GR n j T A P X) (hi : i < j) (h1 : jb A i 3 = 1) : GR n j T (f_Yd_free A i).2 P (f_Mo_setJob (f_Mo_setJob X i 3 0).2 i 4 (-1)).2 := by
  obtain ⟨⟨⟨hy, hv, hq⟩, hz⟩, g3, g4, g5, g6, g7, g8, ⟨m, b1, b2, b3, b4⟩, g10⟩ := h
  have hn := hy.1.1
  have hj8 := hy.1.2.1
  obtain ⟨c, hc, ho, -⟩ := (hy.2.2.2.1 i hi).2 (Or.inl h1)
  obtain ⟨⟨k, k8, hk⟩, kd, km, kb⟩ := hy.2.2.2.2.1 c hc
  have hw : ¬ f_Ct_within (jb A i 4) 0 (sc A 0 - 1) = 0 := by
    rw [in_eq, hy.1.2.2.1]
    exact (in_ok (by omega)).mpr (okx_of ho hc (by omega))
  unfold f_Yd_free
  rw [if_neg hw, ho, ix_nI (by omega)]
  obtain ⟨k', k'le, u1, u2, u3, u4, u5, u6⟩ := unqueue_spec (x := nI i) hk k8
  generalize (f_Cr_unqueue A c (nI i)).2 = U at u1 u2 u3 u4 u5 u6
  show GR n j T (ujb (ujb U i 3 0) i 4 (-1)) P _
  generalize hB : ujb (ujb U i 3 0) i 4 (-1) = B
  have cB : ∀ q w, (q ≠ c ∨ w ≠ 10) → cr B q w = cr A q w := fun q w z => by
    rw [← hB]
    show cr U q w = _
    rw [u1]
    simp only [mm_up]
    rw [if_neg (by omega)]
  have cB10 : cr B c 10 = nI k' := by
    rw [← hB]
    show cr U c 10 = _
    rw [u1, mm_up_at]
  have jne : ∀ i' w, (i' ≠ i ∨ (w ≠ 3 ∧ w ≠ 4)) → jb B i' w = jb A i' w := fun i' w z => by
    rw [← hB, ujb_ne (by omega), ujb_ne (by omega), u2]
  have j3 : jb B i 3 = 0 := by rw [← hB]; simp [ujb_jb]
  have j4 : jb B i 4 = -1 := by rw [← hB]; simp [ujb_jb]
  have sB : sc B = sc A := by rw [← hB]; exact u3
  have eB : se B = se A := by rw [← hB]; exact u4
  have wB : ∀ q, q ≠ c → wa B q = wa A q := fun q hq => by rw [← hB]; exact u5 q hq
  have qBc : qs B c = (qs A c).filter (fun y => !(y == nI i)) := by rw [← hB]; exact u6
  have qBo : ∀ q, q ≠ c → qs B q = qs A q := fun q z => qs_congr (cB q 10 (Or.inl z)) (wB q z)
  have vB : vA n j B = ujb (ujb (vA n j A) i 3 0) i 4 (-1) := by
    rw [← hB, va_jb hi (by decide), va_jb hi (by decide), vA_ext (A := A) (B := U) (fun q w _ z1 z2 => by rw [u1]; simp only [mm_up]; rw [if_neg (by omega)]) u2 (fun w _ => by rw [u3]) u4]
  clear hB u1 u2 u3 u4 u5 u6
  have memc : ∀ x, x ∈ qs B c ↔ x ∈ qs A c ∧ x ≠ nI i := fun x => by
    rw [qBc, List.mem_filter]
    constructor
    · rintro ⟨a, b⟩
      exact ⟨a, fun z => by rw [z] at b; simp at b⟩
    · rintro ⟨a, b⟩
      exact ⟨a, by simpa using b⟩
  have ixne : ∀ x, okx j x → x ≠ nI i → ix x ≠ i := fun x hx z e => z (by rw [hx.1, e])
  have sr : ∀ a q, (a ≠ 3 ∨ q < 10) → (f_Mo_setJob (f_Mo_setJob X i 3 0).2 i 4 (-1)).2 a q = X a q := fun a q z => (sj_row z).trans (sj_row z)
  have o6 : ∀ i', f_Mo_ofJob (f_Mo_setJob (f_Mo_setJob X i 3 0).2 i 4 (-1)).2 i' 6 = f_Mo_ofJob X i' 6 := fun i' => (oj_ne (by decide) (by decide) (Or.inr (by decide))).trans (oj_ne (by decide) (by decide) (Or.inr (by decide)))
  refine ⟨⟨⟨⟨?_, fun q hq' => ?_, fun q hq' => ?_, fun i' hi' => ?_, fun q hq' => ?_, ?_⟩, ?_, ?_, fun q hq' => ?_, fun i' hi' z => ?_⟩, fun q z1 z2 => (oc_sj z2 (by decide)).trans ((oc_sj z2 (by decide)).trans (hz q z1 z2))⟩, fun q z1 z2 => ?_, fun i' z1 z2 => ?_, by rw [sB]; exact g5, by rw [sB]; exact g6, fun t0 s4 => ?_, fun z => absurd z (by omega), ⟨m, b1, b2, (sr 0 12 (Or.inl (by decide))).trans b3, fun i' hi' => (b4 i' hi').trans (sr 6 i' (Or.inl (by decide))).symm⟩, g10⟩
  · have := hy.1
    unfold yiS at this ⊢
    rw [sB]; exact this
  · have g : ∀ w, w < 8 → cr B q w = cr A q w := fun w z => cB q w (Or.inr (by omega))
    obtain ⟨k1, k2, k3⟩ := hy.2.1 q hq'
    refine ⟨by unfold yiB at k1 ⊢; rw [g 0 (by decide), g 1 (by decide), g 2 (by decide)]; exact k1, by rw [g 3 (by decide)]; exact k2, ?_⟩
    unfold yiH at k3 ⊢
    rw [g 4 (by decide), g 5 (by decide), g 6 (by decide), g 7 (by decide)]
    rcases k3 with k3 | ⟨l1, l2, l3⟩
    · exact Or.inl k3
    · have ne : ix (cr A q 4) ≠ i := fun e => by rw [e, h1] at l2; exact absurd l2 (by decide)
      rw [jne _ 3 (Or.inl ne), jne _ 4 (Or.inl ne), jne _ 0 (Or.inl ne), jne _ 1 (Or.inl ne)]
      exact Or.inr ⟨l1, l2, l3⟩
  · rw [cB q 0 (Or.inr (by decide)), cB (q + 1) 0 (Or.inr (by decide)), sB]
    exact hy.2.2.1 q hq'
  · by_cases e : i' = i
    · subst e
      refine ⟨Or.inl j3, fun z => ?_⟩
      rw [j3] at z
      rcases z with z | z <;> exact absurd z (by decide)
    · obtain ⟨k1, k2⟩ := hy.2.2.2.1 i' hi'
      unfold yiJ
      rw [jne i' 3 (Or.inl e), jne i' 4 (Or.inl e)]
      refine ⟨k1, fun z => ?_⟩
      obtain ⟨c', l1, l2, l3⟩ := k2 z
      refine ⟨c', l1, l2, ?_⟩
      unfold yiR at l3 ⊢
      rw [cB c' 1 (Or.inr (by decide)), cB c' 2 (Or.inr (by decide)), jne i' 0 (Or.inl e), jne i' 1 (Or.inl e)]
      exact l3
  · by_cases e : q = c
    · subst e
      refine ⟨⟨k', by omega, cB10⟩, by rw [qBc]; exact kd.filter _, fun x hx => ?_, fun i' hi' z1 z2 => ?_⟩
      · obtain ⟨a, b⟩ := (memc x).mp hx
        obtain ⟨l1, l2, l3⟩ := km x a
        have ne := ixne x l1 b
        rw [jne _ 3 (Or.inl ne), jne _ 4 (Or.inl ne)]
        exact ⟨l1, l2, l3⟩
      · have ne : i' ≠ i := fun z => by rw [z, j3] at z1; exact absurd z1 (by decide)
        rw [jne i' 3 (Or.inl ne)] at z1
        rw [jne i' 4 (Or.inl ne)] at z2
        exact (memc _).mpr ⟨kb i' hi' z1 z2, fun z => ne (nI_inj (by omega) (by omega) z)⟩
    · obtain ⟨k1, k2, k3, k4⟩ := hy.2.2.2.2.1 q hq'
      unfold yiQ
      rw [qBo q e, cB q 10 (Or.inl e)]
      refine ⟨k1, k2, fun x hx => ?_, fun i' hi' z1 z2 => ?_⟩
      · obtain ⟨l1, l2, l3⟩ := k3 x hx
        have ne : ix x ≠ i := fun z => by
          rw [z, ho] at l3
          exact e (nI_inj (by omega) (by omega) l3).symm
        rw [jne _ 3 (Or.inl ne), jne _ 4 (Or.inl ne)]
        exact ⟨l1, l2, l3⟩
      · have ne : i' ≠ i := fun z => by rw [z, j3] at z1; exact absurd z1 (by decide)
        rw [jne i' 3 (Or.inl ne)] at z1
        rw [jne i' 4 (Or.inl ne)] at z2
        exact k4 i' hi' z1 z2
  · rw [sB, hy.2.2.2.2.2, cntO_congr (A := A) (B := B) (fun i' _ => ?_)]
    by_cases e : i' = i
    · subst e
      rw [j3, h1]
      exact ⟨fun z => absurd z (by decide), fun z => absurd z (by decide)⟩
    · rw [jne i' 3 (Or.inl e)]
  · rw [vB, vx_jb (by decide) hi hn, vx_jb (by decide) hi hn, hv]
  · rw [sr 3 2 (Or.inr (by decide))]; exact hq.1
  · by_cases e : q = c
    · subst e
      rw [qBc]
      refine ((hq.2.1 q hq').filter _).imp (fun {a b} hab => ?_)
      rw [o6, o6]; exact hab
    · rw [qBo q e]
      refine (hq.2.1 q hq').imp (fun {a b} hab => ?_)
      rw [o6, o6]; exact hab
  · have ne : i' ≠ i := fun y => by rw [y, j3] at z; exact absurd z (by decide)
    rw [jne i' 3 (Or.inl ne)] at z
    rw [o6]
    exact hq.2.2 i' hi' z
  · rw [cB q 3 (Or.inr (by decide)), cB q 10 (Or.inl (by omega))]; exact g3 q z1 z2
  · rw [jne i' 3 (Or.inl (by omega)), jne i' 4 (Or.inl (by omega)), jne i' 5 (Or.inl (by omega))]; exact g4 i' z1 z2
  · rw [sB] at s4
    have := g7 t0 s4 i hi
    rw [h1] at this
    exact absurd this (by decide)
def c_take (A : ya) (x : Int32) : Int32 × ya := if f_Ct_within x 0 (sc A 6 - 1) = 0 then (1, A) else if jb A (ix x) 3 = 1 then (0, (f_Yd_free A (ix x)).2) else (2, A)
theorem gr_take {x : Int32} (h : GR n j T A P X) : (∃ n' j', GR n' j' T (c_take A x).2 P (f_Mo_take X x).2) ∧ (f_Mo_take X x).2 0 0 = (c_take A x).1 := by
  have hr := h.1.1
  have bad : ∀ p1 p2 p3 p4 : Int32, ∀ c : Int32, thrw p1 p2 p3 p4 = c → (∃ n' j', GR n' j' T A P (f_Mo_throwing X p1 p2 p3 p4).2) ∧ (f_Mo_throwing X p1 p2 p3 p4).2 0 0 = c := fun p1 p2 p3 p4 c hc => by
    rw [thr_2, hc]
    exact ⟨⟨n, j, GR_thr h⟩, mm_up_at _ _ _ _⟩
  unfold c_take f_Mo_take
  rw [isJ_eq hr]
  by_cases q1 : f_Ct_within x 0 (sc A 6 - 1) = 0
  · rw [if_pos q1, if_pos q1]; exact bad 1 0 0 0 1 (by decide)
  · rw [if_neg q1, if_neg q1]
    obtain ⟨-, lx⟩ := (j_ok hr).mp q1
    rw [← rd_j hr.2.1 lx (by decide)]
    by_cases q2 : jb A (ix x) 3 = 1
    · rw [if_pos q2, if_pos q2, if_pos (by rw [thr_1]; decide), thr_2]
      have t0 : thrw 0 0 0 0 = 0 := by decide
      rw [t0]
      exact ⟨⟨n, j, GR_take (GR_thr h) lx q2⟩, (sj_row (Or.inl (by decide))).trans ((sj_row (Or.inl (by decide))).trans (mm_up_at _ _ _ _))⟩
    · rw [if_neg q2, if_neg q2, if_neg (by rw [thr_1]; decide)]; exact bad 0 1 0 0 2 (by decide)
/-! broken -/
theorem GR_broken {c : Nat} {v : Int32} (h : GR n j T A P X) (hc : c < n) (hv2 : v = 0 ∨ v = 1) : GR n j T (ucr A c 3 v) P (f_Mo_setCrane X c 8 v).2 := by
  obtain ⟨⟨⟨hy, hv, hq⟩, hz⟩, g3, g4, g5, g6, g7, g8, ⟨m, b1, b2, b3, b4⟩, g10⟩ := h
  have hn := hy.1.1
  generalize hB : ucr A c 3 v = B
  have cB : ∀ q w, (q ≠ c ∨ w ≠ 3) → cr B q w = cr A q w := fun q w z => by rw [← hB, ucr_ne z]
  have cB3 : cr B c 3 = v := by rw [← hB, ucr_at]
  have jB : jb B = jb A := by rw [← hB]; rfl
  have sB : sc B = sc A := by rw [← hB]; rfl
  have wB : wa B = wa A := by rw [← hB]; rfl
  have vB : vA n j B = ucr (vA n j A) c 3 v := by rw [← hB, va_cr hc (by decide) (by decide)]
  clear hB
  have qB : ∀ q, qs B q = qs A q := fun q => qs_congr (cB q 10 (Or.inr (by decide))) (by rw [wB])
  refine ⟨⟨⟨⟨?_, fun q hq' => ?_, fun q hq' => ?_, fun i' hi' => ?_, fun q hq' => ?_, ?_⟩, ?_, ?_⟩, fun q z1 z2 => (oc_ne (by decide) (by decide) (Or.inr (by decide))).trans (hz q z1 z2)⟩, fun q z1 z2 => ?_, by rw [jB]; exact g4, by rw [sB]; exact g5, by rw [sB]; exact g6, by rw [sB, jB]; exact g7, fun z => absurd z (by omega), ⟨m, b1, b2, (sc_row (Or.inl (by decide))).trans b3, fun i' hi' => (b4 i' hi').trans (sc_row (Or.inl (by decide))).symm⟩, g10⟩
  · have := hy.1
    unfold yiS at this ⊢
    rw [sB]; exact this
  · obtain ⟨k1, k2, k3⟩ := hy.2.1 q hq'
    refine ⟨by unfold yiB at k1 ⊢; rw [cB q 0 (by omega), cB q 1 (by omega), cB q 2 (by omega)]; exact k1, ?_, by unfold yiH at k3 ⊢; rw [cB q 4 (by omega), cB q 5 (by omega), cB q 6 (by omega), cB q 7 (by omega), jB]; exact k3⟩
    by_cases e : q = c
    · subst e
      rw [cB3]; exact hv2
    · rw [cB q 3 (Or.inl e)]; exact k2
  · rw [cB q 0 (by omega), cB (q + 1) 0 (by omega), sB]; exact hy.2.2.1 q hq'
  · have := hy.2.2.2.1 i' hi'
    unfold yiJ yiR at this ⊢
    rw [jB]
    refine ⟨this.1, fun z => ?_⟩
    obtain ⟨c', l1, l2, l3⟩ := this.2 z
    exact ⟨c', l1, l2, by rw [cB c' 1 (by omega), cB c' 2 (by omega)]; exact l3⟩
  · have := hy.2.2.2.2.1 q hq'
    unfold yiQ at this ⊢
    rw [qB, cB q 10 (by omega), jB]; exact this
  · rw [sB, cntO_congr (A := A) (B := B) (fun i _ => by rw [jB])]; exact hy.2.2.2.2.2
  · rw [vB, vx_cr (p := 8) (k := 3) (Or.inr (Or.inr (Or.inr (Or.inr ⟨rfl, rfl⟩)))) hc hn, hv]
  · exact rlQ_same hq jB wB (fun q => cB q 10 (by omega)) (sc_row (Or.inr (by decide))) (fun i => oj_sc (by omega) (by decide))
  · rw [cB q 3 (Or.inl (by omega)), cB q 10 (by omega)]; exact g3 q z1 z2
def c_broken (A : ya) (x w : Int32) : Int32 × ya := if f_Ct_within x 0 (sc A 0 - 1) = 0 then (1, A) else if cr A (ix x) 3 = w then (2, A) else (0, ucr A (ix x) 3 w)
theorem gr_broken {x w : Int32} (h : GR n j T A P X) (hw : w = 0 ∨ w = 1) : (∃ n' j', GR n' j' T (c_broken A x w).2 P (f_Mo_broken X x w).2) ∧ (f_Mo_broken X x w).2 0 0 = (c_broken A x w).1 := by
  have hr := h.1.1
  have bad : ∀ p1 p2 p3 p4 : Int32, ∀ c : Int32, thrw p1 p2 p3 p4 = c → (∃ n' j', GR n' j' T A P (f_Mo_throwing X p1 p2 p3 p4).2) ∧ (f_Mo_throwing X p1 p2 p3 p4).2 0 0 = c := fun p1 p2 p3 p4 c hc => by
    rw [thr_2, hc]
    exact ⟨⟨n, j, GR_thr h⟩, mm_up_at _ _ _ _⟩
  have t0 : thrw 0 0 0 0 = 0 := by decide
  unfold c_broken f_Mo_broken
  rw [isC_eq hr]
  by_cases q1 : f_Ct_within x 0 (sc A 0 - 1) = 0
  · rw [if_pos q1, if_pos q1]; exact bad 1 0 0 0 1 (by decide)
  · rw [if_neg q1, if_neg q1]
    obtain ⟨-, lx⟩ := (c_ok hr).mp q1
    rw [← rd_c3 hr.2.1 lx]
    have ok : (∃ n' j', GR n' j' T (ucr A (ix x) 3 w) P (f_Mo_setCrane (mm_up X 0 0 0) (ix x) 8 w).2) ∧ (f_Mo_setCrane (mm_up X 0 0 0) (ix x) 8 w).2 0 0 = 0 := ⟨⟨n, j, GR_broken (GR_thr h) lx hw⟩, (sc_row (Or.inl (by decide))).trans (mm_up_at _ _ _ _)⟩
    rcases hw with rfl | rfl
    · rw [if_pos rfl]
      by_cases q2 : cr A (ix x) 3 = 0
      · rw [if_pos q2, if_pos q2, if_neg (by rw [thr_1]; decide)]; exact bad 0 1 0 0 2 (by decide)
      · rw [if_neg q2, if_neg q2, if_pos (by rw [thr_1]; decide), if_pos rfl, thr_2, t0]; exact ok
    · rw [if_neg (show ¬ (1 : Int32) = 0 by decide)]
      by_cases q2 : cr A (ix x) 3 = 1
      · rw [if_pos q2, if_pos q2, if_neg (by rw [thr_1]; decide)]; exact bad 0 1 0 0 2 (by decide)
      · rw [if_neg q2, if_neg q2, if_pos (by rw [thr_1]; decide), if_neg (show ¬ (1 : Int32) = 0 by decide), thr_2, t0]; exact ok
end API5
