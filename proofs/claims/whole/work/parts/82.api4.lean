/-! job, give, broken -/
section API4
variable {n j T : Nat} {A : ya} {P X : mm_M}
def c_job (A : ya) (x y r : Int32) : Int32 × ya := if f_Yd_hasTrack A = 0 then (1, A) else if f_Ct_within x 0 200 = 0 then (2, A) else if f_Ct_within y 0 200 = 0 then (2, A) else if f_Ct_within r 0 5000 = 0 then (2, A) else if 8 ≤ sc A 6 then (3, A) else (0, (f_Yd_addJob A x y r).2)
theorem sj05 {Z : mm_M} {i w : Nat} {v : Int32} : (f_Mo_setJob Z i w v).2 0 5 = Z 0 5 := sj_row (Or.inl (by decide))
theorem jo77_t {x y r g p1 p2 p3 : Int32} (h : ¬ thrw p1 p2 p3 0 = 0) : (f_jo77 X x y r g p3 p2 p1).2 = mm_up X 0 0 (thrw p1 p2 p3 0) := by
  unfold f_jo77
  rw [thr_eq, if_neg]
  simp only
  rw [if_neg h]
  decide
def nj6 (X : mm_M) (j : Nat) (x y r : Int32) : mm_M := (f_Mo_setJob (f_Mo_setJob (f_Mo_setJob (f_Mo_setJob (f_Mo_setJob (f_Mo_setJob X j 0 x).2 j 1 y).2 j 2 r).2 j 3 0).2 j 4 (-1)).2 j 5 (-1)).2
theorem jo77_o {x y r g : Int32} (hj : X 0 5 = nI j) (hj8 : j < 8) : f_jo77 X x y r g 0 0 0 = (nI j, mm_up (nj6 (mm_up X 0 0 0) j x y r) 0 5 (nI (j + 1))) := by
  have e5 : mm_up X 0 0 0 0 5 = nI j := (by simp [mm_up] : mm_up X 0 0 0 0 5 = X 0 5).trans hj
  unfold f_jo77
  rw [thr_eq]
  have t0 : thrw 0 0 0 0 = 0 := rfl
  rw [t0, if_pos rfl]
  simp only [if_pos, sj05, e5, ix_nI (show j < 2 ^ 31 by omega), mm_up_at, nI_1, if_true]
  refine Prod.ext ?_ rfl
  show nI (j + 1) - 1 = nI j
  exact nI_m1 (Nat.succ_pos j)
theorem nj_row {a q : Nat} {x y r : Int32} (h : a ≠ 3 ∨ q < 10) : nj6 X j x y r a q = X a q := by
  unfold nj6
  rw [sj_row h, sj_row h, sj_row h, sj_row h, sj_row h, sj_row h]
theorem nj_c {c w : Nat} {x y r : Int32} (hc : c < 3) (hw : w < 10) : f_Mo_ofCrane (nj6 X j x y r) c w = f_Mo_ofCrane X c w := by
  unfold nj6
  rw [oc_sj hc hw, oc_sj hc hw, oc_sj hc hw, oc_sj hc hw, oc_sj hc hw, oc_sj hc hw]
theorem nj_j {i w : Nat} {x y r : Int32} (hw : w < 7) (hi : i ≠ j ∨ w = 6) : f_Mo_ofJob (nj6 X j x y r) i w = f_Mo_ofJob X i w := by
  unfold nj6
  rw [oj_ne (by decide) hw (by omega), oj_ne (by decide) hw (by omega), oj_ne (by decide) hw (by omega), oj_ne (by decide) hw (by omega), oj_ne (by decide) hw (by omega), oj_ne (by decide) hw (by omega)]
theorem nj_n {x y r : Int32} : f_Mo_ofJob (nj6 X j x y r) j 0 = x ∧ f_Mo_ofJob (nj6 X j x y r) j 1 = y ∧ f_Mo_ofJob (nj6 X j x y r) j 2 = r ∧ f_Mo_ofJob (nj6 X j x y r) j 3 = 0 ∧ f_Mo_ofJob (nj6 X j x y r) j 4 = -1 ∧ f_Mo_ofJob (nj6 X j x y r) j 5 = -1 := by
  unfold nj6
  refine ⟨?_, ?_, ?_, ?_, ?_, ?_⟩ <;> simp [oj_sj]
theorem GR_job {x y r : Int32} (h : GR n j T A P X) (hj : j < 8) (hn0 : 0 < n) : GR n (j + 1) T (usc (usc (ujb (ujb (ujb A j 0 x) j 1 y) j 2 r) 6 (nI (j + 1))) 7 (sc A 7 + 1)) P (mm_up (nj6 X j x y r) 0 5 (nI (j + 1))) := by
  obtain ⟨⟨⟨hy, hv, hq⟩, hz⟩, g3, g4, g5, g6, g7, g8, ⟨m, b1, b2, b3, b4⟩, g10⟩ := h
  have hn := hy.1.1
  generalize hB : usc (usc (ujb (ujb (ujb A j 0 x) j 1 y) j 2 r) 6 (nI (j + 1))) 7 (sc A 7 + 1) = B
  have cB : cr B = cr A := by rw [← hB]; rfl
  have eB : se B = se A := by rw [← hB]; rfl
  have wB : wa B = wa A := by rw [← hB]; rfl
  have jne : ∀ i k, (i ≠ j ∨ 3 ≤ k) → jb B i k = jb A i k := fun i k hk => by
    rw [← hB]
    show jb (ujb (ujb (ujb A j 0 x) j 1 y) j 2 r) i k = _
    rw [ujb_ne (by omega), ujb_ne (by omega), ujb_ne (by omega)]
  have j0 : jb B j 0 = x := by rw [← hB]; show jb (ujb (ujb (ujb A j 0 x) j 1 y) j 2 r) j 0 = x; simp [ujb_jb]
  have j1 : jb B j 1 = y := by rw [← hB]; show jb (ujb (ujb (ujb A j 0 x) j 1 y) j 2 r) j 1 = y; simp [ujb_jb]
  have j2 : jb B j 2 = r := by rw [← hB]; show jb (ujb (ujb (ujb A j 0 x) j 1 y) j 2 r) j 2 = r; simp [ujb_jb]
  obtain ⟨f3, f4, f5⟩ := g4 j (Nat.le_refl _) hj
  have s6 : sc B 6 = nI (j + 1) := by rw [← hB]; simp [usc_sc]
  have s7 : sc B 7 = sc A 7 + 1 := by rw [← hB]; simp [usc_sc]
  have sne : ∀ k, k ≠ 6 → k ≠ 7 → sc B k = sc A k := fun k k6 k7 => by rw [← hB, usc_sc, if_neg k7, usc_sc, if_neg k6]; rfl
  clear hB
  have qB : ∀ q, qs B q = qs A q := fun q => qs_congr (by rw [cB]) (by rw [wB])
  generalize hY : mm_up (nj6 X j x y r) 0 5 (nI (j + 1)) = Y
  have y5 : Y 0 5 = nI (j + 1) := by rw [← hY, mm_up_at]
  have yr : ∀ a q, (a ≠ 0 ∨ q ≠ 5) → (a ≠ 3 ∨ q < 10) → Y a q = X a q := fun a q k1 k2 => by
    rw [← hY]
    refine Eq.trans ?_ (nj_row (j := j) (x := x) (y := y) (r := r) k2)
    simp only [mm_up]
    rw [if_neg (by omega)]
  have y3 : ∀ q, Y 3 q = nj6 X j x y r 3 q := fun q => by rw [← hY]; simp [mm_up]
  have yc : ∀ c w, c < 3 → w < 10 → f_Mo_ofCrane Y c w = f_Mo_ofCrane X c w := fun c w k1 k2 => (y3 _).trans (nj_c k1 k2)
  have yj : ∀ i w, w < 7 → (i ≠ j ∨ w = 6) → f_Mo_ofJob Y i w = f_Mo_ofJob X i w := fun i w k1 k2 => (y3 _).trans (nj_j k1 k2)
  obtain ⟨n0, n1, n2, n3, n4, n5⟩ := nj_n (X := X) (j := j) (x := x) (y := y) (r := r)
  have y0' : f_Mo_ofJob Y j 0 = x := (y3 _).trans n0
  have y1' : f_Mo_ofJob Y j 1 = y := (y3 _).trans n1
  have y2' : f_Mo_ofJob Y j 2 = r := (y3 _).trans n2
  have y3' : f_Mo_ofJob Y j 3 = 0 := (y3 _).trans n3
  have y4' : f_Mo_ofJob Y j 4 = -1 := (y3 _).trans n4
  have y5' : f_Mo_ofJob Y j 5 = -1 := (y3 _).trans n5
  clear n0 n1 n2 n3 n4 n5 y3 hY
  have jlt : ∀ i k, i < j → jb B i k = jb A i k := fun i k hi => jne i k (Or.inl (by omega))
  refine ⟨⟨⟨⟨⟨hn, hj, by rw [sne 0 (by decide) (by decide)]; exact hy.1.2.2.1, s6, fun z => by rw [sne 1 (by decide) (by decide), sne 2 (by decide) (by decide), sne 3 (by decide) (by decide)]; exact hy.1.2.2.2.2.1 z, by rw [sne 8 (by decide) (by decide)]; exact hy.1.2.2.2.2.2⟩, fun q hq' => ?_, fun q hq' => ?_, fun i hi => ?_, fun q hq' => ?_, ?_⟩, ?_, ?_, fun q hq' => ?_, fun i hi hi1 => ?_⟩, fun q k1 k2 => (yc q 1 k2 (by decide)).trans (hz q k1 k2)⟩, by rw [cB]; exact g3, fun i k1 k2 => by rw [jne i 3 (Or.inr (by decide)), jne i 4 (Or.inr (by decide)), jne i 5 (Or.inr (by decide))]; exact g4 i (by omega) k2, by rw [sne 8 (by decide) (by decide)]; exact g5, by rw [sne 4 (by decide) (by decide)]; exact g6, fun t0 s4 i hi => ?_, fun z => absurd z (by omega), ⟨m, b1, b2, (yr 0 12 (by decide) (Or.inl (by decide))).trans b3, fun i hi => (b4 i hi).trans (yr 6 i (Or.inl (by decide)) (Or.inl (by decide))).symm⟩, g10⟩
  · obtain ⟨k1, k2, k3⟩ := hy.2.1 q hq'
    refine ⟨by unfold yiB at k1 ⊢; rw [cB]; exact k1, by rw [cB]; exact k2, ?_⟩
    unfold yiH at k3 ⊢
    rw [cB]
    rcases k3 with k3 | ⟨l1, l2⟩
    · exact Or.inl k3
    · refine Or.inr ⟨okx_mono l1 (by omega), ?_⟩
      rw [jlt _ _ l1.2, jlt _ _ l1.2, jlt _ _ l1.2, jlt _ _ l1.2]
      exact l2
  · rw [cB, sne 1 (by decide) (by decide)]; exact hy.2.2.1 q hq'
  · by_cases e : i = j
    · subst e
      refine ⟨Or.inl ((jne i 3 (Or.inr (by decide))).trans f3), fun z => ?_⟩
      rw [jne i 3 (Or.inr (by decide)), f3] at z
      rcases z with z | z <;> exact absurd z (by decide)
    · have := hy.2.2.2.1 i (by omega)
      unfold yiJ yiR at this ⊢
      rw [jne i 3 (Or.inl e), jne i 4 (Or.inl e), jne i 0 (Or.inl e), jne i 1 (Or.inl e), cB]
      exact this
  · obtain ⟨k1, k2, k3, k4⟩ := hy.2.2.2.2.1 q hq'
    unfold yiQ
    rw [qB, cB]
    refine ⟨k1, k2, fun x hx => ?_, fun i hi z1 z2 => ?_⟩
    · obtain ⟨l1, l2, l3⟩ := k3 x hx
      rw [jlt _ _ l1.2, jlt _ _ l1.2]
      exact ⟨okx_mono l1 (by omega), l2, l3⟩
    · by_cases e : i = j
      · subst e
        rw [jne i 3 (Or.inr (by decide)), f3] at z1
        exact absurd z1 (by decide)
      · rw [jne i 3 (Or.inl e)] at z1
        rw [jne i 4 (Or.inl e)] at z2
        exact k4 i (by omega) z1 z2
  · have e3 : ¬ jb B j 3 = 3 := by rw [jne j 3 (Or.inr (by decide)), f3]; decide
    rw [s7, hy.2.2.2.2.2, cntO, if_neg e3, cntO_congr (A := A) (B := B) (fun i hi => by rw [jlt i 3 hi])]
    exact nI_1 _
  · refine yv_ext (fun q w => ?_) (fun i w => ?_) (fun w => ?_) (fun q w => ?_) (fun _ _ => rfl)
    · simp only [vA, vX]
      by_cases z : q < n ∧ w < 8 ∧ w ≠ 6
      · rw [if_pos z, if_pos z, cB]
        have hq3 : q < 3 := by omega
        have e : w = 0 ∨ w = 1 ∨ w = 2 ∨ w = 3 ∨ w = 4 ∨ w = 5 ∨ w = 7 := by omega
        rcases e with rfl | rfl | rfl | rfl | rfl | rfl | rfl <;> simp only [vXc]
        · rw [yc q 0 hq3 (by decide)]; exact rd_c0 hv z.1
        · rw [yr 1 q (Or.inl (by decide)) (Or.inl (by decide))]; exact rd_c1 hv z.1
        · rw [yr 2 q (Or.inl (by decide)) (Or.inl (by decide))]; exact rd_c2 hv z.1
        · rw [yc q 8 hq3 (by decide)]; exact rd_c3 hv z.1
        · rw [yc q 2 hq3 (by decide)]; exact rd_c4 hv z.1
        · rw [yc q 1 hq3 (by decide)]; exact rd_c5 hv z.1
        · rw [yc q 3 hq3 (by decide)]; exact rd_c7 hv z.1
      · rw [if_neg z, if_neg z]
    · simp only [vA, vX]
      by_cases z : i < j + 1 ∧ w < 6
      · rw [if_pos z, if_pos z]
        by_cases e : i = j
        · subst e
          have e6 : w = 0 ∨ w = 1 ∨ w = 2 ∨ w = 3 ∨ w = 4 ∨ w = 5 := by omega
          rcases e6 with rfl | rfl | rfl | rfl | rfl | rfl
          · rw [j0, y0']
          · rw [j1, y1']
          · rw [j2, y2']
          · rw [jne i 3 (Or.inr (by decide)), f3, y3']
          · rw [jne i 4 (Or.inr (by decide)), f4, y4']
          · rw [jne i 5 (Or.inr (by decide)), f5, y5']
        · rw [jne i w (Or.inl e), yj i w (by omega) (Or.inl e)]
          exact rd_j hv (by omega) z.2
      · rw [if_neg z, if_neg z]
    · simp only [vA, vX]
      by_cases z : w < 7
      · rw [if_pos z, if_pos z]
        have e : w = 0 ∨ w = 1 ∨ w = 2 ∨ w = 3 ∨ w = 4 ∨ w = 5 ∨ w = 6 := by omega
        rcases e with rfl | rfl | rfl | rfl | rfl | rfl | rfl <;> simp only [vXs]
        · rw [sne 0 (by decide) (by decide), yr 0 1 (by decide) (by decide)]; exact rd_s0 hv
        · rw [sne 1 (by decide) (by decide), yr 0 2 (by decide) (by decide)]; exact rd_s1 hv
        · rw [sne 2 (by decide) (by decide), yr 0 3 (by decide) (by decide)]; exact rd_s2 hv
        · rw [sne 3 (by decide) (by decide), yr 0 4 (by decide) (by decide)]; exact rd_s3 hv
        · rw [sne 4 (by decide) (by decide), yr 3 0 (by decide) (by decide)]; exact rd_s4 hv
        · rw [sne 5 (by decide) (by decide), yr 3 1 (by decide) (by decide)]; exact rd_s5 hv
        · rw [s6, y5]
      · rw [if_neg z, if_neg z]
    · simp only [vA, vX]
      by_cases z : q < n ∧ w < 4
      · rw [if_pos z, if_pos z, eB, yc q (4 + w) (by omega) (by omega)]
        exact rd_e hv z.1 z.2
      · rw [if_neg z, if_neg z]
  · rw [yr 3 2 (by decide) (by decide)]; exact hq.1
  · rw [qB]
    refine (hq.2.1 q hq').imp (fun {a b} hab => ?_)
    rw [yj _ 6 (by decide) (Or.inr rfl), yj _ 6 (by decide) (Or.inr rfl)]
    exact hab
  · by_cases e : i = j
    · subst e
      rw [jne i 3 (Or.inr (by decide)), f3] at hi1
      exact absurd hi1 (by decide)
    · rw [jne i 3 (Or.inl e)] at hi1
      rw [yj i 6 (by decide) (Or.inr rfl)]
      exact hq.2.2 i (by omega) hi1
  · by_cases e : i = j
    · subst e
      exact (jne i 3 (Or.inr (by decide))).trans f3
    · rw [jne i 3 (Or.inl e)]
      rw [sne 4 (by decide) (by decide)] at s4
      exact g7 t0 s4 i (by omega)
theorem gr_job {x y r : Int32} (h : GR n j T A P X) : (∃ n' j', GR n' j' T (c_job A x y r).2 P (f_Mo_job X x y r).2) ∧ (f_Mo_job X x y r).2 0 0 = (c_job A x y r).1 ∧ ((c_job A x y r).1 = 0 → (f_Mo_job X x y r).1 = sc A 6) := by
  have hr := h.1.1
  have h5 : X 0 5 = nI j := (rd_s6 hr.2.1).symm.trans hr.1.1.2.2.2.1
  have hj8 := hr.1.1.2.1
  have key : ∀ g, f_jo40 X x y r g = f_jo77 X x y r g (if X 0 5 = 8 then 1 else 0) (if g = 0 then 1 else 0) (if X 0 1 = 0 then 1 else 0) := fun g => by
    unfold f_jo40 f_jo53 f_jo63
    split <;> split <;> split <;> rfl
  have bad : ∀ g p1 p2 p3 : Int32, ∀ c : Int32, thrw p1 p2 p3 0 = c → ¬ c = 0 → (∃ n' j', GR n' j' T A P (f_jo77 X x y r g p3 p2 p1).2) ∧ (f_jo77 X x y r g p3 p2 p1).2 0 0 = c ∧ (c = 0 → (f_jo77 X x y r g p3 p2 p1).1 = sc A 6) := fun g p1 p2 p3 c hc h0 => by
    rw [jo77_t (by rw [hc]; exact h0), hc]
    exact ⟨⟨n, j, GR_thr h⟩, mm_up_at _ _ _ _, fun z => absurd z h0⟩
  have key2 : f_Mo_job X x y r = f_jo40 X x y r (if f_Mo_in x 0 200 = 0 then 0 else if f_Mo_in y 0 200 = 0 then 0 else if f_Mo_in r 0 5000 = 0 then 0 else 1) := by
    unfold f_Mo_job
    split
    · rfl
    · split
      · rfl
      · split <;> rfl
  rw [key2, key]
  unfold c_job
  rw [in_eq, in_eq, in_eq]
  by_cases h0 : f_Yd_hasTrack A = 0
  · rw [if_pos h0, if_pos ((n_pos2 hr).mpr ((hasT hr).mp h0))]
    exact bad _ _ _ _ 1 (by unfold thrw; rw [if_neg (by decide)]) (by decide)
  · have n0 : ¬ n = 0 := fun z => h0 ((hasT hr).mpr z)
    rw [if_neg h0, if_neg (fun z => n0 ((n_pos2 hr).mp z))]
    have b2 := fun p3 => bad 0 0 1 p3 2 (by unfold thrw; rw [if_pos rfl, if_neg (by decide)]) (by decide)
    by_cases q1 : f_Mo_in x 0 200 = 0
    · rw [if_pos q1, if_pos q1, if_pos rfl]; exact b2 _
    · rw [if_neg q1, if_neg q1]
      by_cases q2 : f_Mo_in y 0 200 = 0
      · rw [if_pos q2, if_pos q2, if_pos rfl]; exact b2 _
      · rw [if_neg q2, if_neg q2]
        by_cases q3 : f_Mo_in r 0 5000 = 0
        · rw [if_pos q3, if_pos q3, if_pos rfl]; exact b2 _
        · rw [if_neg q3, if_neg q3, if_neg (show ¬ (1 : Int32) = 0 by decide)]
          have e8 : (8 : Int32) ≤ sc A 6 ↔ ¬ j < 8 := by
            rw [hr.1.1.2.2.2.1, xa_le, nI_toInt (by omega)]
            have : (8 : Int32).toInt = 8 := by decide
            omega
          have e8' : X 0 5 = 8 ↔ ¬ j < 8 := by
            rw [h5, xa_eq, nI_toInt (by omega)]
            have : (8 : Int32).toInt = 8 := by decide
            omega
          by_cases q4 : 8 ≤ sc A 6
          · rw [if_pos q4, if_pos (e8'.mpr (e8.mp q4))]
            exact bad _ _ _ _ 3 (by decide) (by decide)
          · have lt : j < 8 := Classical.byContradiction fun z => q4 (e8.mpr z)
            rw [if_neg q4, if_neg (fun z => e8'.mp z lt), jo77_o h5 lt]
            have ea : (f_Yd_addJob A x y r).2 = usc (usc (ujb (ujb (ujb A j 0 x) j 1 y) j 2 r) 6 (nI (j + 1))) 7 (sc A 7 + 1) := by
              unfold f_Yd_addJob
              rw [hr.1.1.2.2.2.1, ix_nI (by omega)]
              show usc (usc (ujb (ujb (ujb A j 0 x) j 1 y) j 2 r) 6 (sc A 6 + 1)) 7 (sc A 7 + 1) = _
              rw [hr.1.1.2.2.2.1, nI_1]
            refine ⟨⟨n, j + 1, ?_⟩, ?_, fun _ => hr.1.1.2.2.2.1.symm⟩
            · show GR n (j + 1) T (f_Yd_addJob A x y r).2 P _
              rw [ea]
              exact GR_job (GR_thr h) lt (by omega)
            · show mm_up (nj6 (mm_up X 0 0 0) j x y r) 0 5 (nI (j + 1)) 0 0 = 0
              rw [show mm_up (nj6 (mm_up X 0 0 0) j x y r) 0 5 (nI (j + 1)) 0 0 = nj6 (mm_up X 0 0 0) j x y r 0 0 by simp [mm_up], nj_row (Or.inl (by decide)), mm_up_at]
end API4
