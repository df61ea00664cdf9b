/-! crane -/
section API3
variable {n j T : Nat} {A : ya} {P X : mm_M}
theorem vx_row {c k : Nat} {v : Int32} (hk : k = 1 ∨ k = 2) (hc : c < n) (hn : n ≤ 3) : vX n j (mm_up X k c v) = ucr (vX n j X) c k v := by
  have e3 : ∀ q, mm_up X k c v 3 q = X 3 q := fun q => by simp only [mm_up]; rw [if_neg (by omega)]
  have e0 : ∀ q, mm_up X k c v 0 q = X 0 q := fun q => by simp only [mm_up]; rw [if_neg (by omega)]
  refine yv_ext (fun c' k' => ?_) (fun i' w => ?_) (fun q => ?_) (fun c' k' => ?_) (fun _ _ => rfl)
  · show (if c' < n ∧ k' < 8 ∧ k' ≠ 6 then vXc (mm_up X k c v) c' k' else 0) = mm_up (fun c k => if c < n ∧ k < 8 ∧ k ≠ 6 then vXc X c k else 0) c k v c' k'
    simp only [mm_up]
    by_cases z : c' = c ∧ k' = k
    · rw [if_pos z, if_pos (by omega)]
      obtain ⟨rfl, rfl⟩ := z
      rcases hk with rfl | rfl <;> simp [vXc, mm_up]
    · rw [if_neg z]
      by_cases y : c' < n ∧ k' < 8 ∧ k' ≠ 6
      · rw [if_pos y, if_pos y]
        have e : k' = 0 ∨ k' = 1 ∨ k' = 2 ∨ k' = 3 ∨ k' = 4 ∨ k' = 5 ∨ k' = 7 := by omega
        rcases e with rfl | rfl | rfl | rfl | rfl | rfl | rfl <;> simp only [vXc]
        · exact e3 _
        · simp only [mm_up]; rw [if_neg (by omega)]
        · simp only [mm_up]; rw [if_neg (by omega)]
        · exact e3 _
        · exact e3 _
        · exact e3 _
        · exact e3 _
      · rw [if_neg y, if_neg y]
  · show (if i' < j ∧ w < 6 then f_Mo_ofJob (mm_up X k c v) i' w else 0) = if i' < j ∧ w < 6 then f_Mo_ofJob X i' w else 0
    by_cases y : i' < j ∧ w < 6
    · rw [if_pos y, if_pos y]; exact e3 _
    · rw [if_neg y, if_neg y]
  · show (if q < 7 then vXs (mm_up X k c v) q else 0) = if q < 7 then vXs X q else 0
    by_cases y : q < 7
    · rw [if_pos y, if_pos y]
      unfold vXs
      split <;> first | exact e0 _ | exact e3 _
    · rw [if_neg y, if_neg y]
  · show (if c' < n ∧ k' < 4 then f_Mo_ofCrane (mm_up X k c v) c' (4 + k') else 0) = if c' < n ∧ k' < 4 then f_Mo_ofCrane X c' (4 + k') else 0
    by_cases y : c' < n ∧ k' < 4
    · rw [if_pos y, if_pos y]; exact e3 _
    · rw [if_neg y, if_neg y]
theorem GR_stand {c : Nat} {y a e : Int32} (h : GR n j T A P X) (hfree : ∀ i, i < j → jb A i 3 = 0) (hc : c < n) (h1 : 0 ≤ a.toInt) (h2 : a.toInt ≤ y.toInt) (h3 : y.toInt ≤ e.toInt) (h4 : e.toInt ≤ 200) (hlo : 0 < c → (cr A (c - 1) 0).toInt + (sc A 1).toInt ≤ y.toInt) (hhi : c + 1 < n → y.toInt + (sc A 1).toInt ≤ (cr A (c + 1) 0).toInt) : GR n j T (f_Cr_stand A c y a e).2 P (mm_up (mm_up (f_Mo_setCrane X c 0 y).2 1 c a) 2 c e) := by
  obtain ⟨⟨⟨hy, hv, hq⟩, hz⟩, g3, g4, g5, g6, g7, g8, ⟨m, b1, b2, b3, b4⟩, g10⟩ := h
  have hn := hy.1.1
  have eB : (f_Cr_stand A c y a e).2 = ucr (ucr (ucr A c 0 y) c 1 a) c 2 e := rfl
  rw [eB]
  generalize hB : ucr (ucr (ucr A c 0 y) c 1 a) c 2 e = B
  have cne : ∀ c' k, (c' ≠ c ∨ 3 ≤ k) → cr B c' k = cr A c' k := fun c' k hk => by
    rw [← hB, ucr_ne (by omega), ucr_ne (by omega), ucr_ne (by omega)]
  have c0 : cr B c 0 = y := by rw [← hB]; simp [ucr_cr]
  have c1 : cr B c 1 = a := by rw [← hB]; simp [ucr_cr]
  have c2 : cr B c 2 = e := by rw [← hB]; simp [ucr_cr]
  have jB : jb B = jb A := by rw [← hB]; rfl
  have sB : sc B = sc A := by rw [← hB]; rfl
  have wB : wa B = wa A := by rw [← hB]; rfl
  have vB : vA n j B = ucr (ucr (ucr (vA n j A) c 0 y) c 1 a) c 2 e := by
    rw [← hB, va_cr hc (by decide) (by decide), va_cr hc (by decide) (by decide), va_cr hc (by decide) (by decide)]
  have qB : ∀ q, qs B q = qs A q := fun q => qs_congr (cne q 10 (Or.inr (by decide))) (by rw [wB])
  have y3 : ∀ a' q, a' ≠ 1 → a' ≠ 2 → mm_up (mm_up (f_Mo_setCrane X c 0 y).2 1 c a) 2 c e a' q = (f_Mo_setCrane X c 0 y).2 a' q := fun a' q k1 k2 => by
    simp only [mm_up]
    rw [if_neg (by omega), if_neg (by omega)]
  refine ⟨⟨⟨⟨?_, fun q hq' => ?_, fun q hq' => ?_, fun i hi => ?_, fun q hq' => ?_, ?_⟩, ?_, ?_⟩, fun q k1 k2 => ?_⟩, fun q k1 k2 => ?_, fun i k1 k2 => by rw [jB]; exact g4 i k1 k2, by rw [sB]; exact g5, by rw [sB]; exact g6, fun _ _ i hi => by rw [jB]; exact hfree i hi, fun z => absurd z (by omega), ⟨m, b1, b2, (y3 0 12 (by decide) (by decide)).trans ((sc_row (Or.inl (by decide))).trans b3), fun i hi => (b4 i hi).trans ((y3 6 i (by decide) (by decide)).trans (sc_row (Or.inl (by decide)))).symm⟩, g10⟩
  · have := hy.1
    unfold yiS at this ⊢
    rw [sB]; exact this
  · by_cases z : q = c
    · subst z
      obtain ⟨k1, k2, k3⟩ := hy.2.1 q hq'
      refine ⟨⟨by rw [c1]; exact h1, by rw [c1, c0]; exact h2, by rw [c0, c2]; exact h3, by rw [c2]; exact h4⟩, by rw [cne q 3 (Or.inr (by decide))]; exact k2, ?_⟩
      rcases k3 with k3 | ⟨k3, k4, -⟩
      · exact Or.inl (by rw [cne q 5 (Or.inr (by decide)), cne q 4 (Or.inr (by decide))]; exact k3)
      · rw [hfree _ k3.2] at k4
        exact absurd k4 (by decide)
    · have g : ∀ k, cr B q k = cr A q k := fun k => cne q k (Or.inl z)
      have := hy.2.1 q hq'
      unfold yiC yiB yiH at this ⊢
      rw [g 0, g 1, g 2, g 3, g 4, g 5, g 6, g 7, jB]
      exact this
  · rw [sB]
    by_cases z : q = c
    · subst z
      rw [c0, cne (q + 1) 0 (Or.inl (by omega))]
      exact hhi hq'
    · by_cases z2 : q + 1 = c
      · subst z2
        rw [c0, cne q 0 (Or.inl (by omega))]
        have := hlo (by omega)
        rw [Nat.add_sub_cancel] at this
        exact this
      · rw [cne q 0 (Or.inl z), cne (q + 1) 0 (Or.inl z2)]
        exact hy.2.2.1 q hq'
  · obtain ⟨k1, k2⟩ := hy.2.2.2.1 i hi
    unfold yiJ
    rw [jB]
    refine ⟨k1, fun z => ?_⟩
    rw [hfree i hi] at z
    rcases z with z | z <;> exact absurd z (by decide)
  · have := hy.2.2.2.2.1 q hq'
    unfold yiQ at this ⊢
    rw [qB, cne q 10 (Or.inr (by decide)), jB]
    exact this
  · rw [sB, cntO_congr (A := A) (B := B) (fun i _ => by rw [jB])]
    exact hy.2.2.2.2.2
  · rw [vB, vx_row (Or.inr rfl) hc hn, vx_row (Or.inl rfl) hc hn, vx_cr (k := 0) (Or.inl ⟨rfl, rfl⟩) hc hn, hv]
  · exact rlQ_same hq jB wB (fun q => cne q 10 (Or.inr (by decide))) ((y3 3 2 (by decide) (by decide)).trans (sc_row (Or.inr (by decide)))) (fun i => (y3 3 _ (by decide) (by decide)).trans (oj_sc (by omega) (by decide)))
  · refine (y3 3 _ (by decide) (by decide)).trans ((oc_ne (by decide) (by decide) (Or.inl (by omega))).trans (hz q k1 k2))
  · rw [cne q 3 (Or.inr (by decide)), cne q 10 (Or.inr (by decide))]; exact g3 q k1 k2
def c_crane (A : ya) (x y a e : Int32) : Int32 × ya := if f_Ct_within x 0 (sc A 0 - 1) = 0 then (1, A) else if 0 < sc A 4 then (2, A) else if sc A 8 = 0 then (if a < 0 then (3, A) else if y < a then (3, A) else if e < y then (3, A) else if 200 < e then (3, A) else if f_Yd_hasRoom A (ix x) y = 0 then (4, A) else (0, (f_Cr_stand A (ix x) y a e).2)) else (2, A)
theorem cn141_t {x y a e bd rg nr p2 : Int32} (h : ¬ thrw bd p2 rg nr = 0) : (f_cn141 X x y a e bd rg nr p2).2 = mm_up X 0 0 (thrw bd p2 rg nr) := by
  unfold f_cn141
  rw [thr_eq, if_neg]
  simp only
  rw [if_neg h]
  decide
theorem cn141_o {x y a e : Int32} : (f_cn141 X x y a e 0 0 0 0).2 = mm_up (mm_up (f_Mo_setCrane (mm_up X 0 0 0) (ix x) 0 y).2 1 (ix x) a) 2 (ix x) e := by
  unfold f_cn141
  rw [thr_eq]
  rfl
theorem cn115_e {x y a e bd rg nr : Int32} : f_cn115 X x y a e bd rg nr = f_cn141 X x y a e bd rg nr (if 0 < X 3 0 then 1 else if X 3 2 ≤ 0 then 0 else 1) := by
  unfold f_cn115
  by_cases h1 : 0 < X 3 0
  · rw [if_pos h1, if_pos h1]
  · rw [if_neg h1, if_neg h1]
    by_cases h2 : X 3 2 ≤ 0
    · rw [if_pos h2, if_pos h2]
    · rw [if_neg h2, if_neg h2]
theorem room_iff (h : yi n j A) {c : Nat} {y : Int32} (hc : c < n) (hy : 0 ≤ y.toInt ∧ y.toInt ≤ 200) : f_Yd_hasRoom A c y = 0 ↔ ¬ ((0 < c → (cr A (c - 1) 0).toInt + (sc A 1).toInt ≤ y.toInt) ∧ (c + 1 < n → y.toInt + (sc A 1).toInt ≤ (cr A (c + 1) 0).toInt)) := by
  have hn := h.1.1
  have hg := (h.1.2.2.2.2.1 (by omega)).1
  have hb : ∀ q, q < n → 0 ≤ (cr A q 0).toInt ∧ (cr A q 0).toInt ≤ 200 := fun q hq => by
    have := (h.2.1 q hq).1
    unfold yiB at this
    omega
  have ef : (f_Yd_floorOf A c).toInt = if 0 < c then (cr A (c - 1) 0).toInt + (sc A 1).toInt else 0 := by
    unfold f_Yd_floorOf
    by_cases z : 0 < c
    · rw [if_neg (fun q => (first_iff (by omega)).mp q z), if_pos z]
      have := hb (c - 1) (by omega)
      exact xa_add (by omega) (by omega)
    · rw [if_pos ((first_iff (by omega)).mpr z), if_neg z]
      decide
  have ec : (f_Yd_ceilingOf A c).toInt = if c + 1 < n then (cr A (c + 1) 0).toInt - (sc A 1).toInt else 200 := by
    unfold f_Yd_ceilingOf
    by_cases z : c + 1 < n
    · rw [if_neg (fun q => (last_iff h hc).mp q z), if_pos z]
      have := hb (c + 1) z
      exact xa_sub (by omega) (by omega)
    · rw [if_pos ((last_iff h hc).mpr z), if_neg z]
      decide
  unfold f_Yd_hasRoom
  rw [in_eq, in_0, ef, ec]
  by_cases z1 : 0 < c
  · rw [if_pos z1]
    by_cases z2 : c + 1 < n
    · rw [if_pos z2]; omega
    · rw [if_neg z2]; omega
  · rw [if_neg z1]
    by_cases z2 : c + 1 < n
    · rw [if_pos z2]; omega
    · rw [if_neg z2]; omega
theorem cn55_e {x y a e rg : Int32} {c : Nat} (h : RL n j T A X) (hx : x = nI c) (hc : c < n) (hy : 0 ≤ y.toInt ∧ y.toInt ≤ 200) : f_cn55 X x y a e 0 rg = f_cn115 X x y a e 0 rg (if f_Yd_hasRoom A c y = 0 then 1 else 0) := by
  have hn := h.1.1.1
  have hg := (h.1.1.2.2.2.2.1 (by omega)).1
  have hb : ∀ q, q < n → 0 ≤ (cr A q 0).toInt ∧ (cr A q 0).toInt ≤ 200 := fun q hq => by
    have := (h.1.2.1 q hq).1
    unfold yiB at this
    omega
  have hr := room_iff h.1 hc hy
  subst hx
  unfold f_cn55
  rw [if_pos rfl, ix_nI (by omega), ← rd_s0 h.2.1, ← rd_s1 h.2.1]
  by_cases z1 : 0 < c
  · rw [if_neg (fun q => (first_iff (by omega)).mp q z1), ← rd_c0 h.2.1 (show c - 1 < n by omega)]
    have b1 := hb (c - 1) (by omega)
    have e1 : y - cr A (c - 1) 0 < sc A 1 ↔ ¬ (cr A (c - 1) 0).toInt + (sc A 1).toInt ≤ y.toInt := by
      rw [xa_lt, xa_sub (by omega) (by omega)]
      omega
    by_cases y1 : y - cr A (c - 1) 0 < sc A 1
    · rw [if_pos y1, if_pos (hr.mpr (fun q => e1.mp y1 (q.1 z1)))]
    · rw [if_neg y1]
      have l1 : (cr A (c - 1) 0).toInt + (sc A 1).toInt ≤ y.toInt := Classical.byContradiction fun q => y1 (e1.mpr q)
      by_cases z2 : c + 1 < n
      · rw [if_neg (fun q => (last_iff h.1 hc).mp q z2), ← rd_c0 h.2.1 z2]
        have b2 := hb (c + 1) z2
        have e2 : sc A 1 ≤ cr A (c + 1) 0 - y ↔ y.toInt + (sc A 1).toInt ≤ (cr A (c + 1) 0).toInt := by
          rw [xa_le, xa_sub (by omega) (by omega)]
          omega
        by_cases y2 : sc A 1 ≤ cr A (c + 1) 0 - y
        · rw [if_pos y2, if_neg (fun q => hr.mp q ⟨fun _ => l1, fun _ => e2.mp y2⟩)]
        · rw [if_neg y2, if_pos (hr.mpr (fun q => y2 (e2.mpr (q.2 z2))))]
      · rw [if_pos ((last_iff h.1 hc).mpr z2), if_neg (fun q => hr.mp q ⟨fun _ => l1, fun q => absurd q z2⟩)]
  · rw [if_pos ((first_iff (by omega)).mpr z1)]
    by_cases z2 : c + 1 < n
    · rw [if_neg (fun q => (last_iff h.1 hc).mp q z2), ← rd_c0 h.2.1 z2]
      have b2 := hb (c + 1) z2
      have e2 : sc A 1 ≤ cr A (c + 1) 0 - y ↔ y.toInt + (sc A 1).toInt ≤ (cr A (c + 1) 0).toInt := by
        rw [xa_le, xa_sub (by omega) (by omega)]
        omega
      by_cases y2 : sc A 1 ≤ cr A (c + 1) 0 - y
      · rw [if_pos y2, if_neg (fun q => hr.mp q ⟨fun q => absurd q z1, fun _ => e2.mp y2⟩)]
      · rw [if_neg y2, if_pos (hr.mpr (fun q => y2 (e2.mpr (q.2 z2))))]
    · rw [if_pos ((last_iff h.1 hc).mpr z2), if_neg (fun q => hr.mp q ⟨fun q => absurd q z1, fun q => absurd q z2⟩)]
theorem cn55_x {x y a e bd rg : Int32} : ∃ nr, f_cn55 X x y a e bd rg = f_cn115 X x y a e bd rg nr := by
  unfold f_cn55
  split
  · split
    · split
      · exact ⟨_, rfl⟩
      · split <;> exact ⟨_, rfl⟩
    · split
      · exact ⟨_, rfl⟩
      · split
        · exact ⟨_, rfl⟩
        · split <;> exact ⟨_, rfl⟩
  · exact ⟨_, rfl⟩
theorem cn15_e {x y a e bd : Int32} : f_cn15 X x y a e bd = f_cn55 X x y a e bd (if f_Mo_in a 0 200 = 0 then 1 else if f_Mo_in e 0 200 = 0 then 1 else if f_Mo_in y a e = 0 then 1 else 0) := by
  unfold f_cn15
  split
  · rfl
  · split
    · rfl
    · split <;> rfl
theorem gr_crane {x y a e : Int32} (h : GR n j T A P X) (hT : T < 2 ^ 31) : (∃ n' j', GR n' j' T (c_crane A x y a e).2 P (f_Mo_crane X x y a e).2) ∧ (f_Mo_crane X x y a e).2 0 0 = (c_crane A x y a e).1 := by
  have hr := h.1.1
  unfold c_crane f_Mo_crane
  rw [isC_eq hr]
  by_cases h0 : f_Ct_within x 0 (sc A 0 - 1) = 0
  · rw [if_pos h0, if_pos h0, cn15_e]
    obtain ⟨nr, e1⟩ := cn55_x (X := X) (x := x) (y := y) (a := a) (e := e) (bd := 1) (rg := if f_Mo_in a 0 200 = 0 then 1 else if f_Mo_in e 0 200 = 0 then 1 else if f_Mo_in y a e = 0 then 1 else 0)
    have t1 : ∀ p q r, thrw 1 p q r = 1 := fun p q r => by unfold thrw; rw [if_neg (by decide)]
    rw [e1, cn115_e, cn141_t (by rw [t1]; decide), t1]
    exact ⟨⟨n, j, GR_thr h⟩, mm_up_at _ _ _ _⟩
  · rw [if_neg h0, if_neg h0, cn15_e]
    obtain ⟨ex, lx⟩ := (c_ok hr).mp h0
    have hT2 : X 3 2 ≤ 0 ↔ sc A 8 = 0 := by
      rw [hr.2.2.1, xa_le, nI_toInt hT, h.2.2.2.1]
      have e0 : (0 : Int32).toInt = 0 := by decide
      omega
    have code2 : ∀ rg nr : Int32, (∃ n' j', GR n' j' T A P (f_cn141 X x y a e 0 rg nr 1).2) ∧ (f_cn141 X x y a e 0 rg nr 1).2 0 0 = 2 := fun rg nr => by
      have t1 : thrw 0 1 rg nr = 2 := by unfold thrw; rw [if_pos rfl, if_neg (by decide)]
      rw [cn141_t (by rw [t1]; decide), t1]
      exact ⟨⟨n, j, GR_thr h⟩, mm_up_at _ _ _ _⟩
    obtain ⟨nr, e1⟩ := cn55_x (X := X) (x := x) (y := y) (a := a) (e := e) (bd := 0) (rg := if f_Mo_in a 0 200 = 0 then 1 else if f_Mo_in e 0 200 = 0 then 1 else if f_Mo_in y a e = 0 then 1 else 0)
    rw [rd_s4 hr.2.1]
    by_cases h1 : 0 < X 3 0
    · rw [if_pos h1, e1, cn115_e, if_pos h1]
      exact code2 _ _
    · rw [if_neg h1]
      by_cases h2 : sc A 8 = 0
      · rw [if_pos h2]
        have p0 : (if 0 < X 3 0 then (1 : Int32) else if X 3 2 ≤ 0 then 0 else 1) = 0 := by rw [if_neg h1, if_pos (hT2.mpr h2)]
        have bad : (f_Mo_in a 0 200 = 0 ∨ f_Mo_in e 0 200 = 0 ∨ f_Mo_in y a e = 0) → (∃ n' j', GR n' j' T A P (f_cn55 X x y a e 0 (if f_Mo_in a 0 200 = 0 then 1 else if f_Mo_in e 0 200 = 0 then 1 else if f_Mo_in y a e = 0 then 1 else 0)).2) ∧ (f_cn55 X x y a e 0 (if f_Mo_in a 0 200 = 0 then 1 else if f_Mo_in e 0 200 = 0 then 1 else if f_Mo_in y a e = 0 then 1 else 0)).2 0 0 = 3 := fun hb => by
          have er : (if f_Mo_in a 0 200 = 0 then (1 : Int32) else if f_Mo_in e 0 200 = 0 then 1 else if f_Mo_in y a e = 0 then 1 else 0) = 1 := by
            by_cases q1 : f_Mo_in a 0 200 = 0
            · rw [if_pos q1]
            · rw [if_neg q1]
              by_cases q2 : f_Mo_in e 0 200 = 0
              · rw [if_pos q2]
              · rw [if_neg q2, if_pos (by rcases hb with q | q | q; exact absurd q q1; exact absurd q q2; exact q)]
          have t1 : thrw 0 0 1 nr = 3 := by unfold thrw; rw [if_pos rfl, if_pos rfl, if_neg (by decide)]
          rw [e1, cn115_e, p0, er, cn141_t (by rw [t1]; decide), t1]
          exact ⟨⟨n, j, GR_thr h⟩, mm_up_at _ _ _ _⟩
        have z0 : (0 : Int32).toInt = 0 := by decide
        have z200 : (200 : Int32).toInt = 200 := by decide
        by_cases q1 : a < 0
        · rw [if_pos q1]
          rw [xa_lt] at q1
          exact bad (Or.inl (in_0.mpr (by rw [z0, z200]; omega)))
        · rw [if_neg q1]
          by_cases q2 : y < a
          · rw [if_pos q2]
            rw [xa_lt] at q2
            exact bad (Or.inr (Or.inr (in_0.mpr (by omega))))
          · rw [if_neg q2]
            by_cases q3 : e < y
            · rw [if_pos q3]
              rw [xa_lt] at q3
              exact bad (Or.inr (Or.inr (in_0.mpr (by omega))))
            · rw [if_neg q3]
              by_cases q4 : 200 < e
              · rw [if_pos q4]
                rw [xa_lt] at q4
                exact bad (Or.inr (Or.inl (in_0.mpr (by rw [z0, z200]; omega))))
              · rw [if_neg q4]
                clear bad
                rw [xa_lt] at q1 q2 q3 q4
                have er : (if f_Mo_in a 0 200 = 0 then (1 : Int32) else if f_Mo_in e 0 200 = 0 then 1 else if f_Mo_in y a e = 0 then 1 else 0) = 0 := by
                  rw [if_neg (by rw [in_0, z0, z200]; omega), if_neg (by rw [in_0, z0, z200]; omega), if_neg (by rw [in_0]; omega)]
                rw [er, cn55_e hr ex lx (by omega), cn115_e, p0]
                have hri := room_iff hr.1 lx (y := y) (by omega)
                by_cases q5 : f_Yd_hasRoom A (ix x) y = 0
                · rw [if_pos q5, if_pos q5]
                  have t1 : thrw 0 0 0 1 = 4 := by decide
                  rw [cn141_t (by rw [t1]; decide), t1]
                  exact ⟨⟨n, j, GR_thr h⟩, mm_up_at _ _ _ _⟩
                · rw [if_neg q5, if_neg q5, cn141_o]
                  have rm := Classical.not_not.mp (fun q => q5 (hri.mpr q))
                  have T0 : T = 0 := (h.2.2.2.1).mp h2
                  have ck : sc A 4 = 0 := by
                    rw [← rd_s4 hr.2.1, xa_lt] at h1
                    rw [xa_eq]
                    have := h.2.2.2.2.1
                    omega
                  refine ⟨⟨n, j, GR_stand (GR_thr h) (h.2.2.2.2.2.1 T0 ck) lx (by omega) (by omega) (by omega) (by omega) rm.1 rm.2⟩, ?_⟩
                  simp only [mm_up]
                  rw [if_neg (by omega), if_neg (by omega), sc_row (Or.inl (by decide))]
                  exact if_pos ⟨rfl, rfl⟩
      · rw [if_neg h2, e1, cn115_e, if_neg h1, if_neg (fun q => h2 (hT2.mp q))]
        exact code2 _ _
end API3
