section API2
variable {n j T : Nat} {A : ya} {P X : mm_M}
theorem lv_0 {b : Int32} {c : Nat} (hb : 1 ≤ b.toInt ∧ b.toInt ≤ 30) (hc : c < 3) : (lv b c 0).toInt = c * b.toInt := by
  obtain ⟨e1, e2⟩ := ix_int (x := b) (by omega)
  have e3 : ix b ≤ 30 := by omega
  show (nI c * b).toInt = _
  have hle : c * ix b ≤ 2 * 30 := Nat.mul_le_mul (by omega) e3
  rw [e1, pk_mul, nI_toInt (by omega), nI_toInt (by omega)]
  exact Int.natCast_mul _ _
theorem GR_lay {a b c d : Int32} (h : GR 0 j T A P X) (ha : 1 ≤ a.toInt ∧ a.toInt ≤ 3) (hb : 1 ≤ b.toInt ∧ b.toInt ≤ 30) (hc : 1 ≤ c.toInt ∧ c.toInt ≤ 20) (hd : 1 ≤ d.toInt ∧ d.toInt ≤ 30) : GR (ix a) 0 T (f_Yd_lay A a b c d).2 P (f_tr 4 (mm_up (mm_up (mm_up (mm_up (mm_up X 0 0 0) 0 1 a) 0 2 b) 0 3 c) 0 4 d) a b c d 1 0).2 := by
  obtain ⟨⟨⟨hy, hv, hq⟩, hz⟩, h3, h4, h5, h6, h7, h8, ⟨m, b1, b2, b3, b4⟩, h10⟩ := h
  obtain ⟨j0, hi⟩ := h8 rfl
  subst j0
  obtain ⟨ea, ea2⟩ := ix_int (x := a) (by omega)
  generalize ix a = k at ea ea2
  subst ea
  have k3 : 1 ≤ k ∧ k ≤ 3 := by omega
  unfold f_Yd_lay
  generalize hA1 : usc (usc (usc (usc A 0 (nI k)) 1 b) 2 c) 3 d = A1
  have s0 : sc A1 0 = nI k := by rw [← hA1]; simp [usc_sc]
  have s1 : sc A1 1 = b := by rw [← hA1]; simp [usc_sc]
  have s2 : sc A1 2 = c := by rw [← hA1]; simp [usc_sc]
  have s3 : sc A1 3 = d := by rw [← hA1]; simp [usc_sc]
  have sr : ∀ q, 4 ≤ q → sc A1 q = sc A q := fun q hq => by
    rw [← hA1, usc_sc, if_neg (by omega), usc_sc, if_neg (by omega), usc_sc, if_neg (by omega), usc_sc, if_neg (by omega)]
  have crA : cr A1 = cr A := by rw [← hA1]; rfl
  have jbA : jb A1 = jb A := by rw [← hA1]; rfl
  have seA : se A1 = se A := by rw [← hA1]; rfl
  have waA : wa A1 = wa A := by rw [← hA1]; rfl
  obtain ⟨l1, l2, l3, l4, l5⟩ := lay_spec (p1 := nI k) (p2 := b) (p3 := c) (p4 := d) k3.2 4 0 A1 s0 (Nat.zero_le _) (by omega)
  rw [crA, s1] at l5
  rw [jbA] at l2
  rw [seA] at l3
  rw [waA] at l4
  clear hA1 crA jbA seA waA
  generalize (f_lay 4 A1 (nI k) b c d 0).2 = B at l1 l2 l3 l4 l5
  generalize hX1 : mm_up (mm_up (mm_up (mm_up (mm_up X 0 0 0) 0 1 (nI k)) 0 2 b) 0 3 c) 0 4 d = X1
  obtain ⟨t1, t2, t3⟩ := tr_spec (b := b) (c' := c) (d := d) (g := 1) k3.2 4 0 X1 (Nat.zero_le _) (by omega)
  have xr : ∀ a q, (a ≠ 0 ∨ 5 ≤ q) → X1 a q = X a q := fun a q ha => by
    rw [← hX1]
    simp only [mm_up]
    rw [if_neg (by omega), if_neg (by omega), if_neg (by omega), if_neg (by omega), if_neg (by omega)]
  have x1 : X1 0 1 = nI k := by rw [← hX1]; simp [mm_up]
  have x2 : X1 0 2 = b := by rw [← hX1]; simp [mm_up]
  have x3 : X1 0 3 = c := by rw [← hX1]; simp [mm_up]
  have x4 : X1 0 4 = d := by rw [← hX1]; simp [mm_up]
  clear hX1
  generalize (f_tr 4 X1 (nI k) b c d 1 0).2 = Y at t1 t2 t3
  have oc : ∀ q w, q < 3 → w < 10 → f_Mo_ofCrane X1 q w = f_Mo_ofCrane X q w := fun q w _ _ => xr 3 _ (Or.inl (by decide))
  have c0 : ∀ q, q < k → cr B q 0 = nI q * b := fun q hq => by rw [l5, if_pos ⟨Nat.zero_le _, hq, by decide⟩]; rfl
  have c1 : ∀ q, q < k → cr B q 1 = 0 := fun q hq => by rw [l5, if_pos ⟨Nat.zero_le _, hq, by decide⟩]; rfl
  have c2 : ∀ q, q < k → cr B q 2 = 200 := fun q hq => by rw [l5, if_pos ⟨Nat.zero_le _, hq, by decide⟩]; rfl
  have cg : ∀ q w, 3 ≤ w → cr B q w = cr A q w := fun q w hw => by rw [l5, if_neg (by omega)]
  have ci : ∀ q, q < k → (cr B q 0).toInt = q * b.toInt := fun q hq => by rw [c0 q hq]; exact lv_0 hb (by omega)
  have q10 : ∀ q, q < k → cr B q 10 = 0 := fun q hq => (cg q 10 (by decide)).trans (h3 q (Nat.zero_le _) (by omega)).2
  have qe : ∀ q, q < k → qs B q = [] := fun q hq => by rw [qs_of (m := 0) (q10 q hq)]; rfl
  have hC : ∀ q, q < k → yiC B 0 q := fun q hq => by
    have hq3 : q < 3 := by omega
    refine ⟨⟨?_, ?_, ?_, ?_⟩, Or.inl ((cg q 3 (by decide)).trans (h3 q (Nat.zero_le _) hq3).1), Or.inl ⟨(cg q 5 (by decide)).trans (hi q hq3).1.2.1, (cg q 4 (by decide)).trans (hi q hq3).1.1⟩⟩
    · rw [c1 q hq]; decide
    · rw [c1 q hq, ci q hq]
      have e0 : (0 : Int32).toInt = 0 := by decide
      rw [e0]
      exact Int.mul_nonneg (by omega) (by omega)
    · rw [c2 q hq, ci q hq]
      have e0 : (200 : Int32).toInt = 200 := by decide
      rw [e0]
      have : (q : Int) * b.toInt ≤ 2 * 30 := Int.mul_le_mul (by omega) hb.2 (by omega) (by omega)
      omega
    · rw [c2 q hq]; decide
  have hyS := hy.1
  refine ⟨⟨⟨⟨⟨k3.2, by decide, by rw [l1]; exact s0, by rw [l1, sr 6 (by decide)]; exact hyS.2.2.2.1, fun _ => by rw [l1, s1, s2, s3]; exact ⟨hb, hc, hd⟩, by rw [l1, sr 8 (by decide)]; exact hyS.2.2.2.2.2⟩, hC, fun q hq => ?_, fun i hi => absurd hi (by omega), fun q hq => ⟨⟨0, by decide, q10 q hq⟩, by rw [qe q hq]; exact List.nodup_nil, fun x hx => (by rw [qe q hq] at hx; cases hx), fun i hi => absurd hi (by omega)⟩, by rw [l1, sr 7 (by decide)]; exact hy.2.2.2.2.2⟩, ?_, ?_, fun q hq => by rw [qe q hq]; exact List.Pairwise.nil, fun i hi => absurd hi (by omega)⟩, fun q hq hq3 => ?_⟩, fun q hq hq3 => ?_, fun i hi hi8 => by rw [l2]; exact h4 i hi hi8, by rw [l1, sr 8 (by decide)]; exact h5, by rw [l1, sr 4 (by decide)]; exact h6, fun _ _ i hi => absurd hi (by omega), fun z => absurd z (by omega), ⟨m, b1, b2, by rw [t3 0 12 (by decide) (Or.inl (by decide)), xr 0 12 (Or.inr (by decide))]; exact b3, fun i hi => by rw [t3 6 i (by decide) (Or.inl (by decide)), xr 6 i (Or.inl (by decide))]; exact b4 i hi⟩, h10⟩
  · rw [ci q (by omega), ci (q + 1) hq, l1, s1]
    have : ((q + 1 : Nat) : Int) * b.toInt = q * b.toInt + b.toInt := by
      rw [Int.natCast_add, Int.add_mul]
      omega
    omega
  · refine yv_ext (fun q w => ?_) (fun i w => ?_) (fun w => ?_) (fun q w => ?_) (fun _ _ => rfl)
    · simp only [vA, vX]
      by_cases z : q < k ∧ w < 8 ∧ w ≠ 6
      · rw [if_pos z, if_pos z]
        have hq3 : q < 3 := by omega
        obtain ⟨⟨i1, i2, i3, i4⟩, i5, i6, i7, i8⟩ := hi q hq3
        have e : w = 0 ∨ w = 1 ∨ w = 2 ∨ w = 3 ∨ w = 4 ∨ w = 5 ∨ w = 7 := by omega
        rcases e with rfl | rfl | rfl | rfl | rfl | rfl | rfl <;> simp only [vXc]
        · rw [t1 q 0 hq3 (by decide), if_pos ⟨Nat.zero_le _, z.1, rfl⟩]; exact c0 q z.1
        · rw [t3 1 q (by decide) (Or.inl (by decide)), xr 1 q (Or.inl (by decide)), i5]; exact c1 q z.1
        · rw [t2 q, if_pos ⟨Nat.zero_le _, z.1⟩]; exact c2 q z.1
        · rw [t1 q 8 hq3 (by decide), if_neg (by omega), if_neg (by omega), oc q 8 hq3 (by decide), i7, cg q 3 (by decide)]
          exact (h3 q (Nat.zero_le _) hq3).1
        · rw [t1 q 2 hq3 (by decide), if_neg (by omega), if_pos ⟨Nat.zero_le _, z.1, rfl⟩, cg q 4 (by decide)]; exact i1
        · rw [t1 q 1 hq3 (by decide), if_neg (by omega), if_neg (by omega), oc q 1 hq3 (by decide), hz q (Nat.zero_le _) hq3, cg q 5 (by decide)]; exact i2
        · rw [t1 q 3 hq3 (by decide), if_neg (by omega), if_neg (by omega), oc q 3 hq3 (by decide), i6, cg q 7 (by decide)]; exact i3
      · rw [if_neg z, if_neg z]
    · simp only [vA, vX]
      rw [if_neg (by omega), if_neg (by omega)]
    · simp only [vA, vX]
      by_cases z : w < 7
      · rw [if_pos z, if_pos z, l1]
        have e : w = 0 ∨ w = 1 ∨ w = 2 ∨ w = 3 ∨ w = 4 ∨ w = 5 ∨ w = 6 := by omega
        rcases e with rfl | rfl | rfl | rfl | rfl | rfl | rfl <;> simp only [vXs]
        · rw [s0, t3 0 1 (by decide) (Or.inl (by decide)), x1]
        · rw [s1, t3 0 2 (by decide) (Or.inl (by decide)), x2]
        · rw [s2, t3 0 3 (by decide) (Or.inl (by decide)), x3]
        · rw [s3, t3 0 4 (by decide) (Or.inl (by decide)), x4]
        · rw [sr 4 (by decide), t3 3 0 (by decide) (Or.inr (by decide)), xr 3 0 (Or.inl (by decide))]; exact rd_s4 hv
        · rw [sr 5 (by decide), t3 3 1 (by decide) (Or.inr (by decide)), xr 3 1 (Or.inl (by decide))]; exact rd_s5 hv
        · rw [sr 6 (by decide), t3 0 5 (by decide) (Or.inl (by decide)), xr 0 5 (Or.inr (by decide))]; exact rd_s6 hv
      · rw [if_neg z, if_neg z]
    · simp only [vA, vX]
      by_cases z : q < k ∧ w < 4
      · rw [if_pos z, if_pos z, l3]
        have hq3 : q < 3 := by omega
        obtain ⟨⟨i1, i2, i3, i4⟩, i5, i6, i7, i8⟩ := hi q hq3
        rw [t1 q (4 + w) hq3 (by omega), if_neg (by omega), if_neg (by omega), oc q (4 + w) hq3 (by omega), i8 w z.2]
        exact i4 w z.2
      · rw [if_neg z, if_neg z]
  · rw [t3 3 2 (by decide) (Or.inr (by decide)), xr 3 2 (Or.inl (by decide))]; exact hq.1
  · rw [t1 q 1 hq3 (by decide), if_neg (by omega), if_neg (by omega), oc q 1 hq3 (by decide)]
    exact hz q (Nat.zero_le _) hq3
  · rw [cg q 3 (by decide), cg q 10 (by decide)]
    exact h3 q (Nat.zero_le _) hq3
theorem n_pos (h : RL n j T A X) : X 0 1 ≤ 0 ↔ n = 0 := by
  rw [← rd_s0 h.2.1, h.1.1.2.2.1, xa_le, nI_toInt (by have := h.1.1.1; omega)]
  have e0 : (0 : Int32).toInt = 0 := by decide
  omega
theorem n_pos2 (h : RL n j T A X) : X 0 1 = 0 ↔ n = 0 := by
  rw [← rd_s0 h.2.1, h.1.1.2.2.1, xa_eq, nI_toInt (by have := h.1.1.1; omega)]
  have e0 : (0 : Int32).toInt = 0 := by decide
  omega
theorem hasT (h : RL n j T A X) : f_Yd_hasTrack A = 0 ↔ n = 0 := by
  unfold f_Yd_hasTrack
  rw [rd_s0 h.2.1]
  by_cases z : X 0 1 ≤ 0
  · rw [if_pos z]; exact ⟨fun _ => (n_pos h).mp z, fun _ => rfl⟩
  · rw [if_neg z]; exact ⟨fun q => absurd q (by decide), fun q => absurd ((n_pos h).mpr q) z⟩
theorem gr_track {a b c d : Int32} (h : GR n j T A P X) : (∃ n' j', GR n' j' T (c_track A a b c d).2 P (f_Mo_track X a b c d).2) ∧ (f_Mo_track X a b c d).2 0 0 = (c_track A a b c d).1 := by
  have hr := h.1.1
  unfold c_track
  by_cases h0 : f_Yd_hasTrack A = 0
  · have n0 := (hasT hr).mp h0
    subst n0
    obtain ⟨g0, g1⟩ := track_g (a := a) (b := b) (c := c) (d := d) ((n_pos hr).mpr rfl)
    rw [if_pos h0]
    unfold f_Mo_track
    rw [in_eq, in_eq, in_eq, in_eq]
    have bad : (∃ n' j', GR n' j' T A P (f_tr47 X a b c d 0).2) ∧ (f_tr47 X a b c d 0).2 0 0 = 2 := by
      rw [g0]
      exact ⟨⟨0, j, GR_thr h⟩, mm_up_at _ _ _ _⟩
    by_cases h1 : f_Mo_in a 1 3 = 0
    · rw [if_pos h1, if_pos h1]; exact bad
    · rw [if_neg h1, if_neg h1]
      by_cases h2 : f_Mo_in b 1 30 = 0
      · rw [if_pos h2, if_pos h2]; exact bad
      · rw [if_neg h2, if_neg h2]
        by_cases h3 : f_Mo_in c 1 20 = 0
        · rw [if_pos h3, if_pos h3]; exact bad
        · rw [if_neg h3, if_neg h3]
          by_cases h4 : f_Mo_in d 1 30 = 0
          · rw [if_pos h4, if_pos h4]; exact bad
          · rw [if_neg h4, if_neg h4, g1]
            rw [in_0, Classical.not_not] at h1 h2 h3 h4
            obtain ⟨ea, ea2⟩ := ix_int (x := a) (Int.le_trans (by decide) h1.1)
            refine ⟨⟨_, _, GR_lay h h1 h2 h3 h4⟩, ?_⟩
            have hk : ix a ≤ 3 := by
              have := h1.2
              have e3 : (3 : Int32).toInt = 3 := by decide
              omega
            have := (tr_spec (b := b) (c' := c) (d := d) (g := 1) hk 4 0 (mm_up (mm_up (mm_up (mm_up (mm_up X 0 0 0) 0 1 a) 0 2 b) 0 3 c) 0 4 d) (Nat.zero_le _) (by omega)).2.2 0 0 (by decide) (Or.inl (by decide))
            rw [← ea] at this
            rw [this]
            simp [mm_up]
  · have n0 : ¬ n = 0 := fun z => h0 ((hasT hr).mpr z)
    rw [if_neg h0, track_1 (fun z => n0 ((n_pos hr).mp z))]
    exact ⟨⟨n, j, GR_thr h⟩, mm_up_at _ _ _ _⟩
end API2
