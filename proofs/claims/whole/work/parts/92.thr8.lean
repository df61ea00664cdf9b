section
variable {D : va_G} {ad : Nat → Nat} {cA : Nat → ClassId} {l : Launch} {M : mm_M} {n j T : Nat} {X : mm_M}
abbrev xS : String := "java/lang/IllegalStateException"
abbrev xA : String := "java/lang/IllegalArgumentException"
abbrev xI : String := "java/lang/IndexOutOfBoundsException"
abbrev xU : String := "java/lang/UnsupportedOperationException"
theorem pb_track (hl : l.stackTraces = false) {a b c d : Int32} : ∃ M', PB D ad cA l [xS, xA] 73 M [.inr (4, 0), .inl a, .inl b, .inl c, .inl d] (c_track (yv 8 M) a b c d).1 none M' ∧ yv 8 M' = (c_track (yv 8 M) a b c d).2 ∧ yf 8 M M' := by
  unfold c_track
  by_cases h : f_Yd_hasTrack (yv 8 M) = 0
  · rw [if_pos h]
    by_cases h1 : f_Ct_within a 1 3 = 0
    · rw [if_pos h1]
      exact ⟨M, pb_t 1 (by decide) rfl rfl (th_track_60 hl (tx_track_2a h h1)), rfl, yf_rf⟩
    · rw [if_neg h1]
      by_cases h2 : f_Ct_within b 1 30 = 0
      · rw [if_pos h2]
        exact ⟨M, pb_t 1 (by decide) rfl rfl (th_track_60 hl (tx_track_2b h h1 h2)), rfl, yf_rf⟩
      · rw [if_neg h2]
        by_cases h3 : f_Ct_within c 1 20 = 0
        · rw [if_pos h3]
          exact ⟨M, pb_t 1 (by decide) rfl rfl (th_track_60 hl (tx_track_2c h h1 h2 h3)), rfl, yf_rf⟩
        · rw [if_neg h3]
          by_cases h4 : f_Ct_within d 1 30 = 0
          · rw [if_pos h4]
            exact ⟨M, pb_t 1 (by decide) rfl rfl (th_track_60 hl (tx_track_2d h h1 h2 h3 h4)), rfl, yf_rf⟩
          · rw [if_neg h4]
            have q := h1
            rw [in_eq, in_0, Classical.not_not] at q
            obtain ⟨ea, ea2⟩ := ix_int (x := a) (Int.le_trans (by decide) q.1)
            have e3 : (3 : Int32).toInt = 3 := by decide
            obtain ⟨M', s1, a1, w1⟩ := ys_Yd_lay (d := 10) (b := 8) (M := M) (p1 := a) (p2 := b) (p3 := c) (p4 := d) (n := ix a) (Or.inl rfl) ea (by omega)
            exact ⟨M', Or.inl ⟨rfl, mt_track (rx_track h h1 h2 h3 h4 s1)⟩, a1, w1⟩
  · rw [if_neg h]
    exact ⟨M, pb_t 0 (by decide) rfl rfl (th_track_10 hl (tx_track_1 h)), rfl, yf_rf⟩
theorem pb_crane (hl : l.stackTraces = false) (hr : RL n j T (yv 8 M) X) {x y a e : Int32} : ∃ M', PB D ad cA l [xI, xS, xA, xU] 74 M [.inr (4, 0), .inl x, .inl y, .inl a, .inl e] (c_crane (yv 8 M) x y a e).1 none M' ∧ yv 8 M' = (c_crane (yv 8 M) x y a e).2 ∧ yf 8 M M' := by
  unfold c_crane
  by_cases hc : f_Ct_within x 0 (sc (yv 8 M) 0 - 1) = 0
  · rw [if_pos hc]
    exact ⟨M, pb_t 0 (by decide) rfl rfl (tn_crane_2 (th_needCrane_17 hl (tx_nC hc)) tx_crane_n), rfl, yf_rf⟩
  · rw [if_neg hc]
    by_cases h1 : 0 < sc (yv 8 M) 4
    · rw [if_pos h1]
      exact ⟨M, pb_t 1 (by decide) rfl rfl (th_crane_25 hl (tx_crane_2a hc h1)), rfl, yf_rf⟩
    · rw [if_neg h1]
      by_cases h2 : sc (yv 8 M) 8 = 0
      · rw [if_pos h2]
        by_cases g1 : a < 0
        · rw [if_pos g1]
          exact ⟨M, pb_t 2 (by decide) rfl rfl (th_crane_58 hl (tx_crane_3a hc h1 h2 g1)), rfl, yf_rf⟩
        · rw [if_neg g1]
          by_cases g2 : y < a
          · rw [if_pos g2]
            exact ⟨M, pb_t 2 (by decide) rfl rfl (th_crane_58 hl (tx_crane_3b hc h1 h2 g1 g2)), rfl, yf_rf⟩
          · rw [if_neg g2]
            by_cases g3 : e < y
            · rw [if_pos g3]
              exact ⟨M, pb_t 2 (by decide) rfl rfl (th_crane_58 hl (tx_crane_3c hc h1 h2 g1 g2 g3)), rfl, yf_rf⟩
            · rw [if_neg g3]
              by_cases g4 : 200 < e
              · rw [if_pos g4]
                exact ⟨M, pb_t 2 (by decide) rfl rfl (th_crane_58 hl (tx_crane_3d hc h1 h2 g1 g2 g3 g4)), rfl, yf_rf⟩
              · rw [if_neg g4]
                obtain ⟨ex, lx⟩ := (c_ok hr).mp hc
                generalize ix x = k at ex lx
                subst ex
                have k3 : k < 3 := Nat.lt_of_lt_of_le lx hr.1.1.1
                have hn : ynn (yv 8 M) n := ⟨hr.1.1.2.2.1, hr.1.1.1⟩
                by_cases h5 : f_Yd_hasRoom (yv 8 M) k y = 0
                · rw [if_pos h5]
                  exact ⟨M, pb_t 3 (by decide) rfl rfl (th_crane_80 hl (tx_crane_4 k3 hn hc h1 h2 g1 g2 g3 g4 h5)), rfl, yf_rf⟩
                · rw [if_neg h5]
                  obtain ⟨M', s1, a1, w1⟩ := ys_Cr_stand (d := 11) (b := 8) (M := M) (c := k) (p := y) (l := a) (g := e) (Or.inl rfl)
                  exact ⟨M', Or.inl ⟨rfl, mt_crane (rx_crane k3 hn hc h1 h2 g1 g2 g3 g4 h5 s1)⟩, a1, w1⟩
      · rw [if_neg h2]
        exact ⟨M, pb_t 1 (by decide) rfl rfl (th_crane_25 hl (tx_crane_2b hc h1 h2)), rfl, yf_rf⟩
theorem pb_job (hl : l.stackTraces = false) (hr : RL n j T (yv 8 M) X) {x y r : Int32} : ∃ M', PB D ad cA l [xS, xA, xU] 75 M [.inr (4, 0), .inl x, .inl y, .inl r] (c_job (yv 8 M) x y r).1 (some (sc (yv 8 M) 6)) M' ∧ yv 8 M' = (c_job (yv 8 M) x y r).2 ∧ yf 8 M M' := by
  unfold c_job
  by_cases h : f_Yd_hasTrack (yv 8 M) = 0
  · rw [if_pos h]
    exact ⟨M, pb_t 0 (by decide) rfl rfl (tn_job_1 (th_needTrack_10 hl (tx_nT h)) tx_job_n), rfl, yf_rf⟩
  · rw [if_neg h]
    by_cases h1 : f_Ct_within x 0 200 = 0
    · rw [if_pos h1]
      exact ⟨M, pb_t 1 (by decide) rfl rfl (th_job_37 hl (tx_job_2a h h1)), rfl, yf_rf⟩
    · rw [if_neg h1]
      by_cases h2 : f_Ct_within y 0 200 = 0
      · rw [if_pos h2]
        exact ⟨M, pb_t 1 (by decide) rfl rfl (th_job_37 hl (tx_job_2b h h1 h2)), rfl, yf_rf⟩
      · rw [if_neg h2]
        by_cases h3 : f_Ct_within r 0 5000 = 0
        · rw [if_pos h3]
          exact ⟨M, pb_t 1 (by decide) rfl rfl (th_job_37 hl (tx_job_2c h h1 h2 h3)), rfl, yf_rf⟩
        · rw [if_neg h3]
          by_cases h4 : 8 ≤ sc (yv 8 M) 6
          · rw [if_pos h4]
            exact ⟨M, pb_t 2 (by decide) rfl rfl (th_job_59 hl (tx_job_3 h h1 h2 h3 h4)), rfl, yf_rf⟩
          · rw [if_neg h4]
            have hj8 := hr.1.1.2.1
            have lt : j < 8 := by
              rcases Nat.lt_or_ge j 8 with q | q
              · exact q
              · exact absurd (by rw [hr.1.1.2.2.2.1]; exact nI_le (a := 8) q (by omega)) h4
            obtain ⟨M', s1, a1, w1⟩ := ys_Yd_addJob (d := 11) (b := 8) (M := M) (x := x) (y := y) (r := r) (Or.inl rfl) (okx_of hr.1.1.2.2.2.1 lt (by decide))
            exact ⟨M', Or.inl ⟨rfl, mt_job (rx_job h h1 h2 h3 h4 s1)⟩, a1, w1⟩
theorem pb_give (hl : l.stackTraces = false) (hr : RL n j T (yv 8 M) X) {x w : Int32} : ∃ M', PB D ad cA l [xI, xS, xU] 76 M [.inr (4, 0), .inl x, .inl w] (c_give (yv 8 M) x w).1 none M' ∧ yv 8 M' = (c_give (yv 8 M) x w).2 ∧ yf 8 M M' := by
  unfold c_give
  by_cases hj : f_Ct_within x 0 (sc (yv 8 M) 6 - 1) = 0
  · rw [if_pos hj]
    exact ⟨M, pb_t 0 (by decide) rfl rfl (tn_give_2 (th_needJob_17 hl (tx_nJ hj)) tx_give_n), rfl, yf_rf⟩
  · rw [if_neg hj]
    by_cases hc : f_Ct_within w 0 (sc (yv 8 M) 0 - 1) = 0
    · rw [if_pos hc]
      exact ⟨M, pb_t 0 (by decide) rfl rfl (tn_give_7 (th_needCrane_17 hl (tx_nC hc)) (tx_give_m hj)), rfl, yf_rf⟩
    · rw [if_neg hc]
      obtain ⟨ex, lx⟩ := (j_ok hr).mp hj
      obtain ⟨ew, lw⟩ := (c_ok hr).mp hc
      generalize ix x = i at ex lx
      generalize ix w = k at ew lw
      subst ex ew
      have i8 : i < 8 := Nat.lt_of_lt_of_le lx hr.1.1.2.1
      have k3 : k < 3 := Nat.lt_of_lt_of_le lw hr.1.1.1
      by_cases h1 : jb (yv 8 M) i 3 = 0
      · rw [if_pos h1]
        by_cases h2 : f_Cr_reaches (yv 8 M) k i = 0
        · rw [if_pos h2]
          exact ⟨M, pb_t 2 (by decide) rfl rfl (th_give_59 hl (tx_give_3 i8 k3 hj hc h1 h2)), rfl, yf_rf⟩
        · rw [if_neg h2]
          obtain ⟨m, m8, hm, -⟩ := q_room hr.1 lw lx h1
          obtain ⟨M', s1, a1, w1⟩ := ys_Yd_hand (d := 10) (b := 8) (M := M) (j := i) (c := k) (Or.inl rfl) i8 k3 (fun _ => okx_of hm m8 (by decide))
          exact ⟨M', Or.inl ⟨rfl, mt_give (rx_give i8 k3 hj hc h1 h2 s1)⟩, a1, w1⟩
      · rw [if_neg h1]
        exact ⟨M, pb_t 1 (by decide) rfl rfl (th_give_25 hl (tx_give_2 i8 k3 hj hc h1)), rfl, yf_rf⟩
theorem pb_take (hl : l.stackTraces = false) (hr : RL n j T (yv 8 M) X) (hw : wcn (yv 8 M)) {x : Int32} : ∃ M', PB D ad cA l [xI, xS] 77 M [.inr (4, 0), .inl x] (c_take (yv 8 M) x).1 none M' ∧ yv 8 M' = (c_take (yv 8 M) x).2 ∧ yf 8 M M' := by
  unfold c_take
  by_cases hj : f_Ct_within x 0 (sc (yv 8 M) 6 - 1) = 0
  · rw [if_pos hj]
    exact ⟨M, pb_t 0 (by decide) rfl rfl (tn_take_2 (th_needJob_17 hl (tx_nJ hj)) tx_take_n), rfl, yf_rf⟩
  · rw [if_neg hj]
    obtain ⟨ex, lx⟩ := (j_ok hr).mp hj
    generalize ix x = i at ex lx
    subst ex
    have i8 : i < 8 := Nat.lt_of_lt_of_le lx hr.1.1.2.1
    by_cases h1 : jb (yv 8 M) i 3 = 1
    · rw [if_pos h1]
      obtain ⟨M', s1, a1, w1⟩ := ys_Yd_free (d := 10) (b := 8) (M := M) (j := i) (n := n) (Or.inl rfl) i8 ⟨hr.1.1.2.2.1, hr.1.1.1⟩ hw
      exact ⟨M', Or.inl ⟨rfl, mt_take (rx_take i8 hj h1 s1)⟩, a1, w1⟩
    · rw [if_neg h1]
      exact ⟨M, pb_t 1 (by decide) rfl rfl (th_take_21 hl (tx_take_2 i8 hj h1)), rfl, yf_rf⟩
theorem pb_broken (hl : l.stackTraces = false) (hr : RL n j T (yv 8 M) X) {x w : Int32} (hw : w = 0 ∨ w = 1) : ∃ M', PB D ad cA l [xI, xS] 78 M [.inr (4, 0), .inl x, .inl w] (c_broken (yv 8 M) x w).1 none M' ∧ yv 8 M' = (c_broken (yv 8 M) x w).2 ∧ yf 8 M M' := by
  unfold c_broken
  by_cases hc : f_Ct_within x 0 (sc (yv 8 M) 0 - 1) = 0
  · rw [if_pos hc]
    exact ⟨M, pb_t 0 (by decide) rfl rfl (tn_broken_2 (th_needCrane_17 hl (tx_nC hc)) tx_broken_n), rfl, yf_rf⟩
  · rw [if_neg hc]
    obtain ⟨ex, lx⟩ := (c_ok hr).mp hc
    generalize ix x = k at ex lx
    subst ex
    have k3 : k < 3 := Nat.lt_of_lt_of_le lx hr.1.1.1
    by_cases h1 : cr (yv 8 M) k 3 = w
    · rw [if_pos h1]
      exact ⟨M, pb_t 1 (by decide) rfl rfl (th_broken_21 hl (tx_broken_2 k3 hc h1)), rfl, yf_rf⟩
    · rw [if_neg h1]
      exact ⟨_, Or.inl ⟨rfl, mt_broken (rx_broken k3 hc hw h1)⟩, yv_cr, yf_up yf_rf (by unfold yo; omega)⟩
set_option maxRecDepth 20000 in
theorem rn_loop {k : Nat} (hk : k ≤ 1000) : ∀ (r i : Nat) (Mz : mm_M) (X : mm_M), RL n j T (yv 8 Mz) X → i ≤ k → k < i + r → yf 8 M Mz → mm_Wp pg_Ct_run rt_Ct_run (cu_S1 11) (Mz, 41, [some (.inr (4, 0)), some (.inl (nI k)), some (.inl (nI i))], []) (fun res => res.1 = some (sc (cps (k - i) (yv 8 Mz)) 4) ∧ yv 8 res.2 = cps (k - i) (yv 8 Mz) ∧ yf 8 M res.2)
  | 0, i, Mz, X, _, _, h, _ => absurd h (by omega)
  | r + 1, i, Mz, X, hR, hi, hr, hf => by
    by_cases h1 : nI k ≤ nI i
    · have := (nI_leI (by omega) (by omega)).mp h1
      refine wgo (g' := (Mz, 66, [some (.inr (4, 0)), some (.inl (nI k)), some (.inl (nI i))], [.inl (Mz 8 4)])) [oz 0, oz 0, oz 1, oz 0, oz 0, oz 0] rfl ⟨trivial, trivial, h1, trivial, trivial, trivial, trivial⟩ ?_
      refine wend (res := (some (Mz 8 4), Mz)) ⟨_, rfl, rfl⟩ ?_
      rw [show k - i = 0 by omega]
      exact ⟨rfl, rfl, hf⟩
    · have lt : i < k := nI_sl rfl (by omega) hi h1
      have hI : IA n j (yv 8 Mz) := ⟨X, T, hR⟩
      obtain ⟨M1, s1, a1, w1⟩ := ys_Yd_passSecond (d := 8) (b := 8) (M := Mz) (n := n) (I := IA n j) (Or.inl rfl) hR.1.1.1 (fun A => IA_nn) (fun A i => IA_one) (fun A i => IA_tick) hI
      refine wgo (g' := (M1, 41, [some (.inr (4, 0)), some (.inl (nI k)), some (.inl (nI i + 1))], [])) [oz 0, oz 0, oz 0, oz 0, oz 0, oc (none, M1), oz 0, oz 0] rfl ⟨trivial, trivial, h1, trivial, trivial, ⟨cu_l s1, Nat.le_of_ble_eq_true rfl, Nat.le_of_ble_eq_true rfl, ⟨_, rfl⟩⟩, trivial, trivial, trivial⟩ ?_
      rw [nI_1 i]
      have ih := rn_loop hk r (i + 1) M1 _ (by rw [a1]; exact RL_second hR) lt (by omega) (yf_tr hf w1)
      rw [a1] at ih
      rw [show k - i = (k - (i + 1)) + 1 by omega]
      exact ih
theorem pb_run (hl : l.stackTraces = false) (hr : RL n j T (yv 8 M) X) {x : Int32} : ∃ M', PB D ad cA l [xS, xA] 79 M [.inr (4, 0), .inl x] (c_run (yv 8 M) x).1 (some (sc (c_run (yv 8 M) x).2 4)) M' ∧ yv 8 M' = (c_run (yv 8 M) x).2 ∧ yf 8 M M' := by
  unfold c_run
  by_cases h : f_Yd_hasTrack (yv 8 M) = 0
  · rw [if_pos h]
    exact ⟨M, pb_t 0 (by decide) rfl rfl (tn_run_1 (th_needTrack_10 hl (tx_nT h)) tx_run_n), rfl, yf_rf⟩
  · rw [if_neg h]
    by_cases h1 : f_Ct_within x 0 1000 = 0
    · rw [if_pos h1]
      exact ⟨M, pb_t 1 (by decide) rfl rfl (th_run_29 hl (tx_run_2a h h1)), rfl, yf_rf⟩
    · rw [if_neg h1]
      by_cases h2 : sc (yv 8 M) 4 + x ≤ 100000
      · rw [if_pos h2]
        have q := h1
        rw [in_eq, in_0, Classical.not_not] at q
        have e0 : (0 : Int32).toInt = 0 := by decide
        have e3 : (1000 : Int32).toInt = 1000 := by decide
        obtain ⟨ex, ex2⟩ := ix_int (x := x) (by omega)
        obtain ⟨os, P, p1, p2⟩ := tx_run_0 (M := M) h h1 h2
        have hk : ix x ≤ 1000 := by omega
        have key := rn_loop (M := M) (k := ix x) hk 1001 0 M X hr (Nat.zero_le _) (by omega) yf_rf
        obtain ⟨⟨r9, M'⟩, k1, k2, k3, k4⟩ := key
        rw [Nat.sub_zero] at k2 k3
        refine ⟨M', Or.inl ⟨rfl, mt_run ?_⟩, k3, k4⟩
        simp only at k2
        rw [← ex] at k1
        rw [k2] at k1
        exact mm_go os p1 p2 k1
      · rw [if_neg h2]
        exact ⟨M, pb_t 1 (by decide) rfl rfl (th_run_29 hl (tx_run_2b h h1 h2)), rfl, yf_rf⟩
theorem sw7 {w : Int32} (h0 : ¬ w = 0) (h1 : ¬ w = 1) (h2 : ¬ w = 2) (h3 : ¬ w = 3) (h4 : ¬ w = 4) (h5 : ¬ w = 5) (h6 : ¬ w = 6) (h7 : ¬ w = 7) : w.toInt < 0 ∨ 7 < w.toInt := by
  have ne : ∀ k : Int32, w ≠ k → w.toInt ≠ k.toInt := fun k hk e => hk (xa_eq.mpr e)
  have a0 := ne 0 h0
  have a1 := ne 1 h1
  have a2 := ne 2 h2
  have a3 := ne 3 h3
  have a4 := ne 4 h4
  have a5 := ne 5 h5
  have a6 := ne 6 h6
  have a7 := ne 7 h7
  have e0 : (0 : Int32).toInt = 0 := by decide
  have e1 : (1 : Int32).toInt = 1 := by decide
  have e2 : (2 : Int32).toInt = 2 := by decide
  have e3 : (3 : Int32).toInt = 3 := by decide
  have e4 : (4 : Int32).toInt = 4 := by decide
  have e5 : (5 : Int32).toInt = 5 := by decide
  have e6 : (6 : Int32).toInt = 6 := by decide
  have e7 : (7 : Int32).toInt = 7 := by decide
  omega
theorem sw2 {w : Int32} (h0 : ¬ w = 0) (h1 : ¬ w = 1) (h2 : ¬ w = 2) : w.toInt < 0 ∨ 2 < w.toInt := by
  have ne : ∀ k : Int32, w ≠ k → w.toInt ≠ k.toInt := fun k hk e => hk (xa_eq.mpr e)
  have a0 := ne 0 h0
  have a1 := ne 1 h1
  have a2 := ne 2 h2
  have e0 : (0 : Int32).toInt = 0 := by decide
  have e1 : (1 : Int32).toInt = 1 := by decide
  have e2 : (2 : Int32).toInt = 2 := by decide
  omega
theorem pb_at (hl : l.stackTraces = false) (hr : RL n j T (yv 8 M) X) {x w : Int32} : PB D ad cA l [xI] 80 M [.inr (4, 0), .inl x, .inl w] (c_at (yv 8 M) x w).1 (some (c_at (yv 8 M) x w).2) M := by
  unfold c_at
  by_cases hc : f_Ct_within x 0 (sc (yv 8 M) 0 - 1) = 0
  · rw [if_pos hc]
    exact pb_t 0 (by decide) rfl rfl (tn_at_2 (th_needCrane_17 hl (tx_nC hc)) tx_at_n)
  · rw [if_neg hc]
    obtain ⟨ex, lx⟩ := (c_ok hr).mp hc
    generalize ix x = k at ex lx
    subst ex
    have k3 : k < 3 := Nat.lt_of_lt_of_le lx hr.1.1.1
    by_cases h0 : w = 0
    · rw [if_pos h0]; exact Or.inl ⟨rfl, mt_at (rx_at_0 k3 hc h0)⟩
    · rw [if_neg h0]
      by_cases h1 : w = 1
      · rw [if_pos h1]; exact Or.inl ⟨rfl, mt_at (rx_at_1 k3 hc h1)⟩
      · rw [if_neg h1]
        by_cases h2 : w = 2
        · rw [if_pos h2]; exact Or.inl ⟨rfl, mt_at (rx_at_2 k3 hc h2)⟩
        · rw [if_neg h2]
          by_cases h3 : w = 3
          · rw [if_pos h3]; exact Or.inl ⟨rfl, mt_at (rx_at_3 k3 hc h3)⟩
          · rw [if_neg h3]
            by_cases h4 : w = 4
            · rw [if_pos h4]; exact Or.inl ⟨rfl, mt_at (rx_at_4 k3 hc h4)⟩
            · rw [if_neg h4]
              by_cases h5 : w = 5
              · rw [if_pos h5]; exact Or.inl ⟨rfl, mt_at (rx_at_5 k3 hc h5)⟩
              · rw [if_neg h5]
                by_cases h6 : w = 6
                · rw [if_pos h6]; exact Or.inl ⟨rfl, mt_at (rx_at_6 k3 hc h6)⟩
                · rw [if_neg h6]
                  by_cases h7 : w = 7
                  · rw [if_pos h7]; exact Or.inl ⟨rfl, mt_at (rx_at_7 k3 hc h7)⟩
                  · rw [if_neg h7]
                    exact pb_t 0 (by decide) rfl rfl (th_at_112 hl (tx_at_1 k3 hc (sw7 h0 h1 h2 h3 h4 h5 h6 h7)))
theorem pb_state (hl : l.stackTraces = false) (hr : RL n j T (yv 8 M) X) {x w : Int32} : PB D ad cA l [xI] 81 M [.inr (4, 0), .inl x, .inl w] (c_state (yv 8 M) x w).1 (some (c_state (yv 8 M) x w).2) M := by
  unfold c_state
  by_cases hj : f_Ct_within x 0 (sc (yv 8 M) 6 - 1) = 0
  · rw [if_pos hj]
    exact pb_t 0 (by decide) rfl rfl (tn_state_2 (th_needJob_17 hl (tx_nJ hj)) tx_state_n)
  · rw [if_neg hj]
    obtain ⟨ex, lx⟩ := (j_ok hr).mp hj
    generalize ix x = i at ex lx
    subst ex
    have i8 : i < 8 := Nat.lt_of_lt_of_le lx hr.1.1.2.1
    by_cases h0 : w = 0
    · rw [if_pos h0]; exact Or.inl ⟨rfl, mt_state (rx_state_0 i8 hj h0)⟩
    · rw [if_neg h0]
      by_cases h1 : w = 1
      · rw [if_pos h1]; exact Or.inl ⟨rfl, mt_state (rx_state_1 i8 hj h1)⟩
      · rw [if_neg h1]
        by_cases h2 : w = 2
        · rw [if_pos h2]; exact Or.inl ⟨rfl, mt_state (rx_state_2 i8 hj h2)⟩
        · rw [if_neg h2]
          exact pb_t 0 (by decide) rfl rfl (th_state_59 hl (tx_state_1 i8 hj (sw2 h0 h1 h2)))
theorem pb_planned (hl : l.stackTraces = false) {m : Nat} (hm : pv M 0 6 = nI m) (hm4 : m ≤ 4) {k : Int32} : PB D ad cA l [xI] 83 M [.inr (4, 0), .inl k] (c_planned (pv M) k).1 (some (c_planned (pv M) k).2) M := by
  unfold c_planned
  by_cases h1 : 0 ≤ k
  · rw [if_pos h1]; exact Or.inl ⟨rfl, mt_planned (rx_planned hm hm4 h1)⟩
  · rw [if_neg h1]
    exact pb_t 0 (by decide) rfl rfl (th_planned_4 hl (tx_planned_1 h1))
theorem pb_plan_t (hl : l.stackTraces = false) (hr : RL n j T (yv 8 M) X) {x : Int32} {r : Option Int32} (hc : ¬ c_plan (yv 8 M) x = 0) : PB D ad cA l [xS, xA, xU] 82 M [.inr (4, 0), .inl x] (c_plan (yv 8 M) x) r M := by
  unfold c_plan at hc ⊢
  by_cases h : f_Yd_hasTrack (yv 8 M) = 0
  · rw [if_pos h]
    exact pb_t 0 (by decide) rfl rfl (tn_plan_1 (th_needTrack_10 hl (tx_nT h)) tx_plan_n)
  · rw [if_neg h] at hc ⊢
    by_cases h1 : f_Ct_within x 1 300 = 0
    · rw [if_pos h1]
      exact pb_t 1 (by decide) rfl rfl (th_plan_15 hl (tx_plan_2 h h1))
    · rw [if_neg h1] at hc ⊢
      by_cases h2 : f_Yd_countFree (yv 8 M) ≤ 4
      · rw [if_pos h2] at hc; exact absurd rfl hc
      · rw [if_neg h2]
        exact pb_t 2 (by decide) rfl rfl (th_plan_36 hl (tx_plan_3 hr.1.1.2.2.2.1 hr.1.1.2.1 h h1 h2))
theorem pb_plan_o (hr : RL n j T (yv 8 M) X) (hz : ∀ c, c < 3 → cr (yv 8 M) c 3 = 0 ∨ cr (yv 8 M) c 3 = 1) (hT : T + 4 < 2 ^ 31) (h0 : ∀ i, i < 8 → pv M 1 i = 0) {x : Int32} (hc : c_plan (yv 8 M) x = 0) : ∃ M' P', PB D ad cA l [xS, xA, xU] 82 M [.inr (4, 0), .inl x] 0 (some (P' 0 7)) M' ∧ pv M' = P' ∧ cf M M' ∧ (∀ i, i < 8 → P' 1 i = 0) ∧ CR (rp_cf X j) (ix x) (ss_go (10 * j) (fun w => finA (ix x) (w.foldl hnd (yv 8 M))) (mayb n (yv 8 M)) (rp_cf X j) [] none) P' := by
  unfold c_plan at hc
  by_cases h : f_Yd_hasTrack (yv 8 M) = 0
  · rw [if_pos h] at hc; exact absurd hc (by decide)
  · rw [if_neg h] at hc
    by_cases h1 : f_Ct_within x 1 300 = 0
    · rw [if_pos h1] at hc; exact absurd hc (by decide)
    · rw [if_neg h1] at hc
      by_cases h2 : f_Yd_countFree (yv 8 M) ≤ 4
      · have fe := free_eq hr
        have q := h1
        rw [in_eq, in_0, Classical.not_not] at q
        have e1 : (1 : Int32).toInt = 1 := by decide
        have e3 : (300 : Int32).toInt = 300 := by decide
        obtain ⟨ex, ex2⟩ := ix_int (x := x) (by omega)
        have f8 := rp_cf_le (X := X) j
        have hj8 := hr.1.1.2.1
        have f4 : rp_cf X j ≤ 4 := by
          have z := h2
          rw [fe, xa_le, nI_toInt (by omega)] at z
          have : (4 : Int32).toInt = 4 := by decide
          omega
        obtain ⟨A', ⟨M', s1, a1, w1⟩, b1, b2⟩ := m_search (d := 5 - rp_cf X j) (M := M) (x := x) (f := rp_cf X j) (t := ix x) hr hz hT f4 (by omega) ex fe h0
        rw [show 5 - rp_cf X j + 7 + rp_cf X j = 12 by omega] at s1
        exact ⟨M', A'.1, Or.inl ⟨rfl, mt_plan (rx_plan hr.1.1.2.2.2.1 hr.1.1.2.1 h h1 h2 s1)⟩, congrArg Prod.fst a1, w1, b1, b2⟩
      · rw [if_neg h2] at hc; exact absurd hc (by decide)
end
