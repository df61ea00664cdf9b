/-! ONE CALL OF BOTH -/
theorem rv_yf {M M' : mm_M} (h : yf 8 M M') : rv M' = rv M := by
  funext r k
  simp only [rv]
  by_cases z : r < 7
  · rw [if_pos z, if_pos z, h (24 + r) (by unfold yo; omega)]
  · rw [if_neg z, if_neg z]
theorem pv_yf {M M' : mm_M} (h : yf 8 M M') : pv M' = pv M := pv_ext (fun r hr => h _ (by unfold yo; omega))
theorem yv_rf {M M' : mm_M} (h : rf M M') : yv 8 M' = yv 8 M := by
  refine yv_ext (fun c k => ?_) (fun c k => ?_) (fun k => ?_) (fun c k => ?_) (fun c k => ?_)
  · exact congrFun (h _ (by omega)) k
  · exact congrFun (h _ (by omega)) k
  · exact congrFun (h _ (by omega)) k
  · exact congrFun (h _ (by omega)) k
  · exact congrFun (h _ (by omega)) k
theorem pv_rf {M M' : mm_M} (h : rf M M') : pv M' = pv M := pv_ext (fun r hr => h _ (by omega))
theorem rv_cf {M M' : mm_M} (h : cf M M') : rv M' = rv M := by
  funext r k
  simp only [rv]
  by_cases z : r < 7
  · rw [if_pos z, if_pos z, h (24 + r) (by omega) (by unfold yo; omega)]
  · rw [if_neg z, if_neg z]
section ST
variable {D : va_G} {ad : Nat → Nat} {cA : Nat → ClassId} {l : Launch} {M : mm_M} {n j T : Nat}
def gs (M : mm_M) (n j T : Nat) : Prop := GR n j T (yv 8 M) (pv M) (rv M)
theorem th_sem {M2 : mm_M} {k : Int32} {X : mm_M} (a : rv M2 = X) (h : X 0 0 = k) : ct_Sem 12 33 M2 [.inr (5, 24)] (some k, M2) := by
  have := sm_Mo_thrown (d := 11) (M := M2)
  rw [a] at this
  rw [← h]
  exact this
theorem rd_n (h : gs M n j T) : rv M 0 1 = nI n ∧ n ≤ 3 ∧ rv M 0 5 = nI j ∧ j ≤ 8 := ⟨(rd_s0 h.1.1.2.1).symm.trans h.1.1.1.1.2.2.1, h.1.1.1.1.1, (rd_s6 h.1.1.2.1).symm.trans h.1.1.1.1.2.2.2.1, h.1.1.1.1.2.1⟩
theorem st_track (hl : l.stackTraces = false) (hg : gs M n j T) (a b c d : Int32) : ∃ M1 M2 k n' j' T', T' ≤ T + 1 ∧ PB D ad cA l [xS, xA] 73 M [.inr (4, 0), .inl a, .inl b, .inl c, .inl d] k none M1 ∧ ct_Sem 12 42 M1 [.inr (5, 24), .inl a, .inl b, .inl c, .inl d] (none, M2) ∧ ct_Sem 12 33 M2 [.inr (5, 24)] (some k, M2) ∧ gs M2 n' j' T' := by
  obtain ⟨M1, hPB, e1, w1⟩ := pb_track (D := D) (ad := ad) (cA := cA) hl (M := M) (a := a) (b := b) (c := c) (d := d)
  obtain ⟨M2, s2, a2, w2⟩ := rs_Mo_track (d := 10) (M := M1) (ta := a) (tb := b) (tc := c) (td := d)
  rw [rv_yf w1] at a2
  obtain ⟨⟨n', j', g⟩, hk⟩ := gr_track (a := a) (b := b) (c := c) (d := d) hg
  refine ⟨M1, M2, _, n', j', T, by omega, hPB, s2, th_sem a2 hk, ?_⟩
  unfold gs
  rw [yv_rf w2, e1, pv_rf w2, pv_yf w1, a2]
  exact g
theorem st_crane (hl : l.stackTraces = false) (hg : gs M n j T) (hT : T < 2 ^ 31) (a b c d : Int32) : ∃ M1 M2 k n' j' T', T' ≤ T + 1 ∧ PB D ad cA l [xI, xS, xA, xU] 74 M [.inr (4, 0), .inl a, .inl b, .inl c, .inl d] k none M1 ∧ ct_Sem 12 43 M1 [.inr (5, 24), .inl a, .inl b, .inl c, .inl d] (none, M2) ∧ ct_Sem 12 33 M2 [.inr (5, 24)] (some k, M2) ∧ gs M2 n' j' T' := by
  obtain ⟨r1, r2, r3, r4⟩ := rd_n hg
  obtain ⟨M1, hPB, e1, w1⟩ := pb_crane (D := D) (ad := ad) (cA := cA) hl hg.1.1 (x := a) (y := b) (a := c) (e := d)
  obtain ⟨M2, s2, a2, w2⟩ := rs_Mo_crane (d := 9) (M := M1) (x := a) (y := b) (a := c) (e := d) (n := n) r2 (by rw [rv_yf w1]; exact r1)
  rw [rv_yf w1] at a2
  obtain ⟨⟨n', j', g⟩, hk⟩ := gr_crane (x := a) (y := b) (a := c) (e := d) hg hT
  refine ⟨M1, M2, _, n', j', T, by omega, hPB, s2, th_sem a2 hk, ?_⟩
  unfold gs
  rw [yv_rf w2, e1, pv_rf w2, pv_yf w1, a2]
  exact g
theorem st_job (hl : l.stackTraces = false) (hg : gs M n j T) (a b c : Int32) : ∃ M1 M2 k r b9 n' j' T', T' ≤ T + 1 ∧ PB D ad cA l [xS, xA, xU] 75 M [.inr (4, 0), .inl a, .inl b, .inl c] k (some r) M1 ∧ ct_Sem 12 44 M1 [.inr (5, 24), .inl a, .inl b, .inl c] (some b9, M2) ∧ (k = 0 → r = b9) ∧ ct_Sem 12 33 M2 [.inr (5, 24)] (some k, M2) ∧ gs M2 n' j' T' := by
  obtain ⟨r1, r2, r3, r4⟩ := rd_n hg
  obtain ⟨M1, hPB, e1, w1⟩ := pb_job (D := D) (ad := ad) (cA := cA) hl hg.1.1 (x := a) (y := b) (r := c)
  obtain ⟨M2, s2, a2, w2⟩ := rs_Mo_job (d := 10) (M := M1) (x := a) (y := b) (r := c) (j := j) r4 (by rw [rv_yf w1]; exact r3)
  rw [rv_yf w1] at a2 s2
  obtain ⟨⟨n', j', g⟩, hk, hb⟩ := gr_job (x := a) (y := b) (r := c) hg
  refine ⟨M1, M2, _, _, _, n', j', T, by omega, hPB, s2, fun z => (hb z).symm, th_sem a2 hk, ?_⟩
  unfold gs
  rw [yv_rf w2, e1, pv_rf w2, pv_yf w1, a2]
  exact g
theorem st_give (hl : l.stackTraces = false) (hg : gs M n j T) (hT : T + 1 < 2 ^ 31) (a b : Int32) : ∃ M1 M2 k n' j' T', T' ≤ T + 1 ∧ PB D ad cA l [xI, xS, xU] 76 M [.inr (4, 0), .inl a, .inl b] k none M1 ∧ ct_Sem 12 47 M1 [.inr (5, 24), .inl a, .inl b] (none, M2) ∧ ct_Sem 12 33 M2 [.inr (5, 24)] (some k, M2) ∧ gs M2 n' j' T' := by
  obtain ⟨r1, r2, r3, r4⟩ := rd_n hg
  obtain ⟨M1, hPB, e1, w1⟩ := pb_give (D := D) (ad := ad) (cA := cA) hl hg.1.1 (x := a) (w := b)
  obtain ⟨M2, s2, a2, w2⟩ := rs_Mo_give (d := 9) (M := M1) (x := a) (w := b) (j := j) (n := n) r4 (by rw [rv_yf w1]; exact r3) r2 (by rw [rv_yf w1]; exact r1)
  rw [rv_yf w1] at a2
  obtain ⟨⟨n', j', T', hT', g⟩, hk⟩ := gr_give (x := a) (w := b) hg hT
  refine ⟨M1, M2, _, n', j', T', hT', hPB, s2, th_sem a2 hk, ?_⟩
  unfold gs
  rw [yv_rf w2, e1, pv_rf w2, pv_yf w1, a2]
  exact g
theorem wcn_of (h : gs M n j T) : wcn (yv 8 M) := fun c hc => by
  rcases Nat.lt_or_ge c n with z | z
  · exact (h.1.1.1.2.2.2.2.1 c z).1
  · exact ⟨0, by decide, (h.2.1 c z hc).2⟩
theorem st_take (hl : l.stackTraces = false) (hg : gs M n j T) (a : Int32) : ∃ M1 M2 k n' j' T', T' ≤ T + 1 ∧ PB D ad cA l [xI, xS] 77 M [.inr (4, 0), .inl a] k none M1 ∧ ct_Sem 12 48 M1 [.inr (5, 24), .inl a] (none, M2) ∧ ct_Sem 12 33 M2 [.inr (5, 24)] (some k, M2) ∧ gs M2 n' j' T' := by
  obtain ⟨r1, r2, r3, r4⟩ := rd_n hg
  obtain ⟨M1, hPB, e1, w1⟩ := pb_take (D := D) (ad := ad) (cA := cA) hl hg.1.1 (wcn_of hg) (x := a)
  obtain ⟨M2, s2, a2, w2⟩ := rs_Mo_take (d := 9) (M := M1) (x := a) (j := j) r4 (by rw [rv_yf w1]; exact r3)
  rw [rv_yf w1] at a2
  obtain ⟨⟨n', j', g⟩, hk⟩ := gr_take (x := a) hg
  refine ⟨M1, M2, _, n', j', T, by omega, hPB, s2, th_sem a2 hk, ?_⟩
  unfold gs
  rw [yv_rf w2, e1, pv_rf w2, pv_yf w1, a2]
  exact g
theorem st_broken (hl : l.stackTraces = false) (hg : gs M n j T) (a b : Int32) (hb : b = 0 ∨ b = 1) : ∃ M1 M2 k n' j' T', T' ≤ T + 1 ∧ PB D ad cA l [xI, xS] 78 M [.inr (4, 0), .inl a, .inl b] k none M1 ∧ ct_Sem 12 49 M1 [.inr (5, 24), .inl a, .inl b] (none, M2) ∧ ct_Sem 12 33 M2 [.inr (5, 24)] (some k, M2) ∧ gs M2 n' j' T' := by
  obtain ⟨r1, r2, r3, r4⟩ := rd_n hg
  obtain ⟨M1, hPB, e1, w1⟩ := pb_broken (D := D) (ad := ad) (cA := cA) hl hg.1.1 (x := a) hb
  obtain ⟨M2, s2, a2, w2⟩ := rs_Mo_broken (d := 9) (M := M1) (x := a) (w := b) (n := n) r2 (by rw [rv_yf w1]; exact r1)
  rw [rv_yf w1] at a2
  obtain ⟨⟨n', j', g⟩, hk⟩ := gr_broken (x := a) hg hb
  refine ⟨M1, M2, _, n', j', T, by omega, hPB, s2, th_sem a2 hk, ?_⟩
  unfold gs
  rw [yv_rf w2, e1, pv_rf w2, pv_yf w1, a2]
  exact g
theorem st_run (hl : l.stackTraces = false) (hg : gs M n j T) (a : Int32) : ∃ M1 M2 k r b9 n' j' T', T' ≤ T + 1 ∧ PB D ad cA l [xS, xA] 79 M [.inr (4, 0), .inl a] k (some r) M1 ∧ ct_Sem 12 60 M1 [.inr (5, 24), .inl a] (some b9, M2) ∧ (k = 0 → r = b9) ∧ ct_Sem 12 33 M2 [.inr (5, 24)] (some k, M2) ∧ gs M2 n' j' T' := by
  obtain ⟨r1, r2, r3, r4⟩ := rd_n hg
  obtain ⟨M1, hPB, e1, w1⟩ := pb_run (D := D) (ad := ad) (cA := cA) hl hg.1.1 (x := a)
  obtain ⟨M2, s2, a2, w2⟩ := rs_Mo_run (d := 6) (M := M1) (x := a) (n := n) (I := IX n j) r2 (fun X hX => (IX_nn hX).1) (fun X i hX hi => IX_one hX hi) (fun X i hX hi => IX_second hX hi) (fun X hX => IX_all hX) (fun p1 p2 => by
    rw [rv_yf w1, thr_2]
    exact ⟨⟨_, T, RL_thr hg.1.1⟩, rz_thr hg.1.2⟩)
  rw [rv_yf w1] at a2 s2
  obtain ⟨⟨n', j', g⟩, hk, hb⟩ := gr_run (x := a) hg
  refine ⟨M1, M2, _, _, _, n', j', T, by omega, hPB, s2, fun z => (hb z).symm, th_sem a2 hk, ?_⟩
  unfold gs
  rw [yv_rf w2, e1, pv_rf w2, pv_yf w1, a2]
  exact g
theorem st_at (hl : l.stackTraces = false) (hg : gs M n j T) (a b : Int32) : ∃ M1 M2 k r b9 n' j' T', T' ≤ T + 1 ∧ PB D ad cA l [xI] 80 M [.inr (4, 0), .inl a, .inl b] k (some r) M1 ∧ ct_Sem 12 61 M1 [.inr (5, 24), .inl a, .inl b] (some b9, M2) ∧ (k = 0 → r = b9) ∧ ct_Sem 12 33 M2 [.inr (5, 24)] (some k, M2) ∧ gs M2 n' j' T' := by
  obtain ⟨r1, r2, r3, r4⟩ := rd_n hg
  have hPB := pb_at (D := D) (ad := ad) (cA := cA) hl hg.1.1 (x := a) (w := b)
  obtain ⟨M2, s2, a2, w2⟩ := rs_Mo_at (d := 9) (M := M) (x := a) (w := b) (n := n) (j := j) r2 r1 r4 r3
  obtain ⟨g, hk, hb⟩ := gr_at (x := a) (w := b) hg
  refine ⟨M, M2, _, _, _, n, j, T, by omega, hPB, s2, fun z => (hb z).symm, th_sem a2 hk, ?_⟩
  unfold gs
  rw [yv_rf w2, pv_rf w2, a2]
  exact g
theorem st_state (hl : l.stackTraces = false) (hg : gs M n j T) (a b : Int32) : ∃ M1 M2 k r b9 n' j' T', T' ≤ T + 1 ∧ PB D ad cA l [xI] 81 M [.inr (4, 0), .inl a, .inl b] k (some r) M1 ∧ ct_Sem 12 62 M1 [.inr (5, 24), .inl a, .inl b] (some b9, M2) ∧ (k = 0 → r = b9) ∧ ct_Sem 12 33 M2 [.inr (5, 24)] (some k, M2) ∧ gs M2 n' j' T' := by
  obtain ⟨r1, r2, r3, r4⟩ := rd_n hg
  have hPB := pb_state (D := D) (ad := ad) (cA := cA) hl hg.1.1 (x := a) (w := b)
  obtain ⟨M2, s2, a2, w2⟩ := rs_Mo_state (d := 9) (M := M) (x := a) (w := b) (j := j) r4 r3
  obtain ⟨g, hk, hb⟩ := gr_state (x := a) (w := b) hg
  refine ⟨M, M2, _, _, _, n, j, T, by omega, hPB, s2, fun z => (hb z).symm, th_sem a2 hk, ?_⟩
  unfold gs
  rw [yv_rf w2, pv_rf w2, a2]
  exact g
theorem st_planned (hl : l.stackTraces = false) (hg : gs M n j T) (a : Int32) : ∃ M1 M2 k r b9 n' j' T', T' ≤ T + 1 ∧ PB D ad cA l [xI] 83 M [.inr (4, 0), .inl a] k (some r) M1 ∧ ct_Sem 12 69 M1 [.inr (5, 24), .inl a] (some b9, M2) ∧ (k = 0 → r = b9) ∧ ct_Sem 12 33 M2 [.inr (5, 24)] (some k, M2) ∧ gs M2 n' j' T' := by
  obtain ⟨m, m4, hm, hm2, -⟩ := hg.2.2.2.2.2.2.2.1
  have hPB := pb_planned (D := D) (ad := ad) (cA := cA) hl hm m4 (k := a)
  obtain ⟨M2, s2, a2, w2⟩ := rs_Mo_planned (d := 10) (M := M) (k := a) (fun m' e h1 h2 => by
    rw [xa_lt] at h1
    rw [← e, hm2, xa_le, nI_toInt (by omega)] at h2
    have e0 : (0 : Int32).toInt = 0 := by decide
    obtain ⟨x1, x2⟩ := ix_int (x := a) (by omega)
    exact ⟨x1, by omega⟩)
  obtain ⟨g, hk, hb⟩ := gr_planned (k := a) hg
  refine ⟨M, M2, _, _, _, n, j, T, by omega, hPB, s2, fun z => (hb z).symm, th_sem a2 hk, ?_⟩
  unfold gs
  rw [yv_rf w2, pv_rf w2, a2]
  exact g
theorem st_plan (hl : l.stackTraces = false) (hg : gs M n j T) (hT : T + 4 < 2 ^ 31) (a : Int32) : ∃ M1 M2 k r b9 n' j' T', T' ≤ T + 1 ∧ PB D ad cA l [xS, xA, xU] 82 M [.inr (4, 0), .inl a] k (some r) M1 ∧ ct_Sem 12 68 M1 [.inr (5, 24), .inl a] (some b9, M2) ∧ (k = 0 → r = b9) ∧ ct_Sem 12 33 M2 [.inr (5, 24)] (some k, M2) ∧ gs M2 n' j' T' := by
  by_cases hc : c_plan (yv 8 M) a = 0
  · have hz : ∀ c, c < 3 → cr (yv 8 M) c 3 = 0 ∨ cr (yv 8 M) c 3 = 1 := fun c h3 => by
      rcases Nat.lt_or_ge c n with z | z
      · exact (hg.1.1.1.2.1 c z).2.1
      · exact Or.inl (hg.2.1 c z h3).1
    obtain ⟨M1, P', hPB, e1, w1, b1, b2⟩ := pb_plan_o (D := D) (ad := ad) (cA := cA) (l := l) hg.1.1 hz hT hg.2.2.2.2.2.2.2.2 hc
    have er := rv_cf w1
    obtain ⟨M2, s2, a2, w2⟩ := m_plan_ref (d := 5) (M := M1) (x := a) (n := n) (j := j) (T := T) (B := yv 8 M) (by rw [er]; exact hg.1.1) (by rw [er]; exact hg.1.2) hT
    rw [er] at a2 s2
    obtain ⟨g, hk, hb⟩ := gr_plan_o hg hT hc b2 b1
    refine ⟨M1, M2, 0, _, _, n, j, T, by omega, hPB, s2, fun _ => hb.symm, th_sem a2 hk, ?_⟩
    unfold gs
    rw [yv_rf w2, cv_fr w1, pv_rf w2, e1, a2]
    exact g
  · have hPB := pb_plan_t (D := D) (ad := ad) (cA := cA) hl hg.1.1 (r := some 0) hc
    obtain ⟨M2, s2, a2, w2⟩ := m_plan_ref (d := 5) (M := M) (x := a) (n := n) (j := j) (T := T) (B := yv 8 M) hg.1.1 hg.1.2 hT
    obtain ⟨g, hk⟩ := gr_plan_t hg hc
    refine ⟨M, M2, _, _, _, n, j, T, by omega, hPB, s2, fun z => absurd z hc, th_sem a2 hk, ?_⟩
    unfold gs
    rw [yv_rf w2, pv_rf w2, a2]
    exact g
theorem st_near (hg : gs M n j T) : ∃ M2 v, ct_Sem 12 0 M [.inr (4, 0)] (some v, M) ∧ ct_Sem 12 63 M [.inr (5, 24)] (some v, M2) ∧ gs M2 n j T := by
  obtain ⟨M2, s2, a2, w2⟩ := rs_Mo_near (d := 11) (M := M)
  obtain ⟨g, hb⟩ := gr_near hg
  rw [hb] at s2
  refine ⟨M2, _, ?_, s2, ?_⟩
  · exact ⟨Nat.le_of_ble_eq_true rfl, [oz 0, oz 0, oz 0], (M, 7, [some (.inr (4, 0))], [.inl (M 8 5)]), _, rfl, ⟨trivial, trivial, trivial, trivial⟩, ⟨_, rfl, rfl⟩⟩
  · unfold gs
    rw [yv_rf w2, pv_rf w2, a2]
    exact g
end ST
