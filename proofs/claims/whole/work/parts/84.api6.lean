/-! run, at, state, near, planned, plan -/
section API6
variable {n j T : Nat} {A : ya} {P X : mm_M}
def cps : Nat → ya → ya
  | 0, A => A
  | k + 1, A => cps k (f_Yd_passSecond A).2
theorem GR_sec (h : GR n j T A P X) (hn : 0 < n) (hk : (sc A 4).toInt + 1 ≤ 100000) : GR n j T (f_Yd_passSecond A).2 P (f_Mo_secondOfAll X).2 ∧ (sc (f_Yd_passSecond A).2 4).toInt = (sc A 4).toInt + 1 := by
  obtain ⟨⟨hR, hz⟩, g3, g4, g5, g6, g7, g8, ⟨m, b1, b2, b3, b4⟩, g10⟩ := h
  obtain ⟨f1, f2, f3, f4⟩ := FB_second hR
  have e1 : (1 : Int32).toInt = 1 := by decide
  have ec : (sc (f_Yd_passSecond A).2 4).toInt = (sc A 4).toInt + 1 := by rw [f4, xa_add (by rw [e1]; omega) (by rw [e1]; omega), e1]
  refine ⟨⟨⟨RL_second hR, (IX_all ⟨⟨A, T, hR⟩, hz⟩).2⟩, fun c k1 k2 => ?_, fun i k1 k2 => ?_, by rw [f3]; exact g5, by rw [ec]; omega, fun _ z => ?_, fun z => absurd z (by omega), ⟨m, b1, b2, (all_row (by decide)).trans b3, fun i hi => (b4 i hi).trans (all_row (by decide)).symm⟩, g10⟩, ec⟩
  · rw [f1 c 3 k1, f1 c 10 k1]; exact g3 c k1 k2
  · rw [f2 i 3 k1, f2 i 4 k1, f2 i 5 k1]; exact g4 i k1 k2
  · rw [z] at ec
    have e0 : (0 : Int32).toInt = 0 := by decide
    omega
theorem GR_run {k : Nat} (hn : 0 < n) (hk : k ≤ 1000) : ∀ (r i : Nat) (A : ya) (X : mm_M), GR n j T A P X → i ≤ k → k < i + r → (sc A 4).toInt + (k - i) ≤ 100000 → GR n j T (cps (k - i) A) P (f_rn r X (nI k) i).2 ∧ (f_rn r X (nI k) i).1 = sc (cps (k - i) A) 4 ∧ (f_rn r X (nI k) i).2 0 0 = X 0 0
  | 0, i, A, X, _, _, hr, _ => absurd hr (by omega)
  | r + 1, i, A, X, h, hi, hr, hc => by
    rw [f_rn]
    by_cases h1 : nI k ≤ nI i
    · rw [if_pos h1]
      have := (nI_leI (by omega) (by omega)).mp h1
      rw [show k - i = 0 by omega]
      exact ⟨h, (rd_s4 h.1.1.2.1).symm, rfl⟩
    · rw [if_neg h1]
      have lt : i < k := nI_sl rfl (by omega) hi h1
      obtain ⟨s1, s2⟩ := GR_sec h hn (by omega)
      obtain ⟨a1, a2, a3⟩ := GR_run hn hk r (i + 1) _ _ s1 lt (by omega) (by rw [s2]; omega)
      rw [show k - i = (k - (i + 1)) + 1 by omega]
      exact ⟨a1, a2, a3.trans (all_row (by decide))⟩
def c_run (A : ya) (x : Int32) : Int32 × ya := if f_Yd_hasTrack A = 0 then (1, A) else if f_Ct_within x 0 1000 = 0 then (2, A) else if sc A 4 + x ≤ 100000 then (0, cps (ix x) A) else (2, A)
theorem gr_run {x : Int32} (h : GR n j T A P X) : (∃ n' j', GR n' j' T (c_run A x).2 P (f_Mo_run X x).2) ∧ (f_Mo_run X x).2 0 0 = (c_run A x).1 ∧ ((c_run A x).1 = 0 → (f_Mo_run X x).1 = sc (c_run A x).2 4) := by
  have hr := h.1.1
  have bad : ∀ p1 p2 : Int32, ∀ c : Int32, thrw p1 p2 0 0 = c → ¬ c = 0 → (∃ n' j', GR n' j' T A P (f_rn42 X x p2 p1).2) ∧ (f_rn42 X x p2 p1).2 0 0 = c ∧ (c = 0 → (f_rn42 X x p2 p1).1 = sc A 4) := fun p1 p2 c hc h0 => by
    unfold f_rn42
    rw [thr_1, thr_2, hc, if_neg h0, if_neg (by decide)]
    exact ⟨⟨n, j, GR_thr h⟩, mm_up_at X 0 0 _, fun z => absurd z h0⟩
  have b12 : ∀ p2 : Int32, thrw 1 p2 0 0 = 1 := fun p2 => by unfold thrw; rw [if_neg (by decide)]
  unfold c_run f_Mo_run f_rn13
  rw [in_eq]
  by_cases h0 : f_Yd_hasTrack A = 0
  · rw [if_pos h0, if_pos ((n_pos2 hr).mpr ((hasT hr).mp h0))]
    split
    · exact bad 1 1 1 (b12 1) (by decide)
    · split
      · exact bad 1 0 1 (b12 0) (by decide)
      · exact bad 1 1 1 (b12 1) (by decide)
  · have n0 : ¬ n = 0 := fun z => h0 ((hasT hr).mpr z)
    rw [if_neg h0, if_neg (fun z => n0 ((n_pos2 hr).mp z))]
    by_cases q1 : f_Mo_in x 0 1000 = 0
    · rw [if_pos q1, if_pos q1]; exact bad 0 1 2 (by decide) (by decide)
    · rw [if_neg q1, if_neg q1, rd_s4 hr.2.1]
      by_cases q2 : X 3 0 + x ≤ 100000
      · rw [if_pos q2, if_pos q2]
        unfold f_rn42
        have t0 : thrw 0 0 0 0 = 0 := by decide
        rw [thr_1, thr_2, t0, if_pos rfl, if_pos rfl]
        rw [in_0, Classical.not_not] at q1
        have e0 : (0 : Int32).toInt = 0 := by decide
        have e3 : (1000 : Int32).toInt = 1000 := by decide
        have e5 : (100000 : Int32).toInt = 100000 := by decide
        rw [e0, e3] at q1
        obtain ⟨ex, ex2⟩ := ix_int (x := x) q1.1
        have hk : ix x ≤ 1000 := by omega
        have hc := h.2.2.2.2.1
        rw [← rd_s4 hr.2.1, xa_le, xa_add (by omega) (by omega), e5] at q2
        have key := GR_run (by omega) hk 1001 0 A (mm_up X 0 0 0) (GR_thr h) (Nat.zero_le _) (by omega) (by omega)
        rw [← ex, Nat.sub_zero] at key
        exact ⟨⟨n, j, key.1⟩, key.2.2.trans (mm_up_at X 0 0 _), fun _ => key.2.1⟩
      · rw [if_neg q2, if_neg q2]; exact bad 0 1 2 (by decide) (by decide)
/-! at -/
theorem sub_len : ∀ (l1 l2 : List Nat), l1.Nodup → (∀ x ∈ l1, x ∈ l2) → l1.length ≤ l2.length
  | [], _, _, _ => Nat.zero_le _
  | x :: l1, l2, hd, hm => by
    rw [List.nodup_cons] at hd
    have hx := hm x List.mem_cons_self
    have := sub_len l1 (l2.erase x) hd.2 (fun y hy => (List.mem_erase_of_ne (fun e => hd.1 (by rw [← e]; exact hy))).mpr (hm y (List.mem_cons_of_mem _ hy)))
    rw [List.length_erase_of_mem hx] at this
    have hp : 0 < l2.length := List.length_pos_of_mem hx
    rw [List.length_cons]
    omega
def gvl (X : mm_M) (x : Int32) (i : Nat) : List Nat := (List.range i).filter (fun q => decide (f_Mo_ofJob X q 3 = 1 ∧ f_Mo_ofJob X q 4 = x))
theorem gvl_S {x : Int32} {i : Nat} : (gvl X x (i + 1)).length = (gvl X x i).length + if f_Mo_ofJob X i 3 = 1 ∧ f_Mo_ofJob X i 4 = x then 1 else 0 := by
  unfold gvl
  rw [List.range_succ, List.filter_append, List.length_append]
  by_cases z : f_Mo_ofJob X i 3 = 1 ∧ f_Mo_ofJob X i 4 = x
  · rw [if_pos z]; simp [z]
  · rw [if_neg z]
    have : decide (f_Mo_ofJob X i 3 = 1 ∧ f_Mo_ofJob X i 4 = x) = false := decide_eq_false z
    rw [List.filter_cons, this]
    rfl
theorem fat_spec {x w : Int32} (hj : X 0 5 = nI j) (h8 : j ≤ 8) : ∀ (r i : Nat), i ≤ j → j < i + r → f_at r X x w (gvl X x i).length i = (nI (gvl X x j).length, X)
  | 0, i, _, h => absurd h (by omega)
  | r + 1, i, hi, hr => by
    rw [f_at]
    by_cases h1 : X 0 5 ≤ nI i
    · rw [if_pos h1]
      have e : i = j := by
        rw [hj] at h1
        have := (nI_leI (by omega) (by omega)).mp h1
        omega
      rw [e]
    · rw [if_neg h1]
      have lt : i < j := nI_sl hj (by omega) hi h1
      have ih := fat_spec (x := x) (w := w) hj h8 r (i + 1) lt (by omega)
      rw [gvl_S] at ih
      by_cases z1 : f_Mo_ofJob X i 3 = 1
      · rw [if_pos z1]
        by_cases z2 : f_Mo_ofJob X i 4 = x
        · rw [if_pos ⟨z1, z2⟩] at ih
          rw [if_pos z2]; exact ih
        · rw [if_neg (fun z => z2 z.2)] at ih
          rw [if_neg z2]; exact ih
      · rw [if_neg (fun z => z1 z.1)] at ih
        rw [if_neg z1]; exact ih
theorem cnt_eq (h : RL n j T A X) {c : Nat} (hc : c < n) : cr A c 10 = nI (gvl X (nI c) j).length := by
  have hj8 := h.1.1.2.1
  obtain ⟨⟨m, m8, hm⟩, kd, km, kb⟩ := h.1.2.2.2.2.1 c hc
  rw [hm]
  have hl : (qs A c).length = m := by rw [qs_of hm]; simp
  have hnd : ((qs A c).map ix).Nodup := by
    rw [List.nodup_iff_pairwise_ne] at kd ⊢
    rw [List.pairwise_map]
    refine List.Pairwise.imp_of_mem (fun {a b} ha hb hab => ?_) kd
    exact fun e => hab (by rw [(km a ha).1.1, (km b hb).1.1, e])
  have hg : (gvl X (nI c) j).Nodup := List.Pairwise.filter _ List.nodup_range
  have hmem : ∀ q, q ∈ gvl X (nI c) j ↔ q < j ∧ jb A q 3 = 1 ∧ jb A q 4 = nI c := fun q => by
    unfold gvl
    rw [List.mem_filter, List.mem_range, decide_eq_true_iff]
    constructor
    · rintro ⟨a, b⟩
      rw [← rd_j h.2.1 a (by decide), ← rd_j h.2.1 a (by decide)] at b
      exact ⟨a, b⟩
    · rintro ⟨a, b⟩
      rw [← rd_j h.2.1 a (by decide), ← rd_j h.2.1 a (by decide)]
      exact ⟨a, b⟩
  have l1 : ((qs A c).map ix).length ≤ (gvl X (nI c) j).length := sub_len _ _ hnd (fun q hq => by
    obtain ⟨x, hx, rfl⟩ := List.mem_map.mp hq
    exact (hmem _).mpr ⟨(km x hx).1.2, (km x hx).2⟩)
  have l2 : (gvl X (nI c) j).length ≤ ((qs A c).map ix).length := sub_len _ _ hg (fun q hq => by
    obtain ⟨a, b1, b2⟩ := (hmem q).mp hq
    exact List.mem_map.mpr ⟨nI q, kb q a b1 b2, ix_nI (by omega)⟩)
  rw [List.length_map, hl] at l1 l2
  rw [Nat.le_antisymm l1 l2]
def c_at (A : ya) (x w : Int32) : Int32 × Int32 := if f_Ct_within x 0 (sc A 0 - 1) = 0 then (1, 0) else if w = 0 then (0, cr A (ix x) 0) else if w = 1 then (0, cr A (ix x) 4) else if w = 2 then (0, cr A (ix x) 10) else if w = 3 then (0, se A (ix x) 0) else if w = 4 then (0, se A (ix x) 1) else if w = 5 then (0, se A (ix x) 2) else if w = 6 then (0, se A (ix x) 3) else if w = 7 then (0, cr A (ix x) 5) else (1, 0)
theorem gr_at {x w : Int32} (h : GR n j T A P X) : GR n j T A P (f_Mo_at X x w).2 ∧ (f_Mo_at X x w).2 0 0 = (c_at A x w).1 ∧ ((c_at A x w).1 = 0 → (f_Mo_at X x w).1 = (c_at A x w).2) := by
  have hr := h.1.1
  have h5 : X 0 5 = nI j := (rd_s6 hr.2.1).symm.trans hr.1.1.2.2.2.1
  have hj8 := hr.1.1.2.1
  have bad : ∀ a : Int32, GR n j T A P (f_at24 X x w 1).2 ∧ (f_at24 X x w 1).2 0 0 = 1 ∧ ((1 : Int32) = 0 → (f_at24 X x w 1).1 = a) := fun a => by
    unfold f_at24
    have t1 : thrw 1 0 0 0 = 1 := by decide
    rw [thr_1, thr_2, t1, if_neg (by decide)]
    exact ⟨GR_thr h, mm_up_at X 0 0 _, fun z => absurd z (by decide)⟩
  have oc0 : ∀ c k, f_Mo_ofCrane (mm_up X 0 0 0) c k = f_Mo_ofCrane X c k := fun c k => by
    show mm_up X 0 0 0 3 _ = X 3 _
    simp [mm_up]
  unfold c_at f_Mo_at
  rw [isC_eq hr]
  by_cases q1 : f_Ct_within x 0 (sc A 0 - 1) = 0
  · rw [if_pos q1, if_pos q1]; exact bad 0
  · rw [if_neg q1, if_neg q1]
    obtain ⟨ex, lx⟩ := (c_ok hr).mp q1
    have t0 : thrw 0 0 0 0 = 0 := by decide
    have e24 : f_at24 X x w 0 = (if 2 ≤ w then (if w = 7 then (f_Mo_ofCrane X (ix x) 1, mm_up X 0 0 0) else (if w ≤ 2 then (f_at 9 (mm_up X 0 0 0) x w 0 0) else (f_Mo_ofCrane X (ix x) (ix w + 1), mm_up X 0 0 0))) else (if w = 0 then (f_Mo_ofCrane X (ix x) 0, mm_up X 0 0 0) else (f_Mo_ofCrane X (ix x) 2, mm_up X 0 0 0))) := by
      unfold f_at24
      rw [thr_1, thr_2, t0, if_pos rfl, if_pos rfl]
      simp only [oc0]
    have gm : GR n j T A P (mm_up X 0 0 0) ∧ mm_up X 0 0 0 0 0 = 0 := ⟨GR_thr h, mm_up_at X 0 0 _⟩
    by_cases z0 : w = 0
    · subst z0
      rw [if_neg (by decide), e24, if_pos rfl, if_neg (by decide), if_pos rfl]
      exact ⟨gm.1, gm.2, fun _ => (rd_c0 hr.2.1 lx).symm⟩
    · rw [if_neg z0]
      by_cases z1 : w = 1
      · subst z1
        rw [if_neg (by decide), e24, if_pos rfl, if_neg (by decide), if_neg (by decide)]
        exact ⟨gm.1, gm.2, fun _ => (rd_c4 hr.2.1 lx).symm⟩
      · rw [if_neg z1]
        by_cases z2 : w = 2
        · subst z2
          rw [if_neg (by decide), e24, if_pos rfl, if_pos (by decide), if_neg (by decide), if_pos (by decide)]
          have e5 : mm_up X 0 0 0 0 5 = nI j := (by simp [mm_up] : mm_up X 0 0 0 0 5 = X 0 5).trans h5
          have fs := fat_spec (X := mm_up X 0 0 0) (x := x) (w := 2) e5 hj8 9 0 (Nat.zero_le _) (by omega)
          rw [show (gvl (mm_up X 0 0 0) x 0).length = 0 from rfl] at fs
          rw [fs]
          refine ⟨gm.1, gm.2, fun _ => ?_⟩
          have := cnt_eq (RL_thr (v := 0) hr) lx
          rw [← ex] at this
          exact this.symm
        · rw [if_neg z2]
          by_cases z3 : w = 3
          · subst z3
            rw [if_neg (by decide), e24, if_pos rfl, if_pos (by decide), if_neg (by decide), if_neg (by decide)]
            exact ⟨gm.1, gm.2, fun _ => (rd_e hr.2.1 lx (k := 0) (by decide)).symm⟩
          · rw [if_neg z3]
            by_cases z4 : w = 4
            · subst z4
              rw [if_neg (by decide), e24, if_pos rfl, if_pos (by decide), if_neg (by decide), if_neg (by decide)]
              exact ⟨gm.1, gm.2, fun _ => (rd_e hr.2.1 lx (k := 1) (by decide)).symm⟩
            · rw [if_neg z4]
              by_cases z5 : w = 5
              · subst z5
                rw [if_neg (by decide), e24, if_pos rfl, if_pos (by decide), if_neg (by decide), if_neg (by decide)]
                exact ⟨gm.1, gm.2, fun _ => (rd_e hr.2.1 lx (k := 2) (by decide)).symm⟩
              · rw [if_neg z5]
                by_cases z6 : w = 6
                · subst z6
                  rw [if_neg (by decide), e24, if_pos rfl, if_pos (by decide), if_neg (by decide), if_neg (by decide)]
                  exact ⟨gm.1, gm.2, fun _ => (rd_e hr.2.1 lx (k := 3) (by decide)).symm⟩
                · rw [if_neg z6]
                  by_cases z7 : w = 7
                  · subst z7
                    rw [if_neg (by decide), e24, if_pos rfl, if_pos (by decide), if_pos (by decide)]
                    exact ⟨gm.1, gm.2, fun _ => (rd_c5 hr.2.1 lx).symm⟩
                  · rw [if_neg z7, if_pos]
                    · exact bad 0
                    · rw [in_0]
                      intro z
                      have e0 : (0 : Int32).toInt = 0 := by decide
                      have e7 : (7 : Int32).toInt = 7 := by decide
                      have ne : ∀ k : Int32, w ≠ k → w.toInt ≠ k.toInt := fun k hk e => hk (xa_eq.mpr e)
                      have a0 := ne 0 z0
                      have a1 := ne 1 z1
                      have a2 := ne 2 z2
                      have a3 := ne 3 z3
                      have a4 := ne 4 z4
                      have a5 := ne 5 z5
                      have a6 := ne 6 z6
                      have a7 := ne 7 z7
                      have e1 : (1 : Int32).toInt = 1 := by decide
                      have e2 : (2 : Int32).toInt = 2 := by decide
                      have e3 : (3 : Int32).toInt = 3 := by decide
                      have e4 : (4 : Int32).toInt = 4 := by decide
                      have e5 : (5 : Int32).toInt = 5 := by decide
                      have e6 : (6 : Int32).toInt = 6 := by decide
                      omega
/-! state -/
def c_state (A : ya) (x w : Int32) : Int32 × Int32 := if f_Ct_within x 0 (sc A 6 - 1) = 0 then (1, 0) else if w = 0 then (0, jb A (ix x) 3) else if w = 1 then (0, jb A (ix x) 4) else if w = 2 then (0, jb A (ix x) 5) else (1, 0)
theorem gr_state {x w : Int32} (h : GR n j T A P X) : GR n j T A P (f_Mo_state X x w).2 ∧ (f_Mo_state X x w).2 0 0 = (c_state A x w).1 ∧ ((c_state A x w).1 = 0 → (f_Mo_state X x w).1 = (c_state A x w).2) := by
  have hr := h.1.1
  have t1 : thrw 1 0 0 0 = 1 := by decide
  have t0 : thrw 0 0 0 0 = 0 := by decide
  have oj0 : ∀ c k, f_Mo_ofJob (mm_up X 0 0 0) c k = f_Mo_ofJob X c k := fun c k => by
    show mm_up X 0 0 0 3 _ = X 3 _
    simp [mm_up]
  unfold c_state f_Mo_state
  rw [isJ_eq hr, thr_1, thr_2, thr_2, t1, t0, if_pos rfl]
  have bad : GR n j T A P (mm_up X 0 0 1) ∧ mm_up X 0 0 1 0 0 = 1 := ⟨GR_thr h, mm_up_at X 0 0 _⟩
  have gm : GR n j T A P (mm_up X 0 0 0) ∧ mm_up X 0 0 0 0 0 = 0 := ⟨GR_thr h, mm_up_at X 0 0 _⟩
  by_cases q1 : f_Ct_within x 0 (sc A 6 - 1) = 0
  · rw [if_pos q1, if_pos q1]; exact ⟨bad.1, bad.2, fun z => absurd z (by decide)⟩
  · rw [if_neg q1, if_neg q1]
    obtain ⟨ex, lx⟩ := (j_ok hr).mp q1
    have ne : ∀ k : Int32, w ≠ k → w.toInt ≠ k.toInt := fun k hk e => hk (xa_eq.mpr e)
    have e0 : (0 : Int32).toInt = 0 := by decide
    have e1 : (1 : Int32).toInt = 1 := by decide
    have e2 : (2 : Int32).toInt = 2 := by decide
    by_cases z0 : w = 0
    · have hin : ¬ f_Mo_in w 0 2 = 0 := by rw [z0]; decide
      simp only [if_neg hin, if_pos z0]
      exact ⟨gm.1, gm.2, fun _ => (oj0 _ _).trans (rd_j hr.2.1 lx (by decide)).symm⟩
    · by_cases z1 : w = 1
      · have hin : ¬ f_Mo_in w 0 2 = 0 := by rw [z1]; decide
        simp only [if_neg hin, if_neg z0, if_pos z1]
        exact ⟨gm.1, gm.2, fun _ => (oj0 _ _).trans (rd_j hr.2.1 lx (by decide)).symm⟩
      · by_cases z2 : w = 2
        · have hin : ¬ f_Mo_in w 0 2 = 0 := by rw [z2]; decide
          simp only [if_neg hin, if_neg z0, if_neg z1, if_pos z2]
          exact ⟨gm.1, gm.2, fun _ => (oj0 _ _).trans (rd_j hr.2.1 lx (by decide)).symm⟩
        · have hin : f_Mo_in w 0 2 = 0 := by
            rw [in_0]
            intro z
            have a0 := ne 0 z0
            have a1 := ne 1 z1
            have a2 := ne 2 z2
            omega
          simp only [if_pos hin, if_neg z0, if_neg z1, if_neg z2]
          exact ⟨bad.1, bad.2, fun z => absurd z (by decide)⟩
theorem gr_near (h : GR n j T A P X) : GR n j T A P (f_Mo_near X).2 ∧ (f_Mo_near X).1 = sc A 5 := by
  unfold f_Mo_near
  exact ⟨GR_thr h, (by simp [mm_up] : mm_up X 0 0 0 3 1 = X 3 1).trans (rd_s5 h.1.1.2.1).symm⟩
def c_planned (P : mm_M) (k : Int32) : Int32 × Int32 := if 0 ≤ k then (0, f_Pl_bestGiving P k) else (1, 0)
theorem gr_planned {k : Int32} (h : GR n j T A P X) : GR n j T A P (f_Mo_planned X k).2 ∧ (f_Mo_planned X k).2 0 0 = (c_planned P k).1 ∧ ((c_planned P k).1 = 0 → (f_Mo_planned X k).1 = (c_planned P k).2) := by
  have t1 : thrw 1 0 0 0 = 1 := by decide
  have t0 : thrw 0 0 0 0 = 0 := by decide
  obtain ⟨m, b1, b2, b3, b4⟩ := h.2.2.2.2.2.2.2.1
  unfold c_planned f_Mo_planned
  rw [thr_1, thr_2, thr_2, t1, t0, if_pos rfl]
  by_cases q1 : 0 ≤ k
  · rw [if_pos q1, if_pos q1, if_pos rfl]
    have e12 : mm_up X 0 0 0 0 12 = nI m := (by simp [mm_up] : mm_up X 0 0 0 0 12 = X 0 12).trans b3
    rw [e12]
    unfold f_Pl_bestGiving
    rw [b2, in_eq]
    have hin := in_ok (x := k) (show m < 100 by omega)
    rw [xa_le] at q1
    have e0 : (0 : Int32).toInt = 0 := by decide
    obtain ⟨ek, ek2⟩ := ix_int (x := k) (by omega)
    by_cases q2 : nI m ≤ k
    · rw [if_pos q2, if_pos]
      · exact ⟨GR_thr h, mm_up_at X 0 0 _, fun _ => rfl⟩
      · refine Classical.byContradiction fun z => ?_
        have := (hin.mp z).2
        rw [xa_le, nI_toInt (by omega)] at q2
        omega
    · rw [if_neg q2]
      rw [xa_le, nI_toInt (by omega)] at q2
      rw [if_neg (hin.mpr ⟨ek, by omega⟩)]
      exact ⟨GR_thr h, mm_up_at X 0 0 _, fun _ => (by simp [mm_up] : mm_up X 0 0 0 6 (ix k) = X 6 (ix k)).trans (b4 (ix k) (by omega)).symm⟩
  · rw [if_neg q1, if_neg q1]
    exact ⟨GR_thr h, mm_up_at X 0 0 _, fun z => absurd z (by decide)⟩
/-! plan -/
def c_plan (A : ya) (x : Int32) : Int32 := if f_Yd_hasTrack A = 0 then 1 else if f_Ct_within x 1 300 = 0 then 2 else if f_Yd_countFree A ≤ 4 then 0 else 3
theorem rpT_e {x : Int32} (h : RL n j T A X) : rp_T X x j = (if c_plan A x = 0 then 0 else 1, mm_up X 0 0 (c_plan A x)) := by
  unfold rp_T c_plan
  rw [thr_eq, free_eq h, in_eq]
  have key : thrw (if X 0 1 = 0 then 1 else 0) (if f_Mo_in x 1 300 = 0 then 1 else 0) (if nI (rp_cf X j) ≤ 4 then 0 else 1) 0 = if f_Yd_hasTrack A = 0 then 1 else if f_Mo_in x 1 300 = 0 then 2 else if nI (rp_cf X j) ≤ 4 then 0 else 3 := by
    by_cases h0 : f_Yd_hasTrack A = 0
    · rw [if_pos h0, if_pos ((n_pos2 h).mpr ((hasT h).mp h0))]
      unfold thrw
      rw [if_neg (by decide)]
    · rw [if_neg h0, if_neg (fun z => h0 ((hasT h).mpr ((n_pos2 h).mp z)))]
      by_cases h1 : f_Mo_in x 1 300 = 0
      · rw [if_pos h1, if_pos h1]
        unfold thrw
        rw [if_pos rfl, if_neg (by decide)]
      · rw [if_neg h1, if_neg h1]
        by_cases h2 : nI (rp_cf X j) ≤ 4
        · rw [if_pos h2, if_pos h2]; decide
        · rw [if_neg h2, if_neg h2]; decide
  rw [key]
theorem gr_plan_t {x : Int32} (h : GR n j T A P X) (hc : ¬ c_plan A x = 0) : GR n j T A P (f_Mo_plan X x j).2 ∧ (f_Mo_plan X x j).2 0 0 = c_plan A x := by
  have e := rpT_e (x := x) h.1.1
  rw [if_neg hc] at e
  have e2 : f_Mo_plan X x j = (0, mm_up X 0 0 (c_plan A x)) := by
    unfold f_Mo_plan
    rw [e, if_neg (show ¬ (1 : Int32) = 0 by decide)]
  rw [e2]
  exact ⟨GR_thr h, mm_up_at X 0 0 _⟩
theorem gr_plan_o {x : Int32} {P' : mm_M} (h : GR n j T A P X) (hT : T + 4 < 2 ^ 31) (hc : c_plan A x = 0) (hC : CR (rp_cf X j) (ix x) (ss_go (10 * j) (fun w => finA (ix x) (w.foldl hnd A)) (mayb n A) (rp_cf X j) [] none) P') (h1 : ∀ i, i < 8 → P' 1 i = 0) : GR n j T A P' (f_Mo_plan X x j).2 ∧ (f_Mo_plan X x j).2 0 0 = 0 ∧ (f_Mo_plan X x j).1 = P' 0 7 := by
  have e := rpT_e (x := x) h.1.1
  rw [if_pos hc] at e
  obtain ⟨p1, p2, p3, p4, p5, p6⟩ := plan_ref h.1.1 hT (show (rp_T X x j).1 = 0 by rw [e])
  obtain ⟨c1, c2⟩ := CR_RR hC p6 p1
  rw [p4]
  have g := GR_thr (v := 0) h
  obtain ⟨⟨hR, hz⟩, g3, g4, g5, g6, g7, g8, -, -⟩ := g
  refine ⟨⟨⟨RL_sw hR p5, rz_sw hz p5⟩, g3, g4, g5, g6, g7, fun z => ⟨(g8 z).1, fun c hc3 => ?_⟩, c2, h1⟩, (p5.1 0 (by decide)).trans (mm_up_at X 0 0 _), c1.symm⟩
  obtain ⟨a1, a2, a3, a4, a5⟩ := (g8 z).2 c hc3
  exact ⟨a1, (p5.2.1 c).trans a2, (sw_c p5 hc3 (by decide)).trans a3, (sw_c p5 hc3 (by decide)).trans a4, fun k hk => (sw_c p5 hc3 (by omega)).trans (a5 k hk)⟩
end API6
