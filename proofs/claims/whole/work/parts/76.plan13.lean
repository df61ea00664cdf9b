/-! THE REFERENCE'S plan IN THE MACHINE -/
section MPLAN
variable {n j T : Nat} {B : ya} {X0 X : mm_M} {f t : Nat}
/-- what holds at depth k of the reference's search -/
def RV (n j : Nat) (B : ya) (X0 : mm_M) (k : Nat) (X : mm_M) : Prop := sw X0 X ∧ ∃ w, w.length = k ∧ ss_ext (10 * j) (mayb n B) [] w ∧ rowl (X 5) 0 w
theorem RV_H (h : RL n j T B X0) (hT : T + 4 < 2 ^ 31) (h4 : f ≤ 4) (ht : t ≤ 300) : rp_H (RV n j B X0) t f n j := by
  have h8 := h.1.1.2.1
  refine ⟨⟨h4, h.1.1.1, h8⟩, fun k X hX => ?_, ?_, ?_, ?_, ?_, ?_, ?_⟩
  · have := RL_sw h hX.1
    exact ⟨(rd_s0 this.2.1).symm.trans h.1.1.2.2.1, (rd_s6 this.2.1).symm.trans h.1.1.2.2.2.1⟩
  · rintro k X i v ⟨h1, w, h2, h3, h5⟩ hk hi
    exact ⟨sw_up h1 (Or.inl (by decide)), w, h2, h3, rowl_congr _ _ (fun q _ hq => by simp [mm_up]; omega) h5⟩
  · rintro k X v ⟨h1, w, h2, h3, h5⟩
    exact ⟨sw_up h1 (Or.inr ⟨rfl, rfl⟩), w, h2, h3, rowl_congr _ _ (fun q _ hq => by simp [mm_up]) h5⟩
  · rintro k X i v ⟨h1, w, h2, h3, h5⟩
    exact ⟨sw_up h1 (Or.inl (by decide)), w, h2, h3, rowl_congr _ _ (fun q _ hq => by simp [mm_up]) h5⟩
  · rintro k X ⟨h1, w, h2, h3, h5⟩
    rcases List.eq_nil_or_concat w with rfl | ⟨w0, u, rfl⟩
    · cases h2
    · rw [List.concat_eq_append] at h2 h3 h5
      rw [List.length_append] at h2
      exact ⟨h1, w0, by simp at h2; exact h2, ((ss_ext_app w0 _ []).mp h3).1, ((rowl_app w0 _ 0).mp h5).1⟩
  · rintro k X ⟨h1, w, h2, h3, h5⟩ hk hx hm
    subst h2
    obtain ⟨e, lt⟩ := hx
    have := (may_iff (RL_sw h h1) lt h3 (by omega) h5 e).mp hm
    refine ⟨h1, w ++ [ix (X 5 w.length)], by simp, (ss_ext_app w _ []).mpr ⟨h3, lt, this, trivial⟩, ?_⟩
    rw [rowl_app, Nat.zero_add]
    exact ⟨h5, e, trivial⟩
  · rintro X ⟨h1, w, h2, h3, h5⟩
    obtain ⟨s1, s2, s3⟩ := secondsOf_spec (RL_sw h h1) (ext_VW.mp h3) hT h2 h4 ht h5
    exact ⟨⟨sw_tr h1 ⟨fun q _ => s2 0 q (by decide) (by decide), fun q => s2 1 q (by decide) (by decide), fun q => s2 2 q (by decide) (by decide), s3⟩, w, h2, h3, rowl_congr _ _ (fun k _ _ => s2 5 k (by decide) (by decide)) h5⟩, fun i => s2 5 i (by decide) (by decide)⟩
theorem RV_sec {d : Nat} {M : mm_M} (h : RL n j T B X0) (hz : rz n X0) (hT : T + 4 < 2 ^ 31) (h4 : f ≤ 4) (ht : t ≤ 300) (hV : RV n j B X0 f (rv M)) : RS (d + 6) 65 M [.inr (5, 24), .inl (nI f), .inl (nI t)] (some (f_Mo_secondsOf (rv M) f t).1) (f_Mo_secondsOf (rv M) f t).2 := by
  obtain ⟨h1, w, h2, h3, h5⟩ := hV
  have h8 := h.1.1.2.1
  have hV := ext_VW.mp h3
  refine rs_Mo_secondsOf (n := n) (j := j) (I := IX n j) (P := fun i X => rz n X ∧ rowl (X 5) 0 w ∧ ∃ a b A' T', w = a ++ b ∧ a.length = i ∧ RL n j T' A' X ∧ VW n j A' b ∧ T' + b.length < 2 ^ 31) (K := fun i X => sw (rv M) X ∧ rowl (X 5) 0 w) h.1.1.1 (fun X hX => (IX_nn hX).1) (fun X i hX hi => IX_one hX hi) (fun X i hX hi => IX_second hX hi) (fun X hX => IX_all hX) (fun X hX => (IX_j hX).1) h8 ?_ ?_ ?_ h4 ht ?_ ?_ ⟨sw_rf, h5⟩
  · rintro i X ⟨hz, h5, a, b, A', T', hab, ha, hR, hb, hT'⟩ hi
    cases b with
    | nil =>
      rw [List.append_nil] at hab
      subst hab
      omega
    | cons v b =>
      have h5' := h5
      rw [hab, rowl_app, Nat.zero_add, ha] at h5'
      have e : X 5 i = nI v := h5'.2.1
      have v80 : v < 80 := by have := (hb.1 v List.mem_cons_self).1; omega
      rw [List.length_cons] at hT'
      rw [e, ix_nI (by omega)]
      exact ⟨rz_gvt hz, rowl_congr _ _ (fun k _ _ => gvt_row (by decide)) h5, a ++ [v], b, hnd A' v, T' + 1, by rw [hab]; simp, by simp [ha], RL_hnd hR (hb.1 v List.mem_cons_self) (by omega), VW_tail hR.1 hb, by omega⟩
  · rintro X ⟨hz, -, a, b, A', T', -, -, hR, -⟩
    exact ⟨⟨A', T', hR⟩, hz⟩
  · rintro i X ⟨hz, h5, a, b, A', T', hab, ha, hR, hb, hT'⟩ hi
    cases b with
    | nil =>
      rw [List.append_nil] at hab
      subst hab
      omega
    | cons v b =>
      have h5' := h5
      rw [hab, rowl_app, Nat.zero_add, ha] at h5'
      exact okx_of h5'.2.1 (by have := (hb.1 v List.mem_cons_self).1; omega) (by decide)
  · rintro i X ⟨a, b⟩ hi
    exact ⟨sw_up a (Or.inl (by decide)), rowl_congr _ _ (fun k _ _ => by simp [mm_up]) b⟩
  · rintro X ⟨a, b⟩
    have hs := sw_tr h1 a
    exact ⟨rz_sw hz hs, b, [], w, B, T, rfl, rfl, RL_sw h hs, hV, by omega⟩
theorem RL_thr {A : ya} {v : Int32} (h : RL n j T A X) : RL n j T A (mm_up X 0 0 v) := by
  refine ⟨h.1, h.2.1.trans (vx_ext h.1.1.1 (fun q h1 _ => by simp only [mm_up]; rw [if_neg (by omega)]) (fun _ _ => by simp [mm_up]) (fun _ _ => by simp [mm_up]) (fun q _ _ => by simp [mm_up])).symm, (by simp [mm_up] : mm_up X 0 0 v 3 2 = X 3 2).trans h.2.2.1, h.2.2.2.1, h.2.2.2.2⟩
theorem rz_thr {v : Int32} (h : rz n X) : rz n (mm_up X 0 0 v) := fun q h1 h2 => (show mm_up X 0 0 v 3 _ = X 3 _ by simp [mm_up]).trans (h q h1 h2)
theorem thr_no {p1 p2 p3 p4 : Int32} : f_thr X p1 p2 p3 p4 0 = (0, mm_up X 0 0 0) := by
  unfold f_thr
  rw [mm_up_at, if_pos (by decide)]
theorem thr_yes {p1 p2 p3 p4 t : Int32} (ht : ¬ t ≤ 0) : f_thr X p1 p2 p3 p4 t = (1, mm_up X 0 0 t) := by
  unfold f_thr
  rw [mm_up_at, if_neg ht]
def thrw (p1 p2 p3 p4 : Int32) : Int32 := if p1 = 0 then if p2 = 0 then if p3 = 0 then if p4 = 0 then 0 else 4 else 3 else 2 else 1
theorem thr_eq (p1 p2 p3 p4 : Int32) : f_Mo_throwing X p1 p2 p3 p4 = (if thrw p1 p2 p3 p4 = 0 then 0 else 1, mm_up X 0 0 (thrw p1 p2 p3 p4)) := by
  unfold f_Mo_throwing thrw
  by_cases h1 : p1 = 0
  · rw [if_pos h1, if_pos h1]
    by_cases h2 : p2 = 0
    · rw [if_pos h2, if_pos h2]
      by_cases h3 : p3 = 0
      · rw [if_pos h3, if_pos h3]
        by_cases h4 : p4 = 0
        · rw [if_pos h4, if_pos h4, thr_no]; rfl
        · rw [if_neg h4, if_neg h4, thr_yes (by decide)]; rfl
      · rw [if_neg h3, if_neg h3, thr_yes (by decide)]; rfl
    · rw [if_neg h2, if_neg h2, thr_yes (by decide)]; rfl
  · rw [if_neg h1, if_neg h1, thr_yes (by decide)]; rfl
theorem free_spec {A : ya} {j : Nat} (hj : sc A 6 = nI j) (h8 : j ≤ 8) (hv : ∀ i, i < j → jb A i 3 = f_Mo_ofJob X i 3) : ∀ (r i : Nat), i ≤ j → j < i + r → f_free r A (rp_cf X i) i = nI (rp_cf X j)
  | 0, i, _, h => absurd h (by omega)
  | r + 1, i, hi, hr => by
    rw [f_free]
    by_cases h1 : sc A 6 ≤ nI i
    · rw [if_pos h1]
      have e : i = j := by
        rw [hj] at h1
        have := (nI_leI (by omega) (by omega)).mp h1
        omega
      rw [e]
    · rw [if_neg h1]
      have lt : i < j := nI_sl hj (by omega) hi h1
      have ih := free_spec hj h8 hv r (i + 1) lt (by omega)
      rw [rp_cf] at ih
      rw [hv i lt]
      by_cases z : f_Mo_ofJob X i 3 = 0
      · rw [if_pos z] at ih ⊢; exact ih
      · rw [if_neg z] at ih ⊢; exact ih
theorem free_eq (h : RL n j T B X) : f_Yd_countFree B = nI (rp_cf X j) := free_spec h.1.1.2.2.2.1 h.1.1.2.1 (fun i hi => rd_j h.2.1 hi (by decide)) 9 0 (Nat.zero_le _) (by have := h.1.1.2.1; omega)
theorem rp_H_and {V : Nat → mm_M → Prop} {p : Prop} (hp : p) (h : rp_H V t f n j) : rp_H (fun k X => p ∧ V k X) t f n j :=
  ⟨h.1, fun k X hX => h.2.1 k X hX.2, fun k X i v hX a b => ⟨hp, h.2.2.1 k X i v hX.2 a b⟩, fun k X v hX => ⟨hp, h.2.2.2.1 k X v hX.2⟩, fun k X i v hX => ⟨hp, h.2.2.2.2.1 k X i v hX.2⟩, fun k X hX => ⟨hp, h.2.2.2.2.2.1 k X hX.2⟩, fun k X hX a b c => ⟨hp, h.2.2.2.2.2.2.1 k X hX.2 a b c⟩, fun X hX => ⟨⟨hp, (h.2.2.2.2.2.2.2 X hX.2).1⟩, (h.2.2.2.2.2.2.2 X hX.2).2⟩⟩
theorem cf4 {k : Nat} (h8 : j ≤ 8) (h : (if nI (rp_cf X k) ≤ 4 then (0 : Int32) else 1) = 0) (hk : k = j := by rfl) : rp_cf X k ≤ 4 := by
  by_cases z : nI (rp_cf X k) ≤ 4
  · have := rp_cf_le (X := X) k
    rw [xa_le, nI_toInt (by omega)] at z
    have : (4 : Int32).toInt = 4 := by decide
    omega
  · rw [if_neg z] at h
    exact absurd h (by decide)
theorem m_plan_ref {d : Nat} {M : mm_M} {x : Int32} (h : RL n j T B (rv M)) (hz : rz n (rv M)) (hT : T + 4 < 2 ^ 31) : RS (d + 7) 68 M [.inr (5, 24), .inl x] (some (f_Mo_plan (rv M) x j).1) (f_Mo_plan (rv M) x j).2 := by
  have hth : (rp_T (rv M) x j).2 = mm_up (rv M) 0 0 ((rp_T (rv M) x j).2 0 0) := by
    unfold rp_T
    rw [thr_eq]
    generalize thrw _ _ _ _ = y
    show mm_up (rv M) 0 0 y = mm_up (rv M) 0 0 (mm_up (rv M) 0 0 y 0 0)
    rw [mm_up_at]
  have hX0 : RL n j T B (rp_T (rv M) x j).2 := by rw [hth]; exact RL_thr h
  have hz0 : rz n (rp_T (rv M) x j).2 := by rw [hth]; exact rz_thr hz
  have h5 := (rd_s6 h.2.1).symm.trans h.1.1.2.2.2.1
  refine rs_Mo_plan (n := n) (V := fun k X => rp_cf (rv M) j ≤ 4 ∧ RV n j B (rp_T (rv M) x j).2 k X) h.1.1.2.1 ((rd_s0 h.2.1).symm.trans h.1.1.2.2.1) h5 (fun h4 _ h300 => rp_H_and h4 (RV_H hX0 hT h4 h300)) (fun M1 _ h300 hV => RV_sec hX0 hz0 hT hV.1 h300 hV.2) (fun z => ⟨?_, sw_up (sw_up sw_rf (Or.inr ⟨rfl, rfl⟩)) (Or.inl (by decide)), [], rfl, trivial, trivial⟩)
  exact cf4 h.1.1.2.1 (thr_0 z).2.2
end MPLAN
