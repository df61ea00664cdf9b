/-! CLASS AND REFERENCE TOGETHER, CALL BY CALL -/
def INI (A : ya) (X : mm_M) : Prop := ∀ c, c < 3 → (cr A c 4 = -1 ∧ cr A c 5 = 0 ∧ cr A c 7 = 0 ∧ ∀ k, k < 4 → se A c k = 0) ∧ X 1 c = 0 ∧ f_Mo_ofCrane X c 3 = 0 ∧ f_Mo_ofCrane X c 8 = 0 ∧ ∀ k, k < 4 → f_Mo_ofCrane X c (4 + k) = 0
def GR (n j T : Nat) (A : ya) (P X : mm_M) : Prop := (RL n j T A X ∧ rz n X) ∧ (∀ c, n ≤ c → c < 3 → cr A c 3 = 0 ∧ cr A c 10 = 0) ∧ (∀ i, j ≤ i → i < 8 → jb A i 3 = 0 ∧ jb A i 4 = -1 ∧ jb A i 5 = -1) ∧ (sc A 8 = 0 ↔ T = 0) ∧ (0 ≤ (sc A 4).toInt ∧ (sc A 4).toInt ≤ 100000) ∧ (T = 0 → sc A 4 = 0 → ∀ i, i < j → jb A i 3 = 0) ∧ (n = 0 → j = 0 ∧ INI A X) ∧ BB P X ∧ (∀ i, i < 8 → P 1 i = 0)
section API
variable {n j T : Nat} {A : ya} {P X : mm_M}
theorem GR_thr {v : Int32} (h : GR n j T A P X) : GR n j T A P (mm_up X 0 0 v) := by
  obtain ⟨⟨h1, h2⟩, h3, h4, h5, h6, h7, h8, ⟨m, b1, b2, b3, b4⟩, h10⟩ := h
  refine ⟨⟨RL_thr h1, rz_thr h2⟩, h3, h4, h5, h6, h7, fun z => ⟨(h8 z).1, fun c hc => ?_⟩, ⟨m, b1, b2, (by simp [mm_up] : mm_up X 0 0 v 0 12 = X 0 12).trans b3, fun i hi => (b4 i hi).trans (by simp [mm_up])⟩, h10⟩
  have e3 : ∀ q, mm_up X 0 0 v 3 q = X 3 q := fun q => by simp [mm_up]
  have e1 : ∀ q, mm_up X 0 0 v 1 q = X 1 q := fun q => by simp [mm_up]
  obtain ⟨a1, a2, a3, a4, a5⟩ := (h8 z).2 c hc
  exact ⟨a1, (e1 c).trans a2, (e3 _).trans a3, (e3 _).trans a4, fun k hk => (e3 _).trans (a5 k hk)⟩
theorem in_0 {v a e : Int32} : f_Mo_in v a e = 0 ↔ ¬ (a.toInt ≤ v.toInt ∧ v.toInt ≤ e.toInt) := by
  unfold f_Mo_in
  by_cases h1 : v < a
  · rw [if_pos h1]
    rw [xa_lt] at h1
    exact ⟨fun _ z => by omega, fun _ => rfl⟩
  · rw [if_neg h1]
    rw [xa_lt] at h1
    by_cases h2 : e < v
    · rw [if_pos h2]
      rw [xa_lt] at h2
      exact ⟨fun _ z => by omega, fun _ => rfl⟩
    · rw [if_neg h2]
      rw [xa_lt] at h2
      exact ⟨fun z => absurd z (by decide), fun z => absurd ⟨by omega, by omega⟩ z⟩
theorem nI_pre {m : Nat} (hm : m < 100) : (nI m - 1).toInt = m - 1 := by
  have e1 : (1 : Int32).toInt = 1 := by decide
  rw [xa_sub (by rw [nI_toInt (by omega), e1]; omega) (by rw [nI_toInt (by omega), e1]; omega), nI_toInt (by omega), e1]
theorem ix_int {x : Int32} (h : 0 ≤ x.toInt) : x = nI (ix x) ∧ (ix x : Int) = x.toInt := by
  have hlt := x.toInt_lt
  have e : x = nI x.toInt.toNat := xa_eq.mpr (by rw [nI_toInt (by omega)]; omega)
  have e2 : ix x = x.toInt.toNat := by rw [e, ix_nI (by omega), ← e]
  rw [e2]
  exact ⟨e, by omega⟩
theorem in_ok {x : Int32} {m : Nat} (hm : m < 100) : ¬ f_Mo_in x 0 (nI m - 1) = 0 ↔ okx m x := by
  rw [in_0, nI_pre hm, Classical.not_not]
  have e0 : (0 : Int32).toInt = 0 := by decide
  rw [e0]
  constructor
  · intro h
    obtain ⟨a, b⟩ := ix_int h.1
    exact ⟨a, by omega⟩
  · intro h
    have := h.2
    rw [h.1, nI_toInt (by omega)]
    omega
theorem isC_eq (h : RL n j T A X) (x : Int32) : f_Mo_isCrane X x = f_Ct_within x 0 (sc A 0 - 1) := by
  unfold f_Mo_isCrane
  rw [← rd_s0 h.2.1]
  rfl
theorem isJ_eq (h : RL n j T A X) (x : Int32) : f_Mo_isJob X x = f_Ct_within x 0 (sc A 6 - 1) := by
  unfold f_Mo_isJob
  rw [← rd_s6 h.2.1]
  rfl
theorem c_ok (h : RL n j T A X) {x : Int32} : ¬ f_Ct_within x 0 (sc A 0 - 1) = 0 ↔ okx n x := by
  rw [in_eq, h.1.1.2.2.1]
  exact in_ok (by have := h.1.1.1; omega)
theorem j_ok (h : RL n j T A X) {x : Int32} : ¬ f_Ct_within x 0 (sc A 6 - 1) = 0 ↔ okx j x := by
  rw [in_eq, h.1.1.2.2.2.1]
  exact in_ok (by have := h.1.1.2.1; omega)
/-! track -/
def c_track (A : ya) (a b c d : Int32) : Int32 × ya := if f_Yd_hasTrack A = 0 then (if f_Ct_within a 1 3 = 0 then (2, A) else if f_Ct_within b 1 30 = 0 then (2, A) else if f_Ct_within c 1 20 = 0 then (2, A) else if f_Ct_within d 1 30 = 0 then (2, A) else (0, (f_Yd_lay A a b c d).2)) else (1, A)
def lv (b : Int32) (c k : Nat) : Int32 := if k = 0 then nI c * b else if k = 1 then 0 else 200
theorem lay_spec {p1 p2 p3 p4 : Int32} {m : Nat} (h3 : m ≤ 3) : ∀ (r i : Nat) (A : ya), sc A 0 = nI m → i ≤ m → m < i + r → sc (f_lay r A p1 p2 p3 p4 i).2 = sc A ∧ jb (f_lay r A p1 p2 p3 p4 i).2 = jb A ∧ se (f_lay r A p1 p2 p3 p4 i).2 = se A ∧ wa (f_lay r A p1 p2 p3 p4 i).2 = wa A ∧ ∀ c k, cr (f_lay r A p1 p2 p3 p4 i).2 c k = if i ≤ c ∧ c < m ∧ k < 3 then lv (sc A 1) c k else cr A c k
  | 0, i, A, _, _, h => absurd h (by omega)
  | r + 1, i, A, hs, hi, hr => by
    rw [f_lay]
    by_cases h1 : sc A 0 ≤ nI i
    · rw [if_pos h1]
      have e : i = m := by
        rw [hs] at h1
        have := (nI_leI (by omega) (by omega)).mp h1
        omega
      exact ⟨rfl, rfl, rfl, rfl, fun c k => by rw [if_neg (by omega)]⟩
    · rw [if_neg h1]
      have lt : i < m := nI_sl hs (by omega) hi h1
      obtain ⟨a1, a2, a3, a4, a5⟩ := lay_spec (p1 := p1) (p2 := p2) (p3 := p3) (p4 := p4) h3 r (i + 1) (f_Cr_stand A i (nI i * sc A 1) 0 200).2 hs lt (by omega)
      refine ⟨a1, a2, a3, a4, fun c k => ?_⟩
      rw [a5]
      by_cases z : i ≤ c ∧ c < m ∧ k < 3
      · rw [if_pos z]
        by_cases z2 : i + 1 ≤ c ∧ c < m ∧ k < 3
        · rw [if_pos z2]; rfl
        · rw [if_neg z2]
          have e : c = i := by omega
          subst e
          have e3 : k = 0 ∨ k = 1 ∨ k = 2 := by omega
          rcases e3 with rfl | rfl | rfl <;> simp [f_Cr_stand, ucr_cr, lv]
      · rw [if_neg z, if_neg (by omega)]
        show cr (ucr (ucr (ucr A i 0 _) i 1 _) i 2 _) c k = cr A c k
        rw [ucr_ne (by omega), ucr_ne (by omega), ucr_ne (by omega)]
theorem tr_spec {b c' d g : Int32} {m : Nat} (h3 : m ≤ 3) : ∀ (r i : Nat) (X : mm_M), i ≤ m → m < i + r → (∀ c k, c < 3 → k < 10 → f_Mo_ofCrane (f_tr r X (nI m) b c' d g i).2 c k = if i ≤ c ∧ c < m ∧ k = 0 then nI c * b else if i ≤ c ∧ c < m ∧ k = 2 then -1 else f_Mo_ofCrane X c k) ∧ (∀ c, (f_tr r X (nI m) b c' d g i).2 2 c = if i ≤ c ∧ c < m then 200 else X 2 c) ∧ (∀ a q, a ≠ 2 → (a ≠ 3 ∨ q < 10) → (f_tr r X (nI m) b c' d g i).2 a q = X a q)
  | 0, i, X, _, h => absurd h (by omega)
  | r + 1, i, X, hi, hr => by
    rw [f_tr]
    by_cases h1 : nI m ≤ nI i
    · rw [if_pos h1]
      have := (nI_leI (by omega) (by omega)).mp h1
      exact ⟨fun c k _ _ => by rw [if_neg (by omega), if_neg (by omega)], fun c => by rw [if_neg (by omega)], fun _ _ _ _ => rfl⟩
    · rw [if_neg h1]
      have lt : i < m := nI_sl rfl (by omega) hi h1
      obtain ⟨a1, a2, a3⟩ := tr_spec (b := b) (c' := c') (d := d) (g := g) h3 r (i + 1) (mm_up (f_Mo_setCrane (f_Mo_setCrane X i 0 (nI i * b)).2 i 2 (-1)).2 2 i 200) lt (by omega)
      have e3 : ∀ (Z : mm_M) c k, f_Mo_ofCrane (mm_up Z 2 i 200) c k = f_Mo_ofCrane Z c k := fun Z c k => by
        show mm_up Z 2 i 200 3 _ = Z 3 _
        simp [mm_up]
      refine ⟨fun c k hc hk => ?_, fun c => ?_, fun a q ha hq => ?_⟩
      · rw [a1 c k hc hk, e3, oc_sc (by decide) hk, oc_sc (by decide) hk]
        by_cases e : c = i
        · subst e
          rw [if_neg (by omega), if_neg (by omega)]
          by_cases z0 : k = 0
          · subst z0
            rw [if_neg (by omega), if_pos ⟨rfl, rfl⟩, if_pos (by omega)]
          · by_cases z2 : k = 2
            · subst z2
              rw [if_pos ⟨rfl, rfl⟩, if_neg (by omega), if_pos (by omega)]
            · rw [if_neg (by omega), if_neg (by omega), if_neg (by omega), if_neg (by omega)]
        · have n1 : ¬ (c = i ∧ k = 2) := fun z => e z.1
          have n2 : ¬ (c = i ∧ k = 0) := fun z => e z.1
          rw [if_neg n1, if_neg n2]
          by_cases z : i + 1 ≤ c ∧ c < m ∧ k = 0
          · rw [if_pos z, if_pos (by omega)]
          · rw [if_neg z]
            have z' : ¬ (i ≤ c ∧ c < m ∧ k = 0) := by omega
            rw [if_neg z']
            by_cases y : i + 1 ≤ c ∧ c < m ∧ k = 2
            · rw [if_pos y, if_pos (by omega)]
            · have y' : ¬ (i ≤ c ∧ c < m ∧ k = 2) := by omega
              rw [if_neg y, if_neg y']
      · rw [a2 c]
        by_cases z : i + 1 ≤ c ∧ c < m
        · rw [if_pos z, if_pos (by omega)]
        · rw [if_neg z]
          by_cases e : c = i
          · subst e
            rw [mm_up_at, if_pos (by omega)]
          · have z' : ¬ (i ≤ c ∧ c < m) := by omega
            rw [if_neg z', show mm_up (f_Mo_setCrane (f_Mo_setCrane X i 0 (nI i * b)).2 i 2 (-1)).2 2 i 200 2 c = (f_Mo_setCrane (f_Mo_setCrane X i 0 (nI i * b)).2 i 2 (-1)).2 2 c by simp [mm_up, e], sc_row (Or.inl (by decide)), sc_row (Or.inl (by decide))]
      · rw [a3 a q ha hq, show mm_up (f_Mo_setCrane (f_Mo_setCrane X i 0 (nI i * b)).2 i 2 (-1)).2 2 i 200 a q = (f_Mo_setCrane (f_Mo_setCrane X i 0 (nI i * b)).2 i 2 (-1)).2 a q by simp [mm_up, ha], sc_row hq, sc_row hq]
theorem track_1 {a b c d : Int32} (h : ¬ X 0 1 ≤ 0) : (f_Mo_track X a b c d).2 = mm_up X 0 0 1 := by
  have key : ∀ g, (f_tr47 X a b c d g).2 = mm_up X 0 0 1 := fun g => by
    unfold f_tr47
    rw [if_neg h]
    unfold f_tr60
    by_cases hg : g = 0
    · rw [if_pos hg]
      unfold f_tr70
      rw [thr_eq]
      rfl
    · rw [if_neg hg]
      unfold f_tr70
      rw [thr_eq]
      rfl
  unfold f_Mo_track
  split
  · exact key _
  · split
    · exact key _
    · split
      · exact key _
      · split <;> exact key _
theorem track_g {a b c d : Int32} (h : X 0 1 ≤ 0) : (f_tr47 X a b c d 0).2 = mm_up X 0 0 2 ∧ (f_tr47 X a b c d 1).2 = (f_tr 4 (mm_up (mm_up (mm_up (mm_up (mm_up X 0 0 0) 0 1 a) 0 2 b) 0 3 c) 0 4 d) a b c d 1 0).2 := by
  constructor
  · unfold f_tr47 f_tr60 f_tr70
    rw [if_pos h, if_pos rfl, thr_eq]
    rfl
  · unfold f_tr47 f_tr60 f_tr70
    rw [if_pos h, if_neg (show ¬ (1 : Int32) = 0 by decide), thr_eq]
    rfl
end API
