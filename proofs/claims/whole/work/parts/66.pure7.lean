/-! WHAT THE METHODS NEED OF YARD AND ROWS, OUT OF RL -/
def IA (n j : Nat) (A : ya) : Prop := ∃ X T, RL n j T A X
def rz (n : Nat) (X : mm_M) : Prop := ∀ q, n ≤ q → q < 3 → f_Mo_ofCrane X q 1 = 0
def IX (n j : Nat) (X : mm_M) : Prop := (∃ A T, RL n j T A X) ∧ rz n X
section SAFE
variable {n j T : Nat} {A : ya} {X : mm_M} {c : Nat}
theorem IA_nn (h : IA n j A) : ynn A n := by
  obtain ⟨X, T, h⟩ := h
  exact ⟨h.1.1.2.2.1, h.1.1.1⟩
theorem handle_at {B : ya} : cr (f_Yd_handleIfThere B c).2 c 4 = cr B c 4 ∧ sc (f_Yd_handleIfThere B c).2 = sc B := by
  unfold f_Yd_handleIfThere
  by_cases h1 : cr B c 0 = cr B c 6
  · rw [if_pos h1]
    by_cases h2 : cr B c 5 = 1
    · rw [if_pos h2]; exact ⟨(ucr_ne (by omega)).trans (ucr_ne (by omega)), rfl⟩
    · rw [if_neg h2]; exact ⟨(ucr_ne (by omega)).trans (ucr_ne (by omega)), rfl⟩
  · rw [if_neg h1]; exact ⟨rfl, rfl⟩
theorem okw8 {j : Nat} {x : Int32} (h6 : sc A 6 = nI j) (h8 : j ≤ 8) (h : ¬ f_Ct_within x 0 (sc A 6 - 1) = 0) : okx 8 x := by
  rw [h6] at h
  unfold f_Ct_within at h
  by_cases q1 : x < 0
  · rw [if_pos q1] at h; exact absurd rfl h
  · rw [if_neg q1] at h
    by_cases q2 : nI j - 1 < x
    · rw [if_pos q2] at h; exact absurd rfl h
    · obtain ⟨i, hi, rfl⟩ := nI_of q1
      rcases j with _ | j
      · exfalso
        apply q2
        have e : nI 0 - 1 = -1 := by decide
        rw [e, Int32.lt_iff_toInt_lt, nI_toInt hi]
        have e2 : (-1 : Int32).toInt = -1 := by decide
        rw [e2]; omega
      · rw [nI_pred] at q2
        have q3 : ¬ j < i := fun z => q2 (nI_lt z hi)
        exact okx_nI (by omega) (by decide)
theorem IA_one (h : IA n j A) (hc : c < n) : yone A n c := by
  have hnn := IA_nn h
  obtain ⟨X, T, h⟩ := h
  have hj8 := h.1.1.2.1
  obtain ⟨⟨m, m8, hm⟩, k2, k3, k4⟩ := h.1.2.2.2.2.1 c hc
  have hw : ¬ cr A c 10 = 0 → okx 8 (wa A c 0) := fun z => by
    have m0 : 0 < m := by
      rcases m with _ | m
      · exact absurd hm (fun e => z (by rw [e]; rfl))
      · omega
    have : wa A c 0 ∈ qs A c := by
      rw [qs_of hm]
      exact List.mem_map.mpr ⟨0, List.mem_range.mpr m0, rfl⟩
    exact okx_mono (k3 _ this).1 hj8
  refine ⟨hnn, ⟨m, m8, hm⟩, hw, fun A1 e => ?_⟩
  have key : sc A1 = sc A → ynn A1 n ∧ (¬ f_Ct_within (cr A1 c 4) 0 (sc A1 6 - 1) = 0 → okx 8 (cr A1 c 4)) := fun q => ⟨⟨by rw [q]; exact hnn.1, hnn.2⟩, okw8 (by rw [q]; exact h.1.1.2.2.2.1) hj8⟩
  refine key ?_
  rcases e with e | e
  · rw [e]
  · rw [e]
    unfold f_Yd_takeFirst
    by_cases h1 : cr A c 10 = 0
    · rw [if_pos h1]
    · rw [if_neg h1]
      by_cases h0 : f_Ct_within (wa A c 0) 0 (sc A 6 - 1) = 0
      · rw [if_pos h0]
      · rw [if_neg h0]
        by_cases h2 : jb A (ix (wa A c 0)) 2 ≤ sc A 4
        · rw [if_pos h2]
          obtain ⟨m', u1, u2, u3, u4, u5, u6, u7⟩ := unqueue_spec (x := wa A c 0) hm m8
          rw [handle_at.2]
          show sc (f_Cr_unqueue A c (wa A c 0)).2 = _
          rw [u4]
        · rw [if_neg h2]
theorem IA_tick (h : IA n j A) (hc : c < n) : IA n j (f_tick A c) := by
  obtain ⟨X, T, h⟩ := h
  exact ⟨_, T, RL_tick h hc⟩
theorem IA_sec (h : IA n j A) : IA n j (f_Yd_passSecond A).2 := by
  obtain ⟨X, T, h⟩ := h
  exact ⟨_, T, RL_second h⟩
/-- the other cranes stay as they are -/
def Fr (c : Nat) (X Y : mm_M) : Prop := (∀ q k, q ≠ c → q < 3 → k < 10 → f_Mo_ofCrane Y q k = f_Mo_ofCrane X q k) ∧ ∀ r q, (r ≠ 3 ∨ q < 10) → Y r q = X r q
theorem Fr_rf : Fr c X X := ⟨fun _ _ _ _ _ => rfl, fun _ _ _ => rfl⟩
theorem Fr_sc {Y : mm_M} {k : Nat} {v : Int32} (h : Fr c X Y) (hk : k < 10 := by decide) : Fr c X (f_Mo_setCrane Y c k v).2 := ⟨fun q k' hq h3 hk' => (oc_ne hk hk' (Or.inl hq)).trans (h.1 q k' hq h3 hk'), fun r q hr => (sc_row hr).trans (h.2 r q hr)⟩
theorem Fr_sj {Y : mm_M} {i w : Nat} {v : Int32} (h : Fr c X Y) : Fr c X (f_Mo_setJob Y i w v).2 := ⟨fun q k' hq h3 hk' => (oc_sj h3 hk').trans (h.1 q k' hq h3 hk'), fun r q hr => (sj_row hr).trans (h.2 r q hr)⟩
theorem Fr_tr {Y Z : mm_M} (h : Fr c X Y) (h2 : Fr c Y Z) : Fr c X Z := ⟨fun q k a b d => (h2.1 q k a b d).trans (h.1 q k a b d), fun r q a => (h2.2 r q a).trans (h.2 r q a)⟩
theorem Fr_begins {x : Int32} : Fr c X (f_Mo_begins X c x).2 := Fr_sc (Fr_sc Fr_rf)
theorem goes_set {t : Int32} : ∃ w, (f_Mo_goes X c t).2 = (f_Mo_setCrane X c 0 w).2 := by
  have g175 : ∀ a w : Int32, (f_go175 X c t a w).2 = (f_Mo_setCrane X c 0 w).2 := fun a w => by
    unfold f_go175; split <;> rfl
  have g80 : ∀ a w : Int32, ∃ v, (f_go80 X c t a w).2 = (f_Mo_setCrane X c 0 v).2 := fun a w => by
    unfold f_go80; split <;> exact ⟨_, g175 _ _⟩
  have g37 : ∀ a w : Int32, ∃ v, (f_go37 X c t a w).2 = (f_Mo_setCrane X c 0 v).2 := fun a w => by
    unfold f_go37
    split
    · exact g80 _ _
    · split <;> exact g80 _ _
  have g161 : ∀ a w : Int32, ∃ v, (f_go161 X c t a w).2 = (f_Mo_setCrane X c 0 v).2 := fun a w => by
    unfold f_go161; split <;> exact ⟨_, g175 _ _⟩
  have g124 : ∀ a w : Int32, ∃ v, (f_go124 X c t a w).2 = (f_Mo_setCrane X c 0 v).2 := fun a w => by
    unfold f_go124
    split
    · exact g161 _ _
    · split <;> exact g161 _ _
  unfold f_Mo_goes
  split
  · split
    · exact ⟨_, g175 _ _⟩
    · split <;> exact g124 _ _
  · split <;> exact g37 _ _
theorem Fr_goes {t : Int32} : Fr c X (f_Mo_goes X c t).2 := by
  obtain ⟨w, h⟩ := goes_set (X := X) (c := c) (t := t)
  rw [h]; exact Fr_sc Fr_rf
theorem Fr_takes : Fr c X (f_Mo_takesJob X c).2 := by
  unfold f_Mo_takesJob
  split
  · exact Fr_rf
  · split
    · split
      · exact Fr_tr (Fr_sc (Fr_sj Fr_rf)) Fr_begins
      · exact Fr_sc (Fr_sc (Fr_sj Fr_rf))
    · exact Fr_rf
theorem Fr_less : Fr c X (f_Mo_lessToGo X c).2 := by
  unfold f_Mo_lessToGo
  split
  · split
    · split
      · exact Fr_tr (Fr_sc Fr_rf) Fr_begins
      · exact Fr_sc (Fr_sc Fr_rf)
    · exact Fr_sc (Fr_sc (Fr_sj (Fr_sj (Fr_sc Fr_rf))))
  · exact Fr_sc Fr_rf
theorem Fr_gives : Fr c X (f_Mo_givesWay X c).2 := by
  have g172 : ∀ (Y : mm_M) (a t : Int32), Fr c X Y → Fr c X (f_gw172 Y c a t).2 := fun Y a t h => by
    unfold f_gw172
    split
    · exact h
    · exact Fr_tr h Fr_goes
  have g87 : ∀ (Y : mm_M) (a t : Int32), Fr c X Y → Fr c X (f_gw87 Y c a t).2 := fun Y a t h => by
    unfold f_gw87
    split
    · exact h
    · exact Fr_tr h Fr_goes
  have g102 : ∀ (Y : mm_M) (a : Int32), Fr c X Y → Fr c X (f_gw102 Y c a).2 := fun Y a h => by
    unfold f_gw102
    split
    · exact h
    · split
      · exact h
      · split
        · exact h
        · split <;> exact g172 _ _ _ h
  unfold f_Mo_givesWay
  have h0 : Fr c X (f_Mo_setCrane X c 6 (f_Mo_ofCrane X c 6 + 1)).2 := Fr_sc Fr_rf
  split
  · exact g102 _ _ h0
  · split
    · exact g102 _ _ h0
    · split
      · exact g102 _ _ h0
      · split <;> exact g87 _ _ _ h0
theorem Fr_se42 : Fr c X (f_se42 X c).2 := by
  have g120 : ∀ (Y : mm_M) (w : Int32), Fr c X Y → Fr c X (f_se120 Y c w).2 := fun Y w h => by
    unfold f_se120
    split <;> exact Fr_sc h
  unfold f_se42
  split
  · split
    · exact g120 _ _ Fr_less
    · split
      · split <;> exact g120 _ _ (Fr_tr Fr_goes Fr_begins)
      · exact g120 _ _ Fr_goes
  · exact Fr_gives
theorem Fr_second : Fr c X (f_Mo_second X c).2 := by
  unfold f_Mo_second
  split
  · exact Fr_sc Fr_rf
  · split
    · exact Fr_se42
    · exact Fr_tr Fr_takes Fr_se42
theorem rz_Fr {Y : mm_M} (h : rz n X) (hc : c < n) (hf : Fr c X Y) : rz n Y := fun q h1 h2 => (hf.1 q 1 (by omega) h2 (by decide)).trans (h q h1 h2)
theorem rz_up {k : Nat} {v : Int32} (h : rz n X) (hk : k < 10) : rz n (mm_up X 3 k v) := fun q h1 h2 => (mm_up_k _ _ _ (by omega)).trans (h q h1 h2)
theorem rz_ra2 : ∀ (r i : Nat) (X : mm_M), rz n X → rz n (f_ra2 r X i).2
  | 0, _, X, h => h
  | r + 1, i, X, h => by
    rw [f_ra2]
    split
    · exact h
    · split <;> exact rz_ra2 r (i + 1) _ (rz_up h (by decide))
theorem rz_ra1 : ∀ (r i : Nat) (X : mm_M), rz n X → X 0 1 = nI n → n ≤ 3 → i ≤ n → rz n (f_ra1 r X i).2
  | 0, _, X, h, _, _, _ => h
  | r + 1, i, X, h, h1, h3, hi => by
    rw [f_ra1]
    by_cases q : X 0 1 ≤ nI i
    · rw [if_pos q]; exact rz_ra2 4 1 _ (rz_up h (by decide))
    · rw [if_neg q]
      have lt : i < n := nI_sl h1 (by omega) hi q
      exact rz_ra1 r (i + 1) _ (rz_Fr h lt Fr_second) ((Fr_second.2 0 1 (by decide)).trans h1) h3 lt
theorem IX_nn (h : IX n j X) : X 0 1 = nI n ∧ n ≤ 3 := by
  obtain ⟨⟨A, T, h⟩, -⟩ := h
  exact ⟨by rw [← rd_s0 h.2.1]; exact h.1.1.2.2.1, h.1.1.1⟩
theorem IX_j (h : IX n j X) : X 0 5 = nI j ∧ j ≤ 8 := by
  obtain ⟨⟨A, T, h⟩, -⟩ := h
  exact ⟨by rw [← rd_s6 h.2.1]; exact h.1.1.2.2.2.1, h.1.1.2.1⟩
theorem IX_second (h : IX n j X) (hc : c < n) : IX n j (f_Mo_second X c).2 := by
  obtain ⟨⟨A, T, h⟩, hz⟩ := h
  exact ⟨⟨_, T, RL_tick h hc⟩, rz_Fr hz hc Fr_second⟩
theorem IX_all (h : IX n j X) : IX n j (f_Mo_secondOfAll X).2 := by
  have h1 := IX_nn h
  obtain ⟨⟨A, T, h⟩, hz⟩ := h
  exact ⟨⟨_, T, RL_second h⟩, rz_ra1 4 0 X hz h1.1 h1.2 (Nat.zero_le _)⟩
theorem rtwo_of (hn : rnn X n) (hg : rgl X) (hJ : 0 ≤ f_Mo_ofCrane X c 2 → okx 8 (f_Mo_ofCrane X c 2)) : rtwo X n c := by
  refine ⟨⟨(sc_row (by omega)).trans hn.1, hn.2⟩, fun q hq z => ?_, hJ, fun z t => ?_⟩
  · rw [oc_ne (by omega) (by omega) (by omega)]
    apply hg q hq
    unfold f_Mo_hasGoal at z ⊢
    rw [oc_ne (by omega) (by omega) (by omega)] at z
    exact z
  · obtain ⟨w, h⟩ := goes_set (X := X) (c := c) (t := t)
    rw [h, oc_ne (by omega) (by omega) (by omega)]
    exact hJ z
theorem IX_gl (h : IX n j X) : rgl X := by
  have h8 := (IX_j h).2
  obtain ⟨⟨A, T, h⟩, hz⟩ := h
  intro q hq z
  rcases Nat.lt_or_ge q n with e | e
  · rw [hg_eq h.2.1 e] at z
    rw [← rd_c4 h.2.1 e]
    exact okx_mono (at_ok h.1 e (by rcases hg_cases z with w | w <;> rw [w] <;> decide)).1 h8
  · exfalso
    apply z
    unfold f_Mo_hasGoal
    rw [hz q e hq]; decide
theorem IX_J (h : IX n j X) (hc : c < n) : 0 ≤ f_Mo_ofCrane X c 2 → okx 8 (f_Mo_ofCrane X c 2) := by
  have h8 := (IX_j h).2
  obtain ⟨⟨A, T, h⟩, hz⟩ := h
  intro z
  rw [← rd_c4 h.2.1 hc] at z ⊢
  rcases (h.1.2.1 c hc).2.2 with ⟨-, e⟩ | ⟨e, -⟩
  · rw [e] at z; exact absurd z (by decide)
  · exact okx_mono e h8
theorem IX_one (h : IX n j X) (hc : c < n) : rone X n c := by
  have h1 := IX_nn h
  have h2 := IX_j h
  have hgl := IX_gl h
  have hJ := IX_J h hc
  refine ⟨⟨j, h2.2, h2.1⟩, fun _ => rtwo_of h1 hgl hJ, ?_⟩
  have key : (f_Mo_takesJob X c).2 = X ∨ okx 8 (f_Mo_ofCrane (f_Mo_takesJob X c).2 c 2) := by
    unfold f_Mo_takesJob
    by_cases q1 : f_Mo_firstOf X c < 0
    · rw [if_pos q1]; exact Or.inl rfl
    · rw [if_neg q1]
      have hf : okx 8 (f_Mo_firstOf X c) := by
        rcases firstOf_spec (c := c) h2.1 h2.2 with ⟨e, -⟩ | ⟨a, a1, a2, -⟩
        · rw [e] at q1; exact absurd (by decide) q1
        · exact okx_of a2 (by omega) (by decide)
      split
      · right
        split
        · rw [begins_eq, oc_ne (by omega) (by omega) (by omega), oc_ne (by omega) (by omega) (by omega), oc_at (by omega)]; exact hf
        · show okx 8 (f_Mo_ofCrane (f_Mo_setCrane _ c 1 1).2 c 2)
          rw [oc_ne (by omega) (by omega) (by omega), oc_at (by omega)]; exact hf
      · exact Or.inl rfl
  rcases key with e | e
  · rw [e]; exact rtwo_of h1 hgl hJ
  · refine rtwo_of ⟨(Fr_takes.2 0 1 (by decide)).trans h1.1, h1.2⟩ (fun q hq z => ?_) (fun _ => e)
    by_cases qc : q = c
    · subst qc; exact e
    · rw [Fr_takes.1 q 2 qc hq (by decide)]
      apply hgl q hq
      unfold f_Mo_hasGoal at z ⊢
      rw [Fr_takes.1 q 1 qc hq (by decide)] at z
      exact z
end SAFE
