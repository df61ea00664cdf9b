/-! A COPY AGREES -/
theorem jcopy_jb {A B : ya} {i i' k : Nat} : jb (f_Jb_copyOf A B i).2 i' k = if i' = i ∧ k < 6 then jb B i' k else jb A i' k := by
  by_cases e : i' = i
  · subst e
    by_cases h : k < 6
    · rw [if_pos ⟨rfl, h⟩]
      have e6 : k = 0 ∨ k = 1 ∨ k = 2 ∨ k = 3 ∨ k = 4 ∨ k = 5 := by omega
      rcases e6 with rfl | rfl | rfl | rfl | rfl | rfl <;> simp [f_Jb_copyOf, ujb_jb]
    · rw [if_neg (by omega)]
      unfold f_Jb_copyOf
      simp only
      rw [ujb_ne (by omega), ujb_ne (by omega), ujb_ne (by omega), ujb_ne (by omega), ujb_ne (by omega), ujb_ne (by omega)]
  · rw [if_neg (by omega)]
    unfold f_Jb_copyOf
    simp only
    rw [ujb_ne (by omega), ujb_ne (by omega), ujb_ne (by omega), ujb_ne (by omega), ujb_ne (by omega), ujb_ne (by omega)]
theorem ccopy_cr {A B : ya} {c c' k : Nat} : cr (f_Cr_copyOf A B c).2 c' k = if c' = c ∧ k < 11 ∧ k ≠ 8 ∧ k ≠ 9 then cr B c' k else cr A c' k := by
  show cr (ucr (ucr (ucr (ucr (ucr (ucr (ucr (ucr (ucr A c 0 (cr B c 0)) c 1 (cr B c 1)) c 2 (cr B c 2)) c 3 (cr B c 3)) c 4 (cr B c 4)) c 5 (cr B c 5)) c 6 (cr B c 6)) c 7 (cr B c 7)) c 10 (cr B c 10)) c' k = _
  by_cases e : c' = c ∧ k < 11 ∧ k ≠ 8 ∧ k ≠ 9
  · rw [if_pos e]
    obtain ⟨rfl, e2⟩ := e
    have e6 : k = 0 ∨ k = 1 ∨ k = 2 ∨ k = 3 ∨ k = 4 ∨ k = 5 ∨ k = 6 ∨ k = 7 ∨ k = 10 := by omega
    rcases e6 with rfl | rfl | rfl | rfl | rfl | rfl | rfl | rfl | rfl <;> simp [ucr_cr]
  · rw [if_neg e, ucr_ne (by omega), ucr_ne (by omega), ucr_ne (by omega), ucr_ne (by omega), ucr_ne (by omega), ucr_ne (by omega), ucr_ne (by omega), ucr_ne (by omega), ucr_ne (by omega)]
theorem usc_sc {A : ya} {k k' : Nat} {v : Int32} : sc (usc A k v) k' = if k' = k then v else sc A k' := rfl
theorem ccopy_se {A B : ya} {c c' k : Nat} : se (f_Cr_copyOf A B c).2 c' k = if c' = c ∧ k < 4 then se B c k else se A c' k := rfl
theorem ccopy_wa {A B : ya} {c c' k : Nat} : wa (f_Cr_copyOf A B c).2 c' k = if c' = c ∧ k < 8 then wa B c k else wa A c' k := rfl
theorem cj_spec {B : ya} {j : Nat} (h8 : j ≤ 8) : ∀ (r : Nat) (A : ya) (i : Nat), sc A 6 = nI j → i ≤ j → j < i + r → cr (f_cj r A B i).2 = cr A ∧ sc (f_cj r A B i).2 = sc A ∧ se (f_cj r A B i).2 = se A ∧ wa (f_cj r A B i).2 = wa A ∧ ∀ i' k, jb (f_cj r A B i).2 i' k = if i ≤ i' ∧ i' < j ∧ k < 6 then jb B i' k else jb A i' k
  | 0, A, i, _, _, h => absurd h (by omega)
  | r + 1, A, i, hs, hi, hr => by
    rw [f_cj]
    by_cases h1 : sc A 6 ≤ nI i
    · rw [if_pos h1]
      have e : i = j := by
        rw [hs] at h1
        have := (nI_leI (by omega) (by omega)).mp h1
        omega
      exact ⟨rfl, rfl, rfl, rfl, fun i' k => by rw [if_neg (by omega)]⟩
    · rw [if_neg h1]
      have lt : i < j := nI_sl hs (by omega) hi h1
      obtain ⟨a1, a2, a3, a4, a5⟩ := cj_spec h8 r (f_Jb_copyOf A B i).2 (i + 1) hs lt (by omega)
      refine ⟨a1, a2, a3, a4, fun i' k => ?_⟩
      rw [a5, jcopy_jb]
      by_cases z : i ≤ i' ∧ i' < j ∧ k < 6
      · rw [if_pos z]
        by_cases z2 : i + 1 ≤ i' ∧ i' < j ∧ k < 6
        · rw [if_pos z2]
        · rw [if_neg z2, if_pos (by omega)]
      · rw [if_neg z, if_neg (by omega), if_neg (by omega)]
theorem cc_spec {B : ya} {n j : Nat} (h3 : n ≤ 3) (h8 : j ≤ 8) : ∀ (r : Nat) (A : ya) (c : Nat), sc A 0 = nI n → sc A 6 = nI j → c ≤ n → n < c + r → sc (f_cc r A B c).2 = sc A ∧ (∀ c' k, cr (f_cc r A B c).2 c' k = if c ≤ c' ∧ c' < n ∧ k < 11 ∧ k ≠ 8 ∧ k ≠ 9 then cr B c' k else cr A c' k) ∧ (∀ c' k, se (f_cc r A B c).2 c' k = if c ≤ c' ∧ c' < n ∧ k < 4 then se B c' k else se A c' k) ∧ (∀ c' k, wa (f_cc r A B c).2 c' k = if c ≤ c' ∧ c' < n ∧ k < 8 then wa B c' k else wa A c' k) ∧ (∀ i k, jb (f_cc r A B c).2 i k = if i < j ∧ k < 6 then jb B i k else jb A i k)
  | 0, A, c, _, _, _, h => absurd h (by omega)
  | r + 1, A, c, hs, hs6, hc, hr => by
    rw [f_cc]
    by_cases h1 : sc A 0 ≤ nI c
    · rw [if_pos h1]
      have e : c = n := by
        rw [hs] at h1
        have := (nI_leI (by omega) (by omega)).mp h1
        omega
      obtain ⟨a1, a2, a3, a4, a5⟩ := cj_spec (B := B) h8 9 A 0 hs6 (Nat.zero_le _) (by omega)
      refine ⟨a2, fun c' k => by rw [if_neg (by omega), a1], fun c' k => by rw [if_neg (by omega), a3], fun c' k => by rw [if_neg (by omega), a4], fun i k => ?_⟩
      rw [a5]
      by_cases z : i < j ∧ k < 6
      · rw [if_pos z, if_pos ⟨Nat.zero_le _, z⟩]
      · rw [if_neg z, if_neg (fun q => z q.2)]
    · rw [if_neg h1]
      have lt : c < n := nI_sl hs (by omega) hc h1
      obtain ⟨a1, a2, a3, a4, a5⟩ := cc_spec (B := B) h3 h8 r (f_Cr_copyOf A B c).2 (c + 1) hs hs6 lt (by omega)
      refine ⟨a1, fun c' k => ?_, fun c' k => ?_, fun c' k => ?_, a5⟩
      · rw [a2, ccopy_cr]
        by_cases z : c ≤ c' ∧ c' < n ∧ k < 11 ∧ k ≠ 8 ∧ k ≠ 9
        · rw [if_pos z]
          by_cases z2 : c + 1 ≤ c' ∧ c' < n ∧ k < 11 ∧ k ≠ 8 ∧ k ≠ 9
          · rw [if_pos z2]
          · rw [if_neg z2, if_pos (by omega)]
        · rw [if_neg z, if_neg (by omega), if_neg (by omega)]
      · rw [a3, ccopy_se]
        by_cases z : c ≤ c' ∧ c' < n ∧ k < 4
        · rw [if_pos z]
          by_cases z2 : c + 1 ≤ c' ∧ c' < n ∧ k < 4
          · rw [if_pos z2]
          · have e : c' = c := by omega
            subst e
            rw [if_neg z2, if_pos ⟨rfl, z.2.2⟩]
        · rw [if_neg z, if_neg (by omega), if_neg (by omega)]
      · rw [a4, ccopy_wa]
        by_cases z : c ≤ c' ∧ c' < n ∧ k < 8
        · rw [if_pos z]
          by_cases z2 : c + 1 ≤ c' ∧ c' < n ∧ k < 8
          · rw [if_pos z2]
          · have e : c' = c := by omega
            subst e
            rw [if_neg z2, if_pos ⟨rfl, z.2.2⟩]
        · rw [if_neg z, if_neg (by omega), if_neg (by omega)]
theorem copy_agr {A B : ya} {n j : Nat} (h3 : n ≤ 3) (h8 : j ≤ 8) (hn : sc B 0 = nI n) (hj : sc B 6 = nI j) : agr n j (f_Yd_copyOf A B).2 B := by
  unfold f_Yd_copyOf
  generalize hA : usc (usc (usc (usc (usc (usc (usc (usc (usc A 0 (sc B 0)) 1 (sc B 1)) 2 (sc B 2)) 3 (sc B 3)) 4 (sc B 4)) 5 (sc B 5)) 6 (sc B 6)) 7 (sc B 7)) 8 (sc B 8) = A1
  have hs : ∀ k, k < 9 → sc A1 k = sc B k := fun k hk => by
    have e6 : k = 0 ∨ k = 1 ∨ k = 2 ∨ k = 3 ∨ k = 4 ∨ k = 5 ∨ k = 6 ∨ k = 7 ∨ k = 8 := by omega
    rw [← hA]
    rcases e6 with rfl | rfl | rfl | rfl | rfl | rfl | rfl | rfl | rfl <;> simp [usc_sc]
  obtain ⟨a1, a2, a3, a4, a5⟩ := cc_spec (B := B) h3 h8 4 A1 0 ((hs 0 (by decide)).trans hn) ((hs 6 (by decide)).trans hj) (Nat.zero_le _) (by omega)
  refine ⟨fun c k hc hk h8' h9 => ?_, fun i k hi hk => ?_, fun k hk => ?_, fun c k hc hk => ?_, fun c k hc hk => ?_⟩
  · rw [a2, if_pos ⟨Nat.zero_le _, hc, hk, h8', h9⟩]
  · rw [a5, if_pos ⟨hi, hk⟩]
  · rw [a1, hs k hk]
  · rw [a3, if_pos ⟨Nat.zero_le _, hc, hk⟩]
  · rw [a4, if_pos ⟨Nat.zero_le _, hc, hk⟩]
/-! WAYS: a way is a list of numbers 10 * job + crane -/
def hnd (A : ya) (v : Nat) : ya := (f_Yd_hand A (v / 10) (v % 10)).2
def gvt (X : mm_M) (v : Nat) : mm_M := (f_Mo_giveTo X (v / 10) (v % 10)).2
/-- numbers that may be given -/
def okv (n j : Nat) (A : ya) (v : Nat) : Prop := v < 10 * j ∧ v % 10 < n ∧ jb A (v / 10) 3 = 0 ∧ yiR A (v % 10) (v / 10)
def VW (n j : Nat) (A : ya) (w : List Nat) : Prop := (∀ v ∈ w, okv n j A v) ∧ (w.map (· / 10)).Nodup
section WAY
variable {n j T : Nat} {A : ya} {X : mm_M}
theorem hnd_keep {v : Nat} (h : yi n j A) (hv : okv n j A v) : (∀ i k, i ≠ v / 10 → jb (hnd A v) i k = jb A i k) ∧ (∀ i k, k < 3 → jb (hnd A v) i k = jb A i k) ∧ (∀ c k, k < 10 → cr (hnd A v) c k = cr A c k) := by
  obtain ⟨v1, v2, v3, v4⟩ := hv
  obtain ⟨m, m8, hm, -⟩ := q_room h v2 (show v / 10 < j by omega) v3
  unfold hnd
  rw [hand_eq hm m8]
  refine ⟨fun i k hi => ?_, fun i k hk => ?_, fun c k hk => ucr_ne (by omega)⟩
  · show jb (ujb (ujb A (v / 10) 3 1) (v / 10) 4 (nI (v % 10))) i k = _
    rw [ujb_ne (by omega), ujb_ne (by omega)]
  · show jb (ujb (ujb A (v / 10) 3 1) (v / 10) 4 (nI (v % 10))) i k = _
    rw [ujb_ne (by omega), ujb_ne (by omega)]
theorem RL_hnd {v : Nat} (h : RL n j T A X) (hv : okv n j A v) (hT : T + 1 < 2 ^ 31) : RL n j (T + 1) (hnd A v) (gvt X v) := RL_give h (by have := hv.1; omega) hv.2.1 hv.2.2.1 hv.2.2.2 hT
theorem okv_hnd {v u : Nat} (h : yi n j A) (hv : okv n j A v) (hu : okv n j A u) (hne : u / 10 ≠ v / 10) : okv n j (hnd A v) u := by
  obtain ⟨k1, k2, k3⟩ := hnd_keep h hv
  obtain ⟨u1, u2, u3, u4⟩ := hu
  refine ⟨u1, u2, by rw [k1 _ _ hne]; exact u3, ?_⟩
  unfold yiR at u4 ⊢
  rw [k3 _ 1 (by decide), k3 _ 2 (by decide), k2 _ 0 (by decide), k2 _ 1 (by decide)]
  exact u4
theorem VW_tail {v : Nat} {w : List Nat} (h : yi n j A) (hw : VW n j A (v :: w)) : VW n j (hnd A v) w := by
  obtain ⟨h1, h2⟩ := hw
  rw [List.map_cons, List.nodup_cons] at h2
  refine ⟨fun u hu => okv_hnd h (h1 v List.mem_cons_self) (h1 u (List.mem_cons_of_mem _ hu)) (fun e => h2.1 ?_), h2.2⟩
  rw [← e]
  exact List.mem_map.mpr ⟨u, hu, rfl⟩
theorem RL_way : ∀ (w : List Nat) (A : ya) (X : mm_M) (T : Nat), RL n j T A X → VW n j A w → T + w.length < 2 ^ 31 → RL n j (T + w.length) (w.foldl hnd A) (w.foldl gvt X)
  | [], A, X, T, h, _, _ => h
  | v :: w, A, X, T, h, hw, hT => by
    rw [List.length_cons] at hT
    have := RL_way w (hnd A v) (gvt X v) (T + 1) (RL_hnd h (hw.1 v List.mem_cons_self) (by omega)) (VW_tail h.1 hw) (by omega)
    rw [List.length_cons, List.foldl_cons, List.foldl_cons, show T + (w.length + 1) = T + 1 + w.length by omega]
    exact this
theorem mm_up_comm {M : mm_M} {i k i' k' : Nat} {v w : Int32} (h : i ≠ i' ∨ k ≠ k') : mm_up (mm_up M i k v) i' k' w = mm_up (mm_up M i' k' w) i k v := by
  funext a b
  simp only [mm_up]
  by_cases h1 : a = i ∧ b = k
  · by_cases h2 : a = i' ∧ b = k'
    · exact absurd h (by omega)
    · simp [h1, h2]
      intro h3 h4
      exact absurd h (by omega)
  · by_cases h2 : a = i' ∧ b = k'
    · simp [h2]
      intro h3 h4
      exact absurd h (by omega)
    · simp [h1, h2]
/-- two givings to two cranes: either order -/
theorem hnd_comm {v u : Nat} (h : yi n j A) (hv : okv n j A v) (hu : okv n j A u) (hj : u / 10 ≠ v / 10) (hc : u % 10 ≠ v % 10) : hnd (hnd A v) u = hnd (hnd A u) v := by
  obtain ⟨m, m8, hm, -⟩ := q_room h hv.2.1 (show v / 10 < j by have := hv.1; omega) hv.2.2.1
  obtain ⟨m', m8', hm', -⟩ := q_room h hu.2.1 (show u / 10 < j by have := hu.1; omega) hu.2.2.1
  have e1 : cr (hnd A v) (u % 10) 10 = nI m' := by
    unfold hnd
    rw [hand_eq hm m8]
    exact (ucr_ne (Or.inl hc)).trans hm'
  have e2 : cr (hnd A u) (v % 10) 10 = nI m := by
    unfold hnd
    rw [hand_eq hm' m8']
    exact (ucr_ne (Or.inl (Ne.symm hc))).trans hm
  show (f_Yd_hand (hnd A v) (u / 10) (u % 10)).2 = (f_Yd_hand (hnd A u) (v / 10) (v % 10)).2
  rw [hand_eq e1 m8', hand_eq e2 m8]
  unfold hnd
  rw [hand_eq hm m8, hand_eq hm' m8']
  refine Prod.ext ?_ (Prod.ext ?_ (Prod.ext ?_ (Prod.ext rfl ?_)))
  · exact mm_up_comm (Or.inl (Ne.symm hc))
  · show mm_up (mm_up (mm_up (mm_up (jb A) (v / 10) 3 1) (v / 10) 4 (nI (v % 10))) (u / 10) 3 1) (u / 10) 4 (nI (u % 10)) = mm_up (mm_up (mm_up (mm_up (jb A) (u / 10) 3 1) (u / 10) 4 (nI (u % 10))) (v / 10) 3 1) (v / 10) 4 (nI (v % 10))
    rw [mm_up_comm (M := mm_up (jb A) (v / 10) 3 1) (i := v / 10) (k := 4) (i' := u / 10) (k' := 3) (Or.inl (Ne.symm hj)), mm_up_comm (M := jb A) (i := v / 10) (k := 3) (i' := u / 10) (k' := 3) (Or.inl (Ne.symm hj)), mm_up_comm (i := v / 10) (k := 4) (i' := u / 10) (k' := 4) (Or.inl (Ne.symm hj)), mm_up_comm (i := v / 10) (k := 3) (i' := u / 10) (k' := 4) (Or.inl (Ne.symm hj))]
  · show upd (upd (sc A) 8 1) 8 1 = upd (upd (sc A) 8 1) 8 1
    rfl
  · exact mm_up_comm (Or.inl (Ne.symm hc))
/-- how many seconds, at most t, until all is done -/
def finA : Nat → ya → Option Nat
  | 0, A => if sc A 7 = 0 then some 0 else none
  | t + 1, A => if sc A 7 = 0 then some 0 else (finA t (f_Yd_passSecond A).2).map (· + 1)
theorem finA_le : ∀ (t : Nat) (A : ya) (k : Nat), finA t A = some k → k ≤ t
  | 0, A, k, h => by
    rw [finA] at h
    split at h
    · cases h; exact Nat.le_refl _
    · cases h
  | t + 1, A, k, h => by
    rw [finA] at h
    split at h
    · cases h; omega
    · cases hk : finA t (f_Yd_passSecond A).2 with
      | none => rw [hk] at h; cases h
      | some q =>
        rw [hk] at h
        cases h
        have := finA_le t _ q hk
        show q + 1 ≤ t + 1
        omega
theorem finA_cut : ∀ (l t : Nat) (A : ya), l ≤ t → finA l A = match finA t A with
    | some k => if k ≤ l then some k else none
    | none => none
  | 0, 0, A, _ => by
    rw [finA]
    split <;> simp
  | 0, t + 1, A, _ => by
    rw [finA, finA]
    split
    · simp
    · cases finA t (f_Yd_passSecond A).2 <;> simp
  | l + 1, 0, A, h => absurd h (by omega)
  | l + 1, t + 1, A, h => by
    rw [finA, finA]
    split
    · simp
    · rw [finA_cut l t _ (by omega)]
      cases finA t (f_Yd_passSecond A).2 with
      | none => rfl
      | some k =>
        simp only [Option.map]
        by_cases z : k ≤ l
        · rw [if_pos z, if_pos (by omega)]
        · rw [if_neg z, if_neg (by omega)]
end WAY
