/-! WHAT A SECOND LEAVES ALONE IN THE YARD -/
def FA (n j : Nat) (A B : ya) : Prop := (∀ q k, n ≤ q → cr B q k = cr A q k) ∧ (∀ i k, j ≤ i → jb B i k = jb A i k) ∧ sc B 8 = sc A 8 ∧ sc B 4 = sc A 4
section FRA
variable {n j T : Nat} {A B : ya} {X : mm_M} {c : Nat}
theorem FA_rf : FA n j A A := ⟨fun _ _ _ => rfl, fun _ _ _ => rfl, rfl, rfl⟩
theorem FA_tr {D : ya} (h : FA n j A B) (h2 : FA n j B D) : FA n j A D := ⟨fun q k a => (h2.1 q k a).trans (h.1 q k a), fun i k a => (h2.2.1 i k a).trans (h.2.1 i k a), h2.2.2.1.trans h.2.2.1, h2.2.2.2.trans h.2.2.2⟩
theorem FA_cr {k : Nat} {v : Int32} (h : FA n j A B) (hc : c < n) : FA n j A (ucr B c k v) := ⟨fun q k' hq => (ucr_ne (Or.inl (by omega))).trans (h.1 q k' hq), h.2⟩
theorem FA_jb {i k : Nat} {v : Int32} (h : FA n j A B) (hi : i < j) : FA n j A (ujb B i k v) := ⟨h.1, fun i' k' hq => (ujb_ne (Or.inl (by omega))).trans (h.2.1 i' k' hq), h.2.2⟩
theorem FA_wa {k : Nat} {v : Int32} (h : FA n j A B) : FA n j A (uwa B c k v) := ⟨h.1, h.2.1, h.2.2⟩
theorem FA_se {k : Nat} {v : Int32} (h : FA n j A B) : FA n j A (use B c k v) := ⟨h.1, h.2.1, h.2.2⟩
theorem FA_sc {k : Nat} {v : Int32} (h : FA n j A B) (h8 : k ≠ 8) (h4 : k ≠ 4) : FA n j A (usc B k v) := ⟨h.1, h.2.1, (show sc (usc B k v) 8 = sc B 8 by rw [usc_sc, if_neg (Ne.symm h8)]).trans h.2.2.1, (show sc (usc B k v) 4 = sc B 4 by rw [usc_sc, if_neg (Ne.symm h4)]).trans h.2.2.2⟩
theorem FA_handle (hc : c < n) : FA n j A (f_Yd_handleIfThere A c).2 := by
  unfold f_Yd_handleIfThere
  split
  · split
    · exact FA_cr (FA_cr FA_rf hc) hc
    · exact FA_cr (FA_cr FA_rf hc) hc
  · exact FA_rf
theorem FA_move {t : Int32} (hc : c < n) : FA n j A (f_Yd_moveToward A c t).2 := by
  unfold f_Yd_moveToward
  split
  · split
    · exact FA_rf
    · exact FA_cr FA_rf hc
  · exact FA_cr FA_rf hc
theorem FA_lift {i : Nat} (hc : c < n) : FA n j A (f_Yd_liftOn A c i).2 := by
  unfold f_Yd_liftOn
  split
  · exact FA_tr (FA_cr (FA_cr (FA_cr FA_rf hc) hc) hc) (FA_handle hc)
  · exact FA_cr FA_rf hc
theorem FA_set {i : Nat} (hc : c < n) (ho : i < j) : FA n j A (f_Yd_setOn A c i).2 := by
  unfold f_Yd_setOn
  split
  · exact FA_cr (FA_cr (FA_sc (FA_jb (FA_jb (FA_cr FA_rf hc) ho) ho) (by decide) (by decide)) hc) hc
  · exact FA_cr FA_rf hc
theorem FA_unq {x : Int32} (hc : c < n) : ∀ (r k i : Nat) (A : ya), FA n j A (f_unq r A c x k i).2
  | 0, _, _, _ => FA_rf
  | r + 1, k, i, A => by
    rw [f_unq]
    split
    · exact FA_cr FA_rf hc
    · split
      · exact FA_unq hc r k (i + 1) A
      · exact FA_tr (FA_wa FA_rf) (FA_unq hc r (k + 1) (i + 1) _)
theorem FA_take (h : yi n j A) (hc : c < n) : FA n j A (f_Yd_takeFirst A c).2 := by
  unfold f_Yd_takeFirst
  by_cases h1 : cr A c 10 = 0
  · rw [if_pos h1]; exact FA_rf
  · rw [if_neg h1]
    have hw : ix (wa A c 0) < j := by
      obtain ⟨⟨m, m8, hm⟩, -, k3, -⟩ := h.2.2.2.2.1 c hc
      have m0 : 0 < m := by
        rcases m with _ | m
        · exact absurd hm (fun e => h1 (by rw [e]; rfl))
        · omega
      exact (k3 (wa A c 0) (by
        rw [qs_of hm]
        exact List.mem_map.mpr ⟨0, List.mem_range.mpr m0, rfl⟩)).1.2
    split
    · exact FA_rf
    · split
      · exact FA_tr (FA_cr (FA_cr (FA_jb (FA_cr (FA_unq hc 9 0 0 A) hc) hw) hc) hc) (FA_handle hc)
      · exact FA_rf
theorem FA_fsec (h : yi n j A) (hc : c < n) : FA n j A (f_sec A c).2 := by
  unfold f_sec
  by_cases h1 : cr A c 5 = 1
  · rw [if_pos h1]
    split <;> exact FA_tr (FA_move hc) (FA_handle hc)
  · rw [if_neg h1]
    by_cases h2 : cr A c 5 = 2
    · rw [if_pos h2]; exact FA_lift hc
    · rw [if_neg h2]
      by_cases h3 : cr A c 5 = 3
      · rw [if_pos h3]
        split <;> exact FA_tr (FA_move hc) (FA_handle hc)
      · rw [if_neg h3]
        by_cases h4 : cr A c 5 = 4
        · rw [if_pos h4]
          exact FA_set hc (at_ok h hc (by rw [h4]; decide)).1.2
        · rw [if_neg h4]; exact FA_move hc
theorem FA_tick (h : RL n j T A X) (hc : c < n) : FA n j A (f_tick A c) := by
  rw [tick_eq]
  refine FA_se ?_
  rw [pso_eq h.1 hc (take_yi h hc)]
  by_cases h1 : cr A c 3 = 0
  · rw [if_pos h1]
    by_cases h2 : cr A c 4 = -1
    · rw [if_pos h2]
      have h5 : cr A c 5 = 0 := by
        rcases (h.1.2.1 c hc).2.2 with k | k
        · exact k.1
        · have := k.1
          rw [h2] at this
          exact absurd this.1 (by decide)
      exact FA_tr (FA_take h.1 hc) (FA_fsec (RL_take h hc h2 h5).1 hc)
    · rw [if_neg h2]; exact FA_fsec h.1 hc
  · rw [if_neg h1]; exact FA_rf
theorem FA_ps2 : ∀ (r i : Nat) (A : ya), FA n j A (f_ps2 r A i).2
  | 0, _, _ => FA_rf
  | r + 1, i, A => by
    rw [f_ps2]
    split
    · exact FA_rf
    · exact FA_tr (FA_sc FA_rf (by decide) (by decide)) (FA_ps2 r (i + 1) _)
/-- the same but for the clock -/
def FB (n j : Nat) (A B : ya) : Prop := (∀ q k, n ≤ q → cr B q k = cr A q k) ∧ (∀ i k, j ≤ i → jb B i k = jb A i k) ∧ sc B 8 = sc A 8 ∧ sc B 4 = sc A 4 + 1
theorem FB_ps1 (h3 : n ≤ 3) : ∀ (r i : Nat) (A : ya) (X : mm_M), RL n j T A X → i ≤ n → n < i + r → FB n j A (f_ps1 r A i).2
  | 0, _, _, _, _, _, h => absurd h (by omega)
  | r + 1, i, A, X, h, hi, hr => by
    have hn := h.1.1.2.2.1
    rw [f_ps1]
    by_cases h1 : sc A 0 ≤ nI i
    · rw [if_pos h1]
      have f1 : FA n j (usc A 4 (sc A 4 + 1)) (f_ps2 4 (usc A 4 (sc A 4 + 1)) 1).2 := FA_ps2 4 1 _
      exact ⟨f1.1, f1.2.1, f1.2.2.1, f1.2.2.2⟩
    · rw [if_neg h1]
      have lt : i < n := nI_sl hn (by omega) hi h1
      have f1 : FA n j A (f_tick A i) := FA_tick h lt
      have f2 : FB n j (f_tick A i) (f_ps1 r (f_tick A i) (i + 1)).2 := FB_ps1 h3 r (i + 1) _ _ (RL_tick h lt) lt (by omega)
      exact ⟨fun q k a => (f2.1 q k a).trans (f1.1 q k a), fun i k a => (f2.2.1 i k a).trans (f1.2.1 i k a), f2.2.2.1.trans f1.2.2.1, f2.2.2.2.trans (by rw [f1.2.2.2])⟩
theorem FB_second (h : RL n j T A X) : FB n j A (f_Yd_passSecond A).2 := FB_ps1 h.1.1.1 4 0 A X h (Nat.zero_le _) (by have := h.1.1.1; omega)
end FRA
