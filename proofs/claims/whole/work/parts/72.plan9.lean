/-! extendWay's loops and the search's levels -/
section SIM2
variable {n j T : Nat} {B : ya} {X : mm_M} {f t : Nat} {fin : List Nat → Option Nat}
def stpC (n j : Nat) (B : ya) (fin : List Nat → Option Nat) (p : Nat) (w : List Nat) (v : Nat) (s : Option (Nat × List Nat)) : Option (Nat × List Nat) := if (mayb n B w v && kpb w v) = true then ss_go (10 * j) fin (fun w v => mayb n B w v && kpb w v) p (w ++ [v]) s else s
theorem go_stpC {p : Nat} {w : List Nat} {s : Option (Nat × List Nat)} : ss_go (10 * j) fin (fun w v => mayb n B w v && kpb w v) (p + 1) w s = ss_lvl (stpC n j B fin p w) (10 * j) 0 s := by
  rw [ss_go]
  rfl
theorem stpC_no {p : Nat} {w : List Nat} {v : Nat} {s : Option (Nat × List Nat)} (h : ¬ (v % 10 < n ∧ jb B (v / 10) 3 = 0 ∧ v / 10 ∉ w.map (· / 10) ∧ ¬ f_Cr_reaches B (v % 10) (v / 10) = 0)) : stpC n j B fin p w v s = s := by
  unfold stpC
  rw [if_neg (fun z => h (mayb_iff.mp (by rw [Bool.and_eq_true] at z; exact z.1)))]
/-- what the next level does -/
def gOK (n j f t : Nat) (B : ya) (fin : List Nat → Option Nat) (p : Nat) (w : List Nat) (g : mm_M × ya → mm_M × ya) : Prop := ∀ (v : Nat) (A : mm_M × ya) (s : Option (Nat × List Nat)), ss_ext (10 * j) (mayb n B) [] (w ++ [v]) → EW (w ++ [v]) ((w ++ [v]).map (· / 10)) A.1 → CR f t s A.1 → EW (w ++ [v]) ((w ++ [v]).map (· / 10)) (g A).1 ∧ CR f t (ss_go (10 * j) fin (fun w v => mayb n B w v && kpb w v) p (w ++ [v]) s) (g A).1
theorem ec_one {p : Nat} {w : List Nat} {g : mm_M × ya → mm_M × ya} {jj c : Nat} {A : mm_M × ya} {s : Option (Nat × List Nat)} (hg : gOK n j f t B fin p w g) (hw : ss_ext (10 * j) (mayb n B) [] w) (hjj : jj < j) (hfree : jb B jj 3 = 0) (hnew : jj ∉ w.map (· / 10)) (hc : c < n) (h3 : n ≤ 3) (hre : ¬ f_Cr_reaches B c jj = 0) (hE : EW w (jj :: w.map (· / 10)) A.1) (hs : CR f t s A.1) :
    (ss_ext (10 * j) (mayb n B) [] (w ++ [10 * jj + c]) ∧ EW (w ++ [10 * jj + c]) ((w ++ [10 * jj + c]).map (· / 10)) (ucv (ucv A 2 w.length (nI jj)) 3 w.length (nI c)).1 ∧ CR f t s (ucv (ucv A 2 w.length (nI jj)) 3 w.length (nI c)).1) ∧ EW w (jj :: w.map (· / 10)) (g (ucv (ucv A 2 w.length (nI jj)) 3 w.length (nI c))).1 ∧ CR f t (ss_go (10 * j) fin (fun w v => mayb n B w v && kpb w v) p (w ++ [10 * jj + c]) s) (g (ucv (ucv A 2 w.length (nI jj)) 3 w.length (nI c))).1 := by
  have e1 : (10 * jj + c) / 10 = jj := by omega
  have e2 : (10 * jj + c) % 10 = c := by omega
  have hmem : ∀ i, i ∈ jj :: w.map (· / 10) ↔ i ∈ (w ++ [10 * jj + c]).map (· / 10) := fun i => by
    rw [List.map_append, List.mem_append, List.mem_cons, List.map_cons, e1, List.map_nil, List.mem_singleton]
    exact Or.comm
  have hx : ss_ext (10 * j) (mayb n B) [] (w ++ [10 * jj + c]) := (ss_ext_app w _ []).mpr ⟨hw, by omega, by rw [List.nil_append, mayb_iff, e1, e2]; exact ⟨hc, hfree, hnew, hre⟩, trivial⟩
  have hE2 : EW (w ++ [10 * jj + c]) ((w ++ [10 * jj + c]).map (· / 10)) (ucv (ucv A 2 w.length (nI jj)) 3 w.length (nI c)).1 := by
    have := EW_up (v := 10 * jj + c) hE hmem
    rw [e1, e2] at this
    exact this
  have hs2 : CR f t s (ucv (ucv A 2 w.length (nI jj)) 3 w.length (nI c)).1 := CR_up (CR_up hs (by decide) (by decide)) (by decide) (by decide)
  obtain ⟨r1, r2⟩ := hg _ _ s hx hE2 hs2
  exact ⟨⟨hx, hE2, hs2⟩, EW_dn r1 hmem, r2⟩
theorem ec_sim {p : Nat} {w : List Nat} {g : mm_M × ya → mm_M × ya} {jj : Nat} (hg : gOK n j f t B fin p w g) (hw : ss_ext (10 * j) (mayb n B) [] w) (hl : w.length < 4) (hn : sc B 0 = nI n) (h3 : n ≤ 3) (h8 : j ≤ 8) (hjj : jj < j) (hfree : jb B jj 3 = 0) (hnew : jj ∉ w.map (· / 10)) : ∀ (r c : Nat) (A : mm_M × ya) (s : Option (Nat × List Nat)), c ≤ n → n < c + r → EW w (jj :: w.map (· / 10)) A.1 → CR f t s A.1 → EW w (jj :: w.map (· / 10)) (f_ec g r A B w.length jj c).1 ∧ CR f t (ss_lvl (stpC n j B fin p w) (10 - c) (10 * jj + c) s) (f_ec g r A B w.length jj c).1
  | 0, c, A, s, _, h, _, _ => absurd h (by omega)
  | r + 1, c, A, s, hc, hr, hE, hs => by
    have hv80 : ∀ v ∈ w, v < 80 := fun v hv => by
      have := ((ext_VW.mp hw).1 v hv).1
      omega
    rw [f_ec]
    by_cases h1 : sc B 0 ≤ nI c
    · rw [if_pos h1]
      have e : c = n := by
        rw [hn] at h1
        have := (nI_leI (by omega) (by omega)).mp h1
        omega
      rw [ss_lvl_id (10 - c) (10 * jj + c) (fun u a b => stpC_no (fun z => by have := z.1; omega))]
      exact ⟨hE, hs⟩
    · rw [if_neg h1]
      have lt : c < n := nI_sl hn (by omega) hc h1
      have e1 : (10 * jj + c) / 10 = jj := by omega
      have e2 : (10 * jj + c) % 10 = c := by omega
      rw [show 10 - c = (10 - (c + 1)) + 1 by omega, ss_lvl, show 10 * jj + c + 1 = 10 * jj + (c + 1) by omega]
      by_cases h2 : f_Cr_reaches B c jj = 0
      · rw [if_pos h2, stpC_no (v := 10 * jj + c) (fun z => by rw [e1, e2] at z; exact z.2.2.2 h2)]
        exact ec_sim hg hw hl hn h3 h8 hjj hfree hnew r (c + 1) A s lt (by omega) hE hs
      · rw [if_neg h2]
        have ht := tried_iff (jj := jj) (c := c) hE hv80 hl (by omega) (by omega)
        have hmay : mayb n B w (10 * jj + c) = true := by rw [mayb_iff, e1, e2]; exact ⟨lt, hfree, hnew, h2⟩
        by_cases h4 : f_Pl_isTriedAlready A.1 w.length (nI jj) (nI c) = 0
        · rw [if_pos h4]
          obtain ⟨-, r1, r2⟩ := ec_one hg hw hjj hfree hnew lt h3 h2 hE hs
          have es : stpC n j B fin p w (10 * jj + c) s = ss_go (10 * j) fin (fun w v => mayb n B w v && kpb w v) p (w ++ [10 * jj + c]) s := by
            unfold stpC
            rw [if_pos (by rw [hmay, ht.mp h4]; rfl)]
          rw [es]
          exact ec_sim hg hw hl hn h3 h8 hjj hfree hnew r (c + 1) _ _ lt (by omega) r1 r2
        · rw [if_neg h4]
          have es : stpC n j B fin p w (10 * jj + c) s = s := by
            unfold stpC
            rw [if_neg (fun z => h4 (ht.mpr (by rw [Bool.and_eq_true] at z; exact z.2)))]
          rw [es]
          exact ec_sim hg hw hl hn h3 h8 hjj hfree hnew r (c + 1) A s lt (by omega) hE hs
theorem EW_mark {w : List Nat} {P : mm_M} {jj : Nat} (h : EW w (w.map (· / 10)) P) : EW w (jj :: w.map (· / 10)) (mm_up P 1 jj 1) := by
  obtain ⟨a1, a2, a3⟩ := h
  refine ⟨rowl_congr _ _ (fun k _ _ => by simp [mm_up]) a1, rowl_congr _ _ (fun k _ _ => by simp [mm_up]) a2, fun i hi => ?_⟩
  by_cases e : i = jj
  · subst e
    rw [mm_up_at, if_pos List.mem_cons_self]
  · rw [show mm_up P 1 jj 1 1 i = P 1 i by simp [mm_up, e], a3 i hi]
    by_cases z : i ∈ w.map (· / 10)
    · rw [if_pos z, if_pos (List.mem_cons_of_mem _ z)]
    · rw [if_neg z, if_neg (fun q => (List.mem_cons.mp q).elim e z)]
theorem EW_unmark {w : List Nat} {P : mm_M} {jj : Nat} (h : EW w (jj :: w.map (· / 10)) P) (hnew : jj ∉ w.map (· / 10)) : EW w (w.map (· / 10)) (mm_up P 1 jj 0) := by
  obtain ⟨a1, a2, a3⟩ := h
  refine ⟨rowl_congr _ _ (fun k _ _ => by simp [mm_up]) a1, rowl_congr _ _ (fun k _ _ => by simp [mm_up]) a2, fun i hi => ?_⟩
  by_cases e : i = jj
  · subst e
    rw [mm_up_at, if_neg hnew]
  · rw [show mm_up P 1 jj 0 1 i = P 1 i by simp [mm_up, e], a3 i hi]
    by_cases z : i ∈ w.map (· / 10)
    · rw [if_pos z, if_pos (List.mem_cons_of_mem _ z)]
    · rw [if_neg z, if_neg (fun q => (List.mem_cons.mp q).elim e z)]
theorem EW_0 {w ps : List Nat} {P : mm_M} {i : Nat} (h : EW w ps P) (hi : i < 8) : P 1 i = 0 ↔ i ∉ ps := by
  rw [h.2.2 i hi]
  by_cases z : i ∈ ps
  · rw [if_pos z]; exact ⟨fun q => absurd q (by decide), fun q => absurd z q⟩
  · rw [if_neg z]; exact ⟨fun _ => z, fun _ => rfl⟩
theorem ej_sim {p : Nat} {w : List Nat} {g : mm_M × ya → mm_M × ya} (hg : gOK n j f t B fin p w g) (hw : ss_ext (10 * j) (mayb n B) [] w) (hl : w.length < 4) (hn : sc B 0 = nI n) (h3 : n ≤ 3) (hjn : sc B 6 = nI j) (h8 : j ≤ 8) : ∀ (r jj : Nat) (A : mm_M × ya) (s : Option (Nat × List Nat)), jj ≤ j → j < jj + r → EW w (w.map (· / 10)) A.1 → CR f t s A.1 → EW w (w.map (· / 10)) (f_ej g r A B w.length jj).1 ∧ CR f t (ss_lvl (stpC n j B fin p w) (10 * (j - jj)) (10 * jj) s) (f_ej g r A B w.length jj).1
  | 0, jj, A, s, _, h, _, _ => absurd h (by omega)
  | r + 1, jj, A, s, hj, hr, hE, hs => by
    rw [f_ej]
    by_cases h1 : sc B 6 ≤ nI jj
    · rw [if_pos h1]
      have e : jj = j := by
        rw [hjn] at h1
        have := (nI_leI (by omega) (by omega)).mp h1
        omega
      subst e
      rw [Nat.sub_self, Nat.mul_zero]
      exact ⟨hE, hs⟩
    · rw [if_neg h1]
      have lt : jj < j := nI_sl hjn (by omega) hj h1
      have hsp : ∀ s, ss_lvl (stpC n j B fin p w) (10 * (j - jj)) (10 * jj) s = ss_lvl (stpC n j B fin p w) (10 * (j - (jj + 1))) (10 * (jj + 1)) (ss_lvl (stpC n j B fin p w) 10 (10 * jj) s) := fun s => by
        rw [show 10 * (j - jj) = 10 + 10 * (j - (jj + 1)) by omega, ss_lvl_add, show 10 * jj + 10 = 10 * (jj + 1) by omega]
      have hid : (¬ jb B jj 3 = 0 ∨ jj ∈ w.map (· / 10)) → ss_lvl (stpC n j B fin p w) 10 (10 * jj) s = s := fun q => ss_lvl_id 10 (10 * jj) (fun u a b => stpC_no (fun z => by
        rw [show u / 10 = jj by omega] at z
        rcases q with q | q
        · exact q z.2.1
        · exact z.2.2.1 q))
      rw [hsp]
      by_cases h2 : jb B jj 3 = 0
      · rw [if_pos h2]
        by_cases h4 : A.1 1 jj = 0
        · rw [if_pos h4]
          have hnew := (EW_0 hE (by omega)).mp h4
          obtain ⟨r1, r2⟩ := ec_sim hg hw hl hn h3 h8 lt h2 hnew 4 0 (ucv A 1 jj 1) s (Nat.zero_le _) (by omega) (EW_mark hE) (CR_up hs (by decide) (by decide))
          exact ej_sim hg hw hl hn h3 hjn h8 r (jj + 1) _ _ lt (by omega) (EW_unmark r1 hnew) (CR_up r2 (by decide) (by decide))
        · rw [if_neg h4, hid (Or.inr (Classical.byContradiction fun z => h4 ((EW_0 hE (by omega)).mpr z)))]
          exact ej_sim hg hw hl hn h3 hjn h8 r (jj + 1) A s lt (by omega) hE hs
      · rw [if_neg h2, hid (Or.inl h2)]
        exact ej_sim hg hw hl hn h3 hjn h8 r (jj + 1) A s lt (by omega) hE hs
theorem EW_rows {w ps : List Nat} {P Q : mm_M} (h : EW w ps P) (hr : ∀ q x, 1 ≤ q → q < 4 → Q q x = P q x) : EW w ps Q :=
  ⟨rowl_congr _ _ (fun k _ _ => hr 2 k (by decide) (by decide)) h.1, rowl_congr _ _ (fun k _ _ => hr 3 k (by decide) (by decide)) h.2.1, fun i hi => (hr 1 i (by decide) (by decide)).trans (h.2.2 i hi)⟩
theorem ext_sim (h : RL n j T B X) (hT : T + 4 < 2 ^ 31) (h4 : f ≤ 4) (ht : t ≤ 300) (hF : ∀ w, fin w = finA t (w.foldl hnd B)) : ∀ (p : Nat) (w : List Nat) (A : mm_M × ya) (s : Option (Nat × List Nat)), w.length + p = f → ss_ext (10 * j) (mayb n B) [] w → EW w (w.map (· / 10)) A.1 → CR f t s A.1 → EW w (w.map (· / 10)) (F_ext B p w.length A).1 ∧ CR f t (ss_go (10 * j) fin (fun w v => mayb n B w v && kpb w v) p w s) (F_ext B p w.length A).1
  | 0, w, A, s, hl, hw, hE, hs => by
    obtain ⟨r1, r2⟩ := try_sim (C := A.2) (P := A.1) h (ext_VW.mp hw) (by omega) (by omega) h4 ht hE.1 hE.2.1 hs (hF w)
    exact ⟨EW_rows hE r2, r1⟩
  | p + 1, w, A, s, hl, hw, hE, hs => by
    rw [go_stpC]
    refine ej_sim (p := p) (g := F_ext B p (w.length + 1)) ?_ hw (by omega) h.1.1.2.2.1 h.1.1.1 h.1.1.2.2.2.1 h.1.1.2.1 9 0 A s (Nat.zero_le _) (by have := h.1.1.2.1; omega) hE hs
    intro v A s hx hE hs
    have el : (w ++ [v]).length = w.length + 1 := by simp
    have := ext_sim h hT h4 ht hF p (w ++ [v]) A s (by omega) hx hE hs
    rw [el] at this
    exact this
end SIM2
