/-! THE REFERENCE'S SEARCH IS THE SEARCH -/
theorem iw_spec {X : mm_M} {w : List Nat} {v : Nat} (hv : v < 80) (hw : ∀ u ∈ w, u < 80) (h5 : X 5 w.length = nI v) (hl : w.length ≤ 4) : ∀ (b a : List Nat) (r : Nat) (x : Int32), w = a ++ b → rowl (X 5) a.length b → b.length < r → (f_iw r X w.length x a.length = 0 ↔ x = 0 ∧ v / 10 ∉ b.map (· / 10))
  | _, _, 0, _, _, _, h => absurd h (by omega)
  | [], a, r + 1, x, hab, _, _ => by
    rw [List.append_nil] at hab
    subst hab
    rw [f_iw, if_pos (Int32.le_refl _)]
    exact ⟨fun z => ⟨z, by simp⟩, fun z => z.1⟩
  | u :: b, a, r + 1, x, hab, hb, hr => by
    have el : w.length = a.length + b.length + 1 := by rw [hab, List.length_append, List.length_cons]; omega
    rw [List.length_cons] at hr
    have e : X 5 a.length = nI u := hb.1
    have u80 := hw u (by rw [hab]; exact List.mem_append_right _ List.mem_cons_self)
    have ih := fun x => iw_spec hv hw h5 hl b (a ++ [u]) r x (by rw [hab]; simp) (by rw [List.length_append]; exact hb.2) (by omega)
    rw [show (a ++ [u]).length = a.length + 1 by simp] at ih
    rw [f_iw, if_neg (fun z => by have := (nI_leI (by omega) (by omega)).mp z; omega), e, h5]
    have ed : ∀ y, y < 80 → nI y / 10 = nI (y / 10) := fun y hy => by rw [show (10 : Int32) = nI 10 from rfl, pk_div (by omega) (by decide) (by decide)]
    rw [ed u u80, ed v hv, List.map_cons, List.mem_cons]
    by_cases z : x = 0
    · rw [if_pos z]
      by_cases z2 : nI (u / 10) = nI (v / 10)
      · rw [if_pos z2, ih 1]
        have := nI_inj (by omega) (by omega) z2
        exact ⟨fun q => absurd q.1 (by decide), fun q => absurd (Or.inl this.symm) q.2⟩
      · rw [if_neg z2, ih 0]
        have hne : v / 10 ≠ u / 10 := fun e => z2 (by rw [e])
        exact ⟨fun q => ⟨z, fun y => y.elim hne q.2⟩, fun q => ⟨rfl, fun y => q.2 (Or.inr y)⟩⟩
    · rw [if_neg z, ih 1]
      exact ⟨fun q => absurd q.1 (by decide), fun q => absurd q.1 z⟩
section RSIM
variable {n j T : Nat} {B : ya} {X0 X : mm_M} {f t : Nat} {fin : List Nat → Option Nat}
theorem reach_eq (h : RL n j T B X) {c i : Nat} (hc : c < n) (hi : i < j) : f_Mo_reaches X c i = f_Cr_reaches B c i := by
  unfold f_Mo_reaches f_Cr_reaches
  rw [← rd_j h.2.1 hi (by decide), ← rd_j h.2.1 hi (by decide), ← rd_c1 h.2.1 hc, ← rd_c2 h.2.1 hc]
  rfl
theorem may_iff {w : List Nat} {v : Nat} (h : RL n j T B X) (hv : v < 10 * j) (hw : ss_ext (10 * j) (mayb n B) [] w) (hl : w.length ≤ 4) (h5 : rowl (X 5) 0 w) (hk : X 5 w.length = nI v) : ¬ f_Mo_may X w.length = 0 ↔ mayb n B w v = true := by
  have h8 := h.1.1.2.1
  have h3 := h.1.1.1
  have hw80 : ∀ u ∈ w, u < 80 := fun u hu => by
    have := ((ext_VW.mp hw).1 u hu).1
    omega
  have hin : f_Mo_isInWay X w.length = 0 ↔ _ := iw_spec (v := v) (by omega) hw80 hk hl w [] 6 0 rfl h5 (by omega)
  unfold f_Mo_may
  rw [mayb_iff, hk, show (10 : Int32) = nI 10 from rfl, pk_rem (by omega) (by decide) (by decide), ix_nI (by omega)]
  have e1 : X 0 1 ≤ nI (v % 10) ↔ ¬ v % 10 < n := by
    rw [show X 0 1 = nI n from (rd_s0 h.2.1).symm.trans h.1.1.2.2.1, nI_leI (by omega) (by omega)]
    omega
  by_cases z1 : X 0 1 ≤ nI (v % 10)
  · rw [if_pos z1]
    exact ⟨fun q => absurd rfl q, fun q => absurd q.1 (e1.mp z1)⟩
  · rw [if_neg z1]
    have hc : v % 10 < n := Classical.byContradiction fun q => z1 (e1.mpr q)
    have ej : f_Mo_ofJob X (v / 10) 3 = jb B (v / 10) 3 := (rd_j h.2.1 (by omega) (by decide)).symm
    rw [ej, reach_eq h hc (by omega)]
    by_cases z2 : jb B (v / 10) 3 = 0
    · rw [if_pos z2]
      by_cases z3 : f_Mo_isInWay X w.length = 0
      · rw [if_pos z3]
        by_cases z4 : f_Cr_reaches B (v % 10) (v / 10) = 0
        · rw [if_pos z4]
          exact ⟨fun q => absurd rfl q, fun q => absurd z4 q.2.2.2⟩
        · rw [if_neg z4]
          exact ⟨fun _ => ⟨hc, z2, (hin.mp z3).2, z4⟩, fun _ => by decide⟩
      · rw [if_neg z3]
        exact ⟨fun q => absurd rfl q, fun q => absurd (hin.mpr ⟨rfl, q.2.2.1⟩) z3⟩
    · rw [if_neg z2]
      exact ⟨fun q => absurd rfl q, fun q => absurd q.2.1 z2⟩
/-- the reference's rows for what the search holds -/
def RR (f t : Nat) (s : Option (Nat × List Nat)) (X : mm_M) (l : Int32) : Prop := match s with
  | none => l = -1 ∧ X 0 12 = 0
  | some q => l = nI q.1 ∧ q.1 ≤ t ∧ q.2.length = f ∧ X 0 12 = nI f ∧ rowl (X 6) 0 q.2
theorem RR_up {s : Option (Nat × List Nat)} {l : Int32} {k : Nat} {v : Int32} (h : RR f t s X l) : RR f t s (mm_up X 5 k v) l := by
  cases s with
  | none => exact ⟨h.1, (by simp [mm_up] : mm_up X 5 k v 0 12 = X 0 12).trans h.2⟩
  | some q => exact ⟨h.1, h.2.1, h.2.2.1, (by simp [mm_up] : mm_up X 5 k v 0 12 = X 0 12).trans h.2.2.2.1, rowl_congr _ _ (fun y _ _ => by simp [mm_up]) h.2.2.2.2⟩
theorem cpb_spec : ∀ (w : List Nat) (i : Nat) (X : mm_M), rowl (X 5) i w → (∀ a q, a ≠ 6 → rp_cpb X w.length i a q = X a q) ∧ rowl (rp_cpb X w.length i 6) i w ∧ ∀ q, q < i → rp_cpb X w.length i 6 q = X 6 q
  | [], i, X, _ => ⟨fun _ _ _ => rfl, trivial, fun _ _ => rfl⟩
  | v :: w, i, X, h => by
    rw [List.length_cons, rp_cpb]
    obtain ⟨a1, a2, a3⟩ := cpb_spec w (i + 1) (mm_up X 6 i (X 5 i)) (rowl_congr _ _ (fun k _ _ => by simp [mm_up]) h.2)
    exact ⟨fun a q ha => (a1 a q ha).trans (by simp [mm_up, ha]), ⟨(a3 i (by omega)).trans (by rw [mm_up_at]; exact h.1), a2⟩, fun q hq => (a3 q (by omega)).trans (by simp [mm_up]; omega)⟩
theorem leaf_sim {w : List Nat} {s : Option (Nat × List Nat)} {l : Int32} (h : RL n j T B X0) (hT : T + 4 < 2 ^ 31) (h4 : f ≤ 4) (ht : t ≤ 300) (hF : ∀ w, fin w = finA t (w.foldl hnd B)) (hs : sw X0 X) (hl : w.length = f) (hw : ss_ext (10 * j) (mayb n B) [] w) (h5 : rowl (X 5) 0 w) (hR : RR f t s X l) :
    sw X0 (rp_leaf t f (X, l)).1 ∧ rowl ((rp_leaf t f (X, l)).1 5) 0 w ∧ RR f t (ss_stp fin s w) (rp_leaf t f (X, l)).1 (rp_leaf t f (X, l)).2 := by
  obtain ⟨s1, s2, s3⟩ := secondsOf_spec (RL_sw h hs) (ext_VW.mp hw) hT hl h4 ht h5
  unfold rp_leaf ss_stp
  rw [hF]
  simp only
  have hle : ∀ k, finA t (w.foldl hnd B) = some k → k ≤ t := fun k hk => finA_le _ _ _ hk
  generalize finA t (w.foldl hnd B) = F at s1 hle
  generalize (f_Mo_secondsOf X f t).1 = y at s1
  generalize (f_Mo_secondsOf X f t).2 = Y at s2 s3
  have hsY : sw X0 Y := sw_tr hs ⟨fun q _ => s2 0 q (by decide) (by decide), fun q => s2 1 q (by decide) (by decide), fun q => s2 2 q (by decide) (by decide), s3⟩
  have h5Y : rowl (Y 5) 0 w := rowl_congr _ _ (fun k _ _ => s2 5 k (by decide) (by decide)) h5
  have hRY : RR f t s Y l := by
    cases s with
    | none => exact ⟨hR.1, (s2 0 12 (by decide) (by decide)).trans hR.2⟩
    | some q => exact ⟨hR.1, hR.2.1, hR.2.2.1, (s2 0 12 (by decide) (by decide)).trans hR.2.2.2.1, rowl_congr _ _ (fun k _ _ => s2 6 k (by decide) (by decide)) hR.2.2.2.2⟩
  have keep : ∀ k, k ≤ t → y = nI k → sw X0 (rp_cpb (mm_up Y 0 12 (nI f)) f 0) ∧ rowl (rp_cpb (mm_up Y 0 12 (nI f)) f 0 5) 0 w ∧ RR f t (some (k, w)) (rp_cpb (mm_up Y 0 12 (nI f)) f 0) y := fun k hk hy => by
    obtain ⟨a1, a2, -⟩ := cpb_spec w 0 (mm_up Y 0 12 (nI f)) (rowl_congr _ _ (fun k _ _ => by simp [mm_up]) h5Y)
    rw [hl] at a1 a2
    have hs1 : sw X0 (mm_up Y 0 12 (nI f)) := sw_up hsY (Or.inr ⟨rfl, rfl⟩)
    refine ⟨sw_tr hs1 ⟨fun q _ => a1 0 q (by decide), fun q => a1 1 q (by decide), fun q => a1 2 q (by decide), fun q _ => a1 3 q (by decide)⟩, rowl_congr _ _ (fun k _ _ => (a1 5 k (by decide)).trans (by simp [mm_up])) h5Y, hy, hk, hl, (a1 0 12 (by decide)).trans (by rw [mm_up_at]), a2⟩
  cases F with
  | none =>
    simp only at s1
    rw [s1, if_pos (by decide)]
    exact ⟨hsY, h5Y, hRY⟩
  | some k =>
    simp only at s1
    have hk := hle k rfl
    have n0 : ¬ y < 0 := by rw [s1]; exact rp_nn (by omega)
    rw [if_neg n0]
    cases s with
    | none =>
      have l1 : l = -1 := hR.1
      rw [if_pos (Or.inl (by rw [l1]; decide))]
      exact keep k hk s1
    | some q =>
      have l1 : l = nI q.1 := hR.1
      have q1 : q.1 ≤ t := hR.2.1
      have e : (l < 0 ∨ y < l) ↔ k < q.1 := by
        rw [s1, l1, xa_lt (x := nI k), nI_toInt (by omega), nI_toInt (by omega)]
        constructor
        · rintro (z | z)
          · exact absurd z (rp_nn (by omega))
          · omega
        · intro z
          exact Or.inr (by omega)
      simp only
      by_cases z : k < q.1
      · rw [if_pos (e.mpr z), if_pos z]
        exact keep k hk s1
      · rw [if_neg (fun y => z (e.mp y)), if_neg z]
        exact ⟨hsY, h5Y, hRY⟩
theorem next_spec {w : List Nat} (h : RL n j T B X0) (hw : ss_ext (10 * j) (mayb n B) [] w) (hl : w.length ≤ 4) : ∀ (r v : Nat) (X : mm_M), sw X0 X → rowl (X 5) 0 w → X 5 w.length = nI v → v ≤ 10 * j → 10 * j < v + r → ∃ u, v ≤ u ∧ u ≤ 10 * j ∧ rp_next r X w.length = mm_up X 5 w.length (nI u) ∧ (∀ y, v ≤ y → y < u → mayb n B w y = false) ∧ (u < 10 * j → mayb n B w u = true)
  | 0, v, X, _, _, _, _, hr => absurd hr (by omega)
  | r + 1, v, X, hs, h5, hk, hv, hr => by
    have h8 := h.1.1.2.1
    have hX := RL_sw h hs
    have e05 : X 0 5 = nI j := (rd_s6 hX.2.1).symm.trans h.1.1.2.2.2.1
    have same : mm_up X 5 w.length (nI v) = X := by
      rw [← hk]
      funext a b
      simp only [mm_up]
      split
      · rename_i z; rw [z.1, z.2]
      · rfl
    rw [rp_next]
    by_cases z1 : 10 * X 0 5 ≤ X 5 w.length
    · rw [if_pos z1]
      have : ¬ v < 10 * j := (rp_lt10 h8 e05 hk hv).mp z1
      exact ⟨v, Nat.le_refl _, hv, same.symm, fun y a b => by omega, fun z => by omega⟩
    · rw [if_neg z1]
      have lt : v < 10 * j := Classical.byContradiction fun z => z1 ((rp_lt10 h8 e05 hk hv).mpr z)
      have hm := may_iff hX lt hw hl h5 hk
      by_cases z2 : f_Mo_may X w.length = 0
      · rw [if_pos z2, hk, nI_1]
        obtain ⟨u, a1, a2, a3, a4, a5⟩ := next_spec h hw hl r (v + 1) (mm_up X 5 w.length (nI (v + 1))) (sw_up hs (Or.inl (by decide))) (rowl_congr _ _ (fun k _ hk => by simp [mm_up]; omega) h5) (mm_up_at _ _ _ _) lt (by omega)
        refine ⟨u, by omega, a2, by rw [a3, mm_up_up], fun y b1 b2 => ?_, a5⟩
        by_cases e : y = v
        · subst e
          cases hb : mayb n B w y with
          | false => rfl
          | true => exact absurd z2 (hm.mpr hb)
        · exact a4 y (by omega) b2
      · rw [if_neg z2]
        exact ⟨v, Nat.le_refl _, hv, same.symm, fun y a b => by omega, fun _ => hm.mp z2⟩
def stpR (n j : Nat) (B : ya) (fin : List Nat → Option Nat) (p : Nat) (w : List Nat) (v : Nat) (s : Option (Nat × List Nat)) : Option (Nat × List Nat) := if mayb n B w v = true then ss_go (10 * j) fin (mayb n B) p (w ++ [v]) s else s
theorem lev_sim {p : Nat} {w : List Nat} {g : mm_M × Int32 → mm_M × Int32} (h : RL n j T B X0) (hw : ss_ext (10 * j) (mayb n B) [] w) (hl : w.length < 4)
    (hg : ∀ v X l s, ss_ext (10 * j) (mayb n B) [] (w ++ [v]) → sw X0 X → rowl (X 5) 0 (w ++ [v]) → X 5 (w.length + 1) = -1 → RR f t s X l → sw X0 (g (X, l)).1 ∧ rowl ((g (X, l)).1 5) 0 (w ++ [v]) ∧ RR f t (ss_go (10 * j) fin (mayb n B) p (w ++ [v]) s) (g (X, l)).1 (g (X, l)).2) :
    ∀ (r v : Nat) (X : mm_M) (l : Int32) (s : Option (Nat × List Nat)), sw X0 X → rowl (X 5) 0 w → X 5 w.length + 1 = nI v → v ≤ 10 * j → 10 * j < v + r → RR f t s X l → sw X0 (rp_lev g w.length r (X, l)).1 ∧ rowl ((rp_lev g w.length r (X, l)).1 5) 0 w ∧ RR f t (ss_lvl (stpR n j B fin p w) (10 * j - v) v s) (rp_lev g w.length r (X, l)).1 (rp_lev g w.length r (X, l)).2
  | 0, v, X, l, s, _, _, _, _, hr, _ => absurd hr (by omega)
  | r + 1, v, X, l, s, hs, h5, hk, hv, hr, hR => by
    have h8 := h.1.1.2.1
    have lowk : ∀ (Y : mm_M) (x : Int32), rowl (Y 5) 0 w → rowl (mm_up Y 5 w.length x 5) 0 w := fun Y x hY => rowl_congr _ _ (fun k _ hk => by simp [mm_up]; omega) hY
    obtain ⟨u, a1, a2, a3, a4, a5⟩ := next_spec h hw (by omega) 82 v (mm_up X 5 w.length (nI v)) (sw_up hs (Or.inl (by decide))) (lowk X _ h5) (mm_up_at _ _ _ _) hv (by omega)
    rw [mm_up_up] at a3
    have hsU : sw X0 (mm_up X 5 w.length (nI u)) := sw_up hs (Or.inl (by decide))
    have e05 : mm_up X 5 w.length (nI u) 0 5 = nI j := (rd_s6 (RL_sw h hsU).2.1).symm.trans h.1.1.2.2.2.1
    have hlt := rp_lt10 h8 e05 (mm_up_at X 5 w.length (nI u)) a2
    have hsk : ∀ m' s, v + m' ≤ u → ss_lvl (stpR n j B fin p w) m' v s = s := fun m' s hm => ss_lvl_id m' v (fun y b1 b2 => by
      unfold stpR
      rw [a4 y b1 (by omega), if_neg (by decide)])
    rw [rp_lev]
    simp only
    rw [hk, a3]
    by_cases z : 10 * mm_up X 5 w.length (nI u) 0 5 ≤ mm_up X 5 w.length (nI u) 5 w.length
    · rw [if_pos z]
      have eu : u = 10 * j := by have := hlt.mp z; omega
      rw [hsk _ _ (by omega)]
      exact ⟨hsU, lowk X _ h5, RR_up hR⟩
    · rw [if_neg z]
      have lt : u < 10 * j := Classical.byContradiction fun q => z (hlt.mpr q)
      have hm := a5 lt
      have hx : ss_ext (10 * j) (mayb n B) [] (w ++ [u]) := (ss_ext_app w _ []).mpr ⟨hw, lt, hm, trivial⟩
      have r5 : rowl (mm_up (mm_up X 5 w.length (nI u)) 5 (w.length + 1) (-1) 5) 0 (w ++ [u]) := by
        rw [rowl_app, Nat.zero_add]
        refine ⟨rowl_congr _ _ (fun k _ hk => ?_) h5, ?_, trivial⟩
        · simp only [mm_up]
          rw [if_neg (by omega), if_neg (by omega)]
        · simp only [mm_up]
          rw [if_neg (by omega), if_pos ⟨trivial, trivial⟩]
      obtain ⟨g1, g2, g3⟩ := hg u (mm_up (mm_up X 5 w.length (nI u)) 5 (w.length + 1) (-1)) l s hx (sw_up hsU (Or.inl (by decide))) r5 (mm_up_at _ _ _ _) (RR_up (RR_up hR))
      generalize g (mm_up (mm_up X 5 w.length (nI u)) 5 (w.length + 1) (-1), l) = S at g1 g2 g3
      obtain ⟨X', l'⟩ := S
      rw [rowl_app, Nat.zero_add] at g2
      have ek : X' 5 w.length = nI u := g2.2.1
      have es : ss_lvl (stpR n j B fin p w) (10 * j - v) v s = ss_lvl (stpR n j B fin p w) (10 * j - (u + 1)) (u + 1) (ss_go (10 * j) fin (mayb n B) p (w ++ [u]) s) := by
        rw [show 10 * j - v = (u - v) + ((10 * j - (u + 1)) + 1) by omega, ss_lvl_add, hsk _ _ (by omega), show v + (u - v) = u by omega, ss_lvl]
        congr 1
        unfold stpR
        rw [if_pos hm]
      rw [es]
      exact lev_sim h hw hl hg r (u + 1) X' l' _ g1 g2.1 (by rw [ek, nI_1]) lt (by omega) g3
theorem ref_sim (h : RL n j T B X0) (hT : T + 4 < 2 ^ 31) (h4 : f ≤ 4) (ht : t ≤ 300) (hF : ∀ w, fin w = finA t (w.foldl hnd B)) : ∀ (e : Nat) (w : List Nat) (X : mm_M) (l : Int32) (s : Option (Nat × List Nat)), w.length + e = f → ss_ext (10 * j) (mayb n B) [] w → sw X0 X → rowl (X 5) 0 w → (e ≠ 0 → X 5 w.length = -1) → RR f t s X l → sw X0 (rp_go t f e w.length (X, l)).1 ∧ rowl ((rp_go t f e w.length (X, l)).1 5) 0 w ∧ RR f t (ss_go (10 * j) fin (mayb n B) e w s) (rp_go t f e w.length (X, l)).1 (rp_go t f e w.length (X, l)).2
  | 0, w, X, l, s, hl, hw, hs, h5, _, hR => leaf_sim h hT h4 ht hF hs (by omega) hw h5 hR
  | e + 1, w, X, l, s, hl, hw, hs, h5, h1, hR => by
    have key := lev_sim (f := f) (t := t) (fin := fin) (p := e) (g := rp_go t f e (w.length + 1)) h hw (by omega) (fun v X l s hx hs h5 hm hR => by
      have el : (w ++ [v]).length = w.length + 1 := by simp
      have := ref_sim h hT h4 ht hF e (w ++ [v]) X l s (by omega) hx hs h5 (fun _ => by rw [el]; exact hm) hR
      rw [el] at this
      exact this) 82 0 X l s hs h5 (by rw [h1 (by omega)]; rfl) (Nat.zero_le _) (by have := h.1.1.2.1; omega) hR
    rw [ss_go]
    exact key
end RSIM
