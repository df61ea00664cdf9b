/-! WHAT HOLDS OF A YARD (n cranes, j jobs) -/
def cntO (A : ya) : Nat → Nat
  | 0 => 0
  | i + 1 => cntO A i + if jb A i 3 = 3 then 0 else 1
def yiS (A : ya) (n j : Nat) : Prop := n ≤ 3 ∧ j ≤ 8 ∧ sc A 0 = nI n ∧ sc A 6 = nI j ∧ (0 < n → (1 ≤ (sc A 1).toInt ∧ (sc A 1).toInt ≤ 30) ∧ (1 ≤ (sc A 2).toInt ∧ (sc A 2).toInt ≤ 20) ∧ (1 ≤ (sc A 3).toInt ∧ (sc A 3).toInt ≤ 30)) ∧ (sc A 8 = 0 ∨ sc A 8 = 1)
def yiB (A : ya) (c : Nat) : Prop := 0 ≤ (cr A c 1).toInt ∧ (cr A c 1).toInt ≤ (cr A c 0).toInt ∧ (cr A c 0).toInt ≤ (cr A c 2).toInt ∧ (cr A c 2).toInt ≤ 200
def yiH (A : ya) (j c : Nat) : Prop := cr A c 5 = 0 ∧ cr A c 4 = -1 ∨ okx j (cr A c 4) ∧ jb A (ix (cr A c 4)) 3 = 2 ∧ jb A (ix (cr A c 4)) 4 = nI c ∧ (cr A c 5 = 1 ∧ cr A c 6 = jb A (ix (cr A c 4)) 0 ∨ cr A c 5 = 3 ∧ cr A c 6 = jb A (ix (cr A c 4)) 1 ∨ (cr A c 5 = 2 ∨ cr A c 5 = 4) ∧ 1 ≤ (cr A c 7).toInt ∧ (cr A c 7).toInt ≤ 30)
def yiC (A : ya) (j c : Nat) : Prop := yiB A c ∧ (cr A c 3 = 0 ∨ cr A c 3 = 1) ∧ yiH A j c
def yiN (A : ya) (n : Nat) : Prop := ∀ c, c + 1 < n → (cr A c 0).toInt + (sc A 1).toInt ≤ (cr A (c + 1) 0).toInt
def yiR (A : ya) (c i : Nat) : Prop := (cr A c 1).toInt ≤ (jb A i 0).toInt ∧ (jb A i 0).toInt ≤ (cr A c 2).toInt ∧ (cr A c 1).toInt ≤ (jb A i 1).toInt ∧ (jb A i 1).toInt ≤ (cr A c 2).toInt
def yiJ (A : ya) (n i : Nat) : Prop := (jb A i 3 = 0 ∨ jb A i 3 = 1 ∨ jb A i 3 = 2 ∨ jb A i 3 = 3) ∧ (jb A i 3 = 1 ∨ jb A i 3 = 2 → ∃ c, c < n ∧ jb A i 4 = nI c ∧ yiR A c i)
def yiQ (A : ya) (j c : Nat) : Prop := (∃ m, m ≤ 8 ∧ cr A c 10 = nI m) ∧ (qs A c).Nodup ∧ (∀ x ∈ qs A c, okx j x ∧ jb A (ix x) 3 = 1 ∧ jb A (ix x) 4 = nI c) ∧ ∀ i, i < j → jb A i 3 = 1 → jb A i 4 = nI c → nI i ∈ qs A c
def yi (n j : Nat) (A : ya) : Prop := yiS A n j ∧ (∀ c, c < n → yiC A j c) ∧ yiN A n ∧ (∀ i, i < j → yiJ A n i) ∧ (∀ c, c < n → yiQ A j c) ∧ sc A 7 = nI (cntO A j)
/-- .. and of both together: T gives so far -/
def rlQ (n j T : Nat) (A : ya) (X : mm_M) : Prop := X 3 2 = nI T ∧ (∀ c, c < n → (qs A c).Pairwise (fun x y => f_Mo_ofJob X (ix x) 6 < f_Mo_ofJob X (ix y) 6)) ∧ ∀ i, i < j → jb A i 3 = 1 → ∃ o, o < T ∧ f_Mo_ofJob X i 6 = nI o
def RL (n j T : Nat) (A : ya) (X : mm_M) : Prop := yi n j A ∧ vA n j A = vX n j X ∧ rlQ n j T A X
theorem cntO_congr {A B : ya} : ∀ {j : Nat}, (∀ i, i < j → (jb B i 3 = 3 ↔ jb A i 3 = 3)) → cntO B j = cntO A j
  | 0, _ => rfl
  | j + 1, h => by
    rw [cntO, cntO, cntO_congr (fun i hi => h i (by omega))]
    by_cases e : jb A j 3 = 3
    · rw [if_pos e, if_pos ((h j (by omega)).mpr e)]
    · rw [if_neg e, if_neg (fun z => e ((h j (by omega)).mp z))]
theorem cntO_le {A : ya} : ∀ j, cntO A j ≤ j
  | 0 => Nat.le_refl _
  | j + 1 => by
    have := cntO_le (A := A) j
    rw [cntO]
    split <;> omega
theorem cntO_down {A B : ya} {q : Nat} : ∀ {j : Nat}, (∀ i, i < j → i ≠ q → (jb B i 3 = 3 ↔ jb A i 3 = 3)) → q < j → jb A q 3 ≠ 3 → jb B q 3 = 3 → cntO A j = cntO B j + 1
  | 0, _, hq, _, _ => absurd hq (by omega)
  | j + 1, h, hq, h1, h2 => by
    rw [cntO, cntO]
    by_cases e : j = q
    · subst e
      rw [if_neg h1, if_pos h2, cntO_congr (A := A) (B := B) (fun i hi => h i (by omega) (by omega))]
    · rw [cntO_down (fun i hi => h i (by omega)) (by omega) h1 h2]
      have e2 := h j (by omega) e
      by_cases e3 : jb A j 3 = 3
      · rw [if_pos e3, if_pos (e2.mpr e3)]
      · rw [if_neg e3, if_neg (fun z => e3 (e2.mp z))]
/-! a crane's own fields change, its job and the queues don't -/
theorem yi_crane {n j : Nat} {A B : ya} {c : Nat} (h : yi n j A) (hc : c < n) (hj : jb B = jb A) (hs : ∀ k, k ≠ 4 → k ≠ 5 → sc B k = sc A k) (hw : wa B = wa A) (hcr : ∀ c' k, (c' ≠ c ∨ k = 1 ∨ k = 2 ∨ k = 3 ∨ k = 10) → cr B c' k = cr A c' k) (hB : yiB B c) (hH : yiH B j c) (hN : yiN B n) : yi n j B := by
  obtain ⟨hS, hC, -, hJ, hQ, hO⟩ := h
  have eq : ∀ c', qs B c' = qs A c' := fun c' => qs_congr (hcr c' 10 (Or.inr (by omega))) (by rw [hw])
  refine ⟨?_, fun c' hc' => ?_, hN, fun i hi => ?_, fun c' hc' => ?_, ?_⟩
  · unfold yiS at hS ⊢
    rw [hs 0 (by decide) (by decide), hs 6 (by decide) (by decide), hs 1 (by decide) (by decide), hs 2 (by decide) (by decide), hs 3 (by decide) (by decide), hs 8 (by decide) (by decide)]
    exact hS
  · by_cases e : c' = c
    · subst e
      exact ⟨hB, by rw [hcr c' 3 (by omega)]; exact (hC c' hc').2.1, hH⟩
    · have g : ∀ k, cr B c' k = cr A c' k := fun k => hcr c' k (Or.inl e)
      have := hC c' hc'
      unfold yiC yiB yiH at this ⊢
      rw [g 0, g 1, g 2, g 3, g 4, g 5, g 6, g 7, hj]
      exact this
  · have := hJ i hi
    unfold yiJ yiR at this ⊢
    rw [hj]
    refine ⟨this.1, fun z => ?_⟩
    obtain ⟨c', a1, a2, a3⟩ := this.2 z
    exact ⟨c', a1, a2, by rw [hcr c' 1 (by omega), hcr c' 2 (by omega)]; exact a3⟩
  · have := hQ c' hc'
    unfold yiQ at this ⊢
    rw [eq c', hcr c' 10 (by omega), hj]
    exact this
  · rw [hs 7 (by decide) (by decide), hO, cntO_congr (A := A) (B := B) (fun i _ => by rw [hj])]
theorem rlQ_same {n j T : Nat} {A B : ya} {X Y : mm_M} (h : rlQ n j T A X) (hj : jb B = jb A) (hw : wa B = wa A) (hcr : ∀ c', cr B c' 10 = cr A c' 10) (h2 : Y 3 2 = X 3 2) (h6 : ∀ i, f_Mo_ofJob Y i 6 = f_Mo_ofJob X i 6) : rlQ n j T B Y := by
  obtain ⟨a1, a2, a3⟩ := h
  refine ⟨h2.trans a1, fun c hc => ?_, fun i hi => ?_⟩
  · rw [qs_congr (hcr c) (by rw [hw])]
    simp only [h6]
    exact a2 c hc
  · rw [hj, h6]; exact a3 i hi
theorem ucr_self {A : ya} {c k : Nat} : ucr A c k (cr A c k) = A := by
  refine yv_ext (fun c' k' => ?_) (fun _ _ => rfl) (fun _ => rfl) (fun _ _ => rfl) (fun _ _ => rfl)
  show (if c' = c ∧ k' = k then cr A c k else cr A c' k') = cr A c' k'
  by_cases h : c' = c ∧ k' = k
  · rw [if_pos h, h.1, h.2]
  · rw [if_neg h]
theorem ucr_cr {A : ya} {c k c' k' : Nat} {v : Int32} : cr (ucr A c k v) c' k' = if c' = c ∧ k' = k then v else cr A c' k' := rfl
theorem ucr_ne {A : ya} {c k c' k' : Nat} {v : Int32} (h : c' ≠ c ∨ k' ≠ k) : cr (ucr A c k v) c' k' = cr A c' k' := by
  rw [ucr_cr, if_neg (by omega)]
theorem ucr_at {A : ya} {c k : Nat} {v : Int32} : cr (ucr A c k v) c k = v := mm_up_at _ _ _ _
/-! MOVING -/
theorem mv_dn {p t s f : Int32} (hp : 0 ≤ p.toInt ∧ p.toInt ≤ 200) (ht : 0 ≤ t.toInt) (htp : ¬ p ≤ t) (hs : 1 ≤ s.toInt ∧ s.toInt ≤ 20) (hf : 0 ≤ f.toInt ∧ f.toInt ≤ p.toInt) :
    ∃ r : Int32, (if (if t < p - s then p - s else t) < f then f else (if t < p - s then p - s else t)) = r ∧ t.toInt ≤ r.toInt ∧ r.toInt ≤ p.toInt ∧ f.toInt ≤ r.toInt ∧ (∀ w, w = (if t ≤ p - s then p - s else t) → (if f ≤ w then w else f) = r ∧ w.toInt ≤ p.toInt) ∧ (f = 0 → (if t ≤ p - s then p - s else t) = r) := by
  have e := xa_sub (x := p) (y := s) (by omega) (by omega)
  have e0 : (0 : Int32).toInt = 0 := by decide
  have ew : (if t < p - s then p - s else t) = (if t ≤ p - s then p - s else t) := by
    by_cases h : t < p - s
    · rw [if_pos h, if_pos (by rw [xa_le]; rw [xa_lt] at h; omega)]
    · rw [if_neg h]
      by_cases h2 : t ≤ p - s
      · rw [if_pos h2, xa_eq]; rw [xa_lt] at h; rw [xa_le] at h2; omega
      · rw [if_neg h2]
  rw [ew]
  have hw : t.toInt ≤ (if t ≤ p - s then p - s else t).toInt ∧ (if t ≤ p - s then p - s else t).toInt ≤ p.toInt := by
    rw [xa_le] at htp
    by_cases h2 : t ≤ p - s
    · rw [if_pos h2]; rw [xa_le] at h2; omega
    · rw [if_neg h2]; omega
  generalize (if t ≤ p - s then p - s else t) = w at hw
  by_cases h : w < f
  · rw [if_pos h]
    rw [xa_lt] at h
    refine ⟨f, rfl, by omega, hf.2, by omega, fun w' e => ⟨by rw [e, if_neg (by rw [xa_le]; omega)], by rw [e]; exact hw.2⟩, fun e => ?_⟩
    rw [e] at h; omega
  · rw [if_neg h]
    rw [xa_lt] at h
    refine ⟨w, rfl, hw.1, hw.2, by omega, fun w' e => ⟨by rw [e, if_pos (by rw [xa_le]; omega)], by rw [e]; exact hw.2⟩, fun _ => rfl⟩
theorem mv_up {p t s f : Int32} (hp : 0 ≤ p.toInt ∧ p.toInt ≤ 200) (ht : t.toInt ≤ 200) (htp : ¬ t ≤ p) (hs : 1 ≤ s.toInt ∧ s.toInt ≤ 20) (hf : p.toInt ≤ f.toInt ∧ f.toInt ≤ 200) :
    ∃ r : Int32, (if f < (if p + s < t then p + s else t) then f else (if p + s < t then p + s else t)) = r ∧ p.toInt ≤ r.toInt ∧ r.toInt ≤ t.toInt ∧ r.toInt ≤ f.toInt ∧ (∀ w, w = (if p + s ≤ t then p + s else t) → (if w ≤ f then w else f) = r ∧ p.toInt ≤ w.toInt) ∧ (f = 200 → (if p + s ≤ t then p + s else t) = r) := by
  have e := xa_add (x := p) (y := s) (by omega) (by omega)
  have e0 : (200 : Int32).toInt = 200 := by decide
  have ew : (if p + s < t then p + s else t) = (if p + s ≤ t then p + s else t) := by
    by_cases h : p + s < t
    · rw [if_pos h, if_pos (by rw [xa_le]; rw [xa_lt] at h; omega)]
    · rw [if_neg h]
      by_cases h2 : p + s ≤ t
      · rw [if_pos h2, xa_eq]; rw [xa_lt] at h; rw [xa_le] at h2; omega
      · rw [if_neg h2]
  rw [ew]
  have hw : p.toInt ≤ (if p + s ≤ t then p + s else t).toInt ∧ (if p + s ≤ t then p + s else t).toInt ≤ t.toInt := by
    rw [xa_le] at htp
    by_cases h2 : p + s ≤ t
    · rw [if_pos h2]; rw [xa_le] at h2; omega
    · rw [if_neg h2]; omega
  generalize (if p + s ≤ t then p + s else t) = w at hw
  by_cases h : f < w
  · rw [if_pos h]
    rw [xa_lt] at h
    refine ⟨f, rfl, hf.1, by omega, by omega, fun w' e => ⟨by rw [e, if_neg (by rw [xa_le]; omega)], by rw [e]; exact hw.1⟩, fun e => ?_⟩
    rw [e] at h; omega
  · rw [if_neg h]
    rw [xa_lt] at h
    refine ⟨w, rfl, hw.1, hw.2, by omega, fun w' e => ⟨by rw [e, if_pos (by rw [xa_le]; omega)], by rw [e]; exact hw.1⟩, fun _ => rfl⟩
/-- a move: both come to the same place, between the old one and the aim, clear of the neighbours -/
theorem mv_both {n j : Nat} {A : ya} {X : mm_M} {c : Nat} {t : Int32} (h : yi n j A) (hv : vA n j A = vX n j X) (hc : c < n) (ht : (cr A c 1).toInt ≤ t.toInt ∧ t.toInt ≤ (cr A c 2).toInt) :
    ∃ p : Int32, (f_Yd_moveToward A c t).2 = ucr A c 0 p ∧ f_Mo_goes X c t = (if p = cr A c 0 then 0 else 1, (f_Mo_setCrane X c 0 p).2) ∧ (cr A c 1).toInt ≤ p.toInt ∧ p.toInt ≤ (cr A c 2).toInt ∧ (0 < c → (cr A (c - 1) 0).toInt + (sc A 1).toInt ≤ p.toInt) ∧ (c + 1 < n → p.toInt + (sc A 1).toInt ≤ (cr A (c + 1) 0).toInt) := by
  obtain ⟨⟨hn3, hj8, hn, -, hg, -⟩, hC, hN, -, -, -⟩ := h
  obtain ⟨hgap, hspd, -⟩ := hg (by omega)
  obtain ⟨b1, b2, b3, b4⟩ := (hC c hc).1
  have r0 := rd_c0 hv hc
  have rs0 := rd_s0 hv
  have rs1 := rd_s1 hv
  have rs2 := rd_s2 hv
  have hup : c + 1 < n → (cr A c 0).toInt + (sc A 1).toInt ≤ (cr A (c + 1) 0).toInt := fun z => hN c z
  have hdn : 0 < c → (cr A (c - 1) 0).toInt + (sc A 1).toInt ≤ (cr A c 0).toInt := fun z => by
    have := hN (c - 1) (by omega)
    rw [show c - 1 + 1 = c by omega] at this
    exact this
  have hlast : ((sc A 0) ≤ ((nI c) + 1)) ↔ ¬ c + 1 < n := by
    rw [hn, nI_1]
    constructor
    · intro z
      have := (nI_leI (by omega) (by omega)).mp z
      omega
    · intro z; exact nI_le (by omega) (by omega)
  have hfirst : (nI c ≤ 0) ↔ ¬ 0 < c := by
    constructor
    · intro z
      have := (nI_leI (b := 0) (by omega) (by omega)).mp z
      omega
    · intro z; exact nI_le (b := 0) (by omega) (by omega)
  unfold f_Yd_moveToward f_Mo_goes
  rw [← r0, ← rs2]
  by_cases h1 : t ≤ cr A c 0
  · rw [if_pos h1, if_pos h1]
    by_cases h2 : cr A c 0 ≤ t
    · rw [if_pos h2, if_pos h2]
      refine ⟨cr A c 0, ucr_self.symm, ?_, b2, b3, hdn, hup⟩
      unfold f_go175
      rw [if_pos rfl, if_pos rfl]
    · rw [if_neg h2, if_neg h2]
      have hf : ∃ f, f_Yd_floorOf A c = f ∧ 0 ≤ f.toInt ∧ f.toInt ≤ (cr A c 0).toInt ∧ (¬ 0 < c → f = 0) ∧ (0 < c → f = f_Mo_ofCrane X (c - 1) 0 + X 0 2 ∧ f.toInt = (cr A (c - 1) 0).toInt + (sc A 1).toInt) := by
        unfold f_Yd_floorOf
        by_cases z : 0 < c
        · rw [if_neg (fun q => (hfirst.mp q) z)]
          have bm := (hC (c - 1) (by omega)).1
          have e := xa_add (x := cr A (c - 1) 0) (y := sc A 1) (by have := bm.1; have := bm.2.1; omega) (by have := hdn z; omega)
          refine ⟨_, rfl, by rw [e]; have := bm.1; have := bm.2.1; omega, by rw [e]; exact hdn z, fun q => absurd z q, fun _ => ⟨?_, e⟩⟩
          rw [rd_c0 hv (show c - 1 < n by omega), rs1]
        · rw [if_pos (hfirst.mpr z)]
          exact ⟨0, rfl, by decide, by have e0 : (0 : Int32).toInt = 0 := by decide
                                       omega, fun _ => rfl, fun q => absurd q z⟩
      obtain ⟨f, f0, f1, f2, f3, f4⟩ := hf
      rw [f0]
      obtain ⟨r, m1, m2, m3, m4, m5, m6⟩ := mv_dn (p := cr A c 0) (t := t) (s := sc A 2) (f := f) ⟨by omega, by omega⟩ (by omega) h2 hspd ⟨f1, f2⟩
      refine ⟨r, by rw [m1], ?_, by omega, by omega, fun z => by rw [← (f4 z).2]; omega, fun z => by have := hup z; omega⟩
      have key : ∀ w, w = (if t ≤ cr A c 0 - sc A 2 then cr A c 0 - sc A 2 else t) → f_go124 X c t (cr A c 0) w = (if r = cr A c 0 then 0 else 1, (f_Mo_setCrane X c 0 r).2) := by
        intro w hw
        have m5' := m5 w hw
        have last : ∀ v : Int32, v.toInt ≤ (cr A c 0).toInt → f_go161 X c t (cr A c 0) v = (if v = cr A c 0 then 0 else 1, (f_Mo_setCrane X c 0 v).2) := by
          intro v hv9
          unfold f_go161 f_go175
          rw [if_pos (by rw [xa_le]; exact hv9)]
          by_cases q : v = cr A c 0
          · rw [if_pos q, if_pos q]
          · rw [if_neg q, if_neg q]
        unfold f_go124
        by_cases z : 0 < c
        · rw [if_neg (fun q => (hfirst.mp q) z), ← (f4 z).1]
          by_cases q : f ≤ w
          · rw [if_pos q, last w m5'.2]
            rw [if_pos q] at m5'
            rw [m5'.1]
          · rw [if_neg q, last f f2]
            rw [if_neg q] at m5'
            rw [m5'.1]
        · rw [if_pos (hfirst.mpr z), last w m5'.2]
          rw [hw, m6 (f3 z)]
      by_cases q : t ≤ cr A c 0 - sc A 2
      · rw [if_pos q]; exact key _ (by rw [if_pos q])
      · rw [if_neg q]; exact key _ (by rw [if_neg q])
  · rw [if_neg h1, if_neg h1]
    have hf : ∃ f, f_Yd_ceilingOf A c = f ∧ (cr A c 0).toInt ≤ f.toInt ∧ f.toInt ≤ 200 ∧ (¬ c + 1 < n → f = 200) ∧ (c + 1 < n → f = f_Mo_ofCrane X (c + 1) 0 - X 0 2 ∧ f.toInt = (cr A (c + 1) 0).toInt - (sc A 1).toInt) := by
      unfold f_Yd_ceilingOf
      by_cases z : c + 1 < n
      · rw [if_neg (fun q => (hlast.mp q) z)]
        have bm := (hC (c + 1) z).1
        obtain ⟨n1, n2, n3, n4⟩ := bm
        have hu := hup z
        have e := xa_sub (x := cr A (c + 1) 0) (y := sc A 1) (by omega) (by omega)
        refine ⟨_, rfl, by rw [e]; omega, by rw [e]; omega, fun q => absurd z q, fun _ => ⟨?_, e⟩⟩
        rw [rd_c0 hv z, rs1]
      · rw [if_pos (hlast.mpr z)]
        have e2 : (200 : Int32).toInt = 200 := by decide
        exact ⟨200, rfl, by omega, by omega, fun _ => rfl, fun q => absurd q z⟩
    obtain ⟨f, f0, f1, f2, f3, f4⟩ := hf
    rw [f0]
    obtain ⟨r, m1, m2, m3, m4, m5, m6⟩ := mv_up (p := cr A c 0) (t := t) (s := sc A 2) (f := f) ⟨by omega, by omega⟩ (by omega) h1 hspd ⟨f1, f2⟩
    refine ⟨r, by rw [m1], ?_, by omega, by omega, fun z => by have := hdn z; omega, fun z => by have := (f4 z).2; omega⟩
    have key : ∀ w, w = (if cr A c 0 + sc A 2 ≤ t then cr A c 0 + sc A 2 else t) → f_go37 X c t (cr A c 0) w = (if r = cr A c 0 then 0 else 1, (f_Mo_setCrane X c 0 r).2) := by
      intro w hw
      have m5' := m5 w hw
      have last : ∀ v : Int32, (cr A c 0).toInt ≤ v.toInt → f_go80 X c t (cr A c 0) v = (if v = cr A c 0 then 0 else 1, (f_Mo_setCrane X c 0 v).2) := by
        intro v hv9
        unfold f_go80 f_go175
        rw [if_pos (by rw [xa_le]; exact hv9)]
        by_cases q : v = cr A c 0
        · rw [if_pos q, if_pos q]
        · rw [if_neg q, if_neg q]
      unfold f_go37
      rw [← rs0]
      by_cases z : c + 1 < n
      · rw [if_neg (fun q => (hlast.mp q) z), ← (f4 z).1]
        by_cases q : w ≤ f
        · rw [if_pos q, last w m5'.2]
          rw [if_pos q] at m5'
          rw [m5'.1]
        · rw [if_neg q, last f f1]
          rw [if_neg q] at m5'
          rw [m5'.1]
      · rw [if_pos (hlast.mpr z), last w m5'.2]
        rw [hw, m6 (f3 z)]
    by_cases q : cr A c 0 + sc A 2 ≤ t
    · rw [if_pos q]; exact key _ (by rw [if_pos q])
    · rw [if_neg q]; exact key _ (by rw [if_neg q])
