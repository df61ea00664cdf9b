/-! THE CLASS AND THE REFERENCE HELD TOGETHER: both seen as one kind of yard (n cranes, j jobs) -/
def vA (n j : Nat) (A : ya) : ya := (fun c k => if c < n ∧ k < 8 ∧ k ≠ 6 then cr A c k else 0, fun i k => if i < j ∧ k < 6 then jb A i k else 0, fun k => if k < 7 then sc A k else 0, fun c k => if c < n ∧ k < 4 then se A c k else 0, fun _ _ => 0)
def vXc (X : mm_M) (c : Nat) : Nat → Int32
  | 0 => f_Mo_ofCrane X c 0
  | 1 => X 1 c
  | 2 => X 2 c
  | 3 => f_Mo_ofCrane X c 8
  | 4 => f_Mo_ofCrane X c 2
  | 5 => f_Mo_ofCrane X c 1
  | _ => f_Mo_ofCrane X c 3
def vXs (X : mm_M) : Nat → Int32
  | 0 => X 0 1
  | 1 => X 0 2
  | 2 => X 0 3
  | 3 => X 0 4
  | 4 => X 3 0
  | 5 => X 3 1
  | _ => X 0 5
def vX (n j : Nat) (X : mm_M) : ya := (fun c k => if c < n ∧ k < 8 ∧ k ≠ 6 then vXc X c k else 0, fun i k => if i < j ∧ k < 6 then f_Mo_ofJob X i k else 0, fun k => if k < 7 then vXs X k else 0, fun c k => if c < n ∧ k < 4 then f_Mo_ofCrane X c (4 + k) else 0, fun _ _ => 0)
section VV
variable {n j : Nat} {A : ya} {X : mm_M}
theorem va_cr {c k : Nat} {v : Int32} (hc : c < n) (hk : k < 8) (h6 : k ≠ 6) : vA n j (ucr A c k v) = ucr (vA n j A) c k v := by
  refine yv_ext (fun c' k' => ?_) (fun _ _ => rfl) (fun _ => rfl) (fun _ _ => rfl) (fun _ _ => rfl)
  simp only [vA, ucr, mm_up, cr]
  by_cases h : c' = c ∧ k' = k
  · obtain ⟨rfl, rfl⟩ := h; simp [hc, hk, h6]
  · simp [h]
theorem va_cr0 {c k : Nat} {v : Int32} (h6 : k = 6 ∨ 8 ≤ k) : vA n j (ucr A c k v) = vA n j A := by
  refine yv_ext (fun c' k' => ?_) (fun _ _ => rfl) (fun _ => rfl) (fun _ _ => rfl) (fun _ _ => rfl)
  simp only [vA, ucr, mm_up, cr]
  by_cases h : c' < n ∧ k' < 8 ∧ k' ≠ 6
  · have h2 : ¬ (c' = c ∧ k' = k) := by omega
    simp [h, h2]
  · simp [h]
theorem va_jb {i k : Nat} {v : Int32} (hc : i < j) (hk : k < 6) : vA n j (ujb A i k v) = ujb (vA n j A) i k v := by
  refine yv_ext (fun _ _ => rfl) (fun c' k' => ?_) (fun _ => rfl) (fun _ _ => rfl) (fun _ _ => rfl)
  simp only [vA, ujb, mm_up, jb]
  by_cases h : c' = i ∧ k' = k
  · obtain ⟨rfl, rfl⟩ := h; simp [hc, hk]
  · simp [h]
theorem va_sc {k : Nat} {v : Int32} (hk : k < 7) : vA n j (usc A k v) = usc (vA n j A) k v := by
  refine yv_ext (fun _ _ => rfl) (fun _ _ => rfl) (fun k' => ?_) (fun _ _ => rfl) (fun _ _ => rfl)
  simp only [vA, usc, upd, sc]
  by_cases h : k' = k
  · subst h; simp [hk]
  · simp [h]
theorem va_sc0 {k : Nat} {v : Int32} (hk : 7 ≤ k) : vA n j (usc A k v) = vA n j A := by
  refine yv_ext (fun _ _ => rfl) (fun _ _ => rfl) (fun k' => ?_) (fun _ _ => rfl) (fun _ _ => rfl)
  simp only [vA, usc, upd, sc]
  by_cases h : k' < 7
  · have h2 : ¬ k' = k := by omega
    simp [h, h2]
  · simp [h]
theorem va_se {c k : Nat} {v : Int32} (hc : c < n) (hk : k < 4) : vA n j (use A c k v) = use (vA n j A) c k v := by
  refine yv_ext (fun _ _ => rfl) (fun _ _ => rfl) (fun _ => rfl) (fun c' k' => ?_) (fun _ _ => rfl)
  simp only [vA, use, mm_up, se]
  by_cases h : c' = c ∧ k' = k
  · obtain ⟨rfl, rfl⟩ := h; simp [hc, hk]
  · simp [h]
theorem va_wa {c k : Nat} {v : Int32} : vA n j (uwa A c k v) = vA n j A := rfl
theorem oc_sc {X : mm_M} {c k c' k' : Nat} {v : Int32} (hk : k < 10) (hk' : k' < 10) : f_Mo_ofCrane (f_Mo_setCrane X c k v).2 c' k' = if c' = c ∧ k' = k then v else f_Mo_ofCrane X c' k' := by
  show mm_up X 3 (10 + 10 * c + k) v 3 (10 + 10 * c' + k') = _
  by_cases h : c' = c ∧ k' = k
  · obtain ⟨rfl, rfl⟩ := h; rw [if_pos ⟨rfl, rfl⟩, mm_up_at]
  · rw [if_neg h, mm_up_k]; rfl
    omega
theorem oj_sc {X : mm_M} {c k i w : Nat} {v : Int32} (hc : c < 3) (hk : k < 10) : f_Mo_ofJob (f_Mo_setCrane X c k v).2 i w = f_Mo_ofJob X i w := mm_up_k _ _ _ (by omega)
theorem oc_sj {X : mm_M} {c k i w : Nat} {v : Int32} (hc : c < 3) (hk : k < 10) : f_Mo_ofCrane (f_Mo_setJob X i w v).2 c k = f_Mo_ofCrane X c k := mm_up_k _ _ _ (by omega)
theorem oj_sj {X : mm_M} {i w i' w' : Nat} {v : Int32} (hw : w < 7) (hw' : w' < 7) : f_Mo_ofJob (f_Mo_setJob X i w v).2 i' w' = if i' = i ∧ w' = w then v else f_Mo_ofJob X i' w' := by
  show mm_up X 3 (50 + 7 * i + w) v 3 (50 + 7 * i' + w') = _
  by_cases h : i' = i ∧ w' = w
  · obtain ⟨rfl, rfl⟩ := h; rw [if_pos ⟨rfl, rfl⟩, mm_up_at]
  · rw [if_neg h, mm_up_k]; rfl
    omega
theorem sc_row {X : mm_M} {c k r q : Nat} {v : Int32} (h : r ≠ 3 ∨ q < 10) : (f_Mo_setCrane X c k v).2 r q = X r q := by
  show mm_up X 3 (10 + 10 * c + k) v r q = _
  have : ¬ (r = 3 ∧ q = 10 + 10 * c + k) := by omega
  simp [mm_up, this]
theorem sj_row {X : mm_M} {i w r q : Nat} {v : Int32} (h : r ≠ 3 ∨ q < 10) : (f_Mo_setJob X i w v).2 r q = X r q := by
  show mm_up X 3 (50 + 7 * i + w) v r q = _
  have : ¬ (r = 3 ∧ q = 50 + 7 * i + w) := by omega
  simp [mm_up, this]
theorem vXc_sc {c k c' q : Nat} {v : Int32} {p : Nat} (hp : (p = 0 ∧ k = 0) ∨ (p = 1 ∧ k = 5) ∨ (p = 2 ∧ k = 4) ∨ (p = 3 ∧ k = 7) ∨ (p = 8 ∧ k = 3)) (hq : q < 8) (h6 : q ≠ 6) : vXc (f_Mo_setCrane X c p v).2 c' q = if c' = c ∧ q = k then v else vXc X c' q := by
  have e : q = 0 ∨ q = 1 ∨ q = 2 ∨ q = 3 ∨ q = 4 ∨ q = 5 ∨ q = 7 := by omega
  rcases hp with ⟨rfl, rfl⟩ | ⟨rfl, rfl⟩ | ⟨rfl, rfl⟩ | ⟨rfl, rfl⟩ | ⟨rfl, rfl⟩ <;> rcases e with rfl | rfl | rfl | rfl | rfl | rfl | rfl <;> simp [vXc, oc_sc, sc_row]
theorem vx_cr {c p k : Nat} {v : Int32} (hp : (p = 0 ∧ k = 0) ∨ (p = 1 ∧ k = 5) ∨ (p = 2 ∧ k = 4) ∨ (p = 3 ∧ k = 7) ∨ (p = 8 ∧ k = 3)) (hc : c < n) (hn : n ≤ 3) : vX n j (f_Mo_setCrane X c p v).2 = ucr (vX n j X) c k v := by
  refine yv_ext (fun c' k' => ?_) (fun i w => ?_) (fun q => ?_) (fun c' k' => ?_) (fun _ _ => rfl)
  · simp only [vX, ucr, mm_up]
    by_cases h : c' < n ∧ k' < 8 ∧ k' ≠ 6
    · simp only [h, and_self, if_true, ne_eq, not_false_eq_true]
      rw [vXc_sc hp h.2.1 h.2.2]
    · have h2 : ¬ (c' = c ∧ k' = k) := by omega
      simp [h, h2]
  · simp only [vX, ucr]
    rw [oj_sc (by omega) (by omega)]
  · simp only [vX, ucr]
    have e : vXs (f_Mo_setCrane X c p v).2 q = vXs X q := by
      unfold vXs; split <;> exact sc_row (by omega)
    rw [e]
  · simp only [vX, ucr]
    by_cases h : c' < n ∧ k' < 4
    · rw [if_pos h, if_pos h, oc_sc (by omega) (by omega), if_neg (by omega)]
    · rw [if_neg h, if_neg h]
theorem vx_se {c k : Nat} {v : Int32} (hk : k < 4) (hc : c < n) (hn : n ≤ 3) : vX n j (f_Mo_setCrane X c (4 + k) v).2 = use (vX n j X) c k v := by
  refine yv_ext (fun c' k' => ?_) (fun i w => ?_) (fun q => ?_) (fun c' k' => ?_) (fun _ _ => rfl)
  · simp only [vX, use]
    by_cases h : c' < n ∧ k' < 8 ∧ k' ≠ 6
    · rw [if_pos h, if_pos h]
      have e : k' = 0 ∨ k' = 1 ∨ k' = 2 ∨ k' = 3 ∨ k' = 4 ∨ k' = 5 ∨ k' = 7 := by omega
      rcases e with rfl | rfl | rfl | rfl | rfl | rfl | rfl <;> simp only [vXc] <;> first | exact sc_row (by omega) | (rw [oc_sc (by omega) (by omega), if_neg (by omega)])
    · rw [if_neg h, if_neg h]
  · simp only [vX, use]
    rw [oj_sc (by omega) (by omega)]
  · simp only [vX, use]
    have e : vXs (f_Mo_setCrane X c (4 + k) v).2 q = vXs X q := by
      unfold vXs; split <;> exact sc_row (by omega)
    rw [e]
  · simp only [vX, use, mm_up]
    by_cases h : c' < n ∧ k' < 4
    · rw [if_pos h, oc_sc (by omega) (by omega)]
      by_cases h2 : c' = c ∧ k' = k
      · rw [if_pos h2, if_pos (by omega)]
      · rw [if_neg h2, if_neg (by omega), if_pos h]
    · have h2 : ¬ (c' = c ∧ k' = k) := by omega
      rw [if_neg h, if_neg h2, if_neg h]
theorem vx_jb {i k : Nat} {v : Int32} (hk : k < 6) (hi : i < j) (hn : n ≤ 3) : vX n j (f_Mo_setJob X i k v).2 = ujb (vX n j X) i k v := by
  refine yv_ext (fun c' k' => ?_) (fun i' w => ?_) (fun q => ?_) (fun c' k' => ?_) (fun _ _ => rfl)
  · simp only [vX, ujb]
    by_cases h : c' < n ∧ k' < 8 ∧ k' ≠ 6
    · rw [if_pos h, if_pos h]
      have e : k' = 0 ∨ k' = 1 ∨ k' = 2 ∨ k' = 3 ∨ k' = 4 ∨ k' = 5 ∨ k' = 7 := by omega
      rcases e with rfl | rfl | rfl | rfl | rfl | rfl | rfl <;> simp only [vXc] <;> first | exact sj_row (by omega) | exact oc_sj (by omega) (by omega)
    · rw [if_neg h, if_neg h]
  · simp only [vX, ujb, mm_up]
    by_cases h : i' < j ∧ w < 6
    · rw [if_pos h, oj_sj (by omega) (by omega), if_pos h]
    · have h2 : ¬ (i' = i ∧ w = k) := by omega
      rw [if_neg h, if_neg h2, if_neg h]
  · simp only [vX, ujb]
    have e : vXs (f_Mo_setJob X i k v).2 q = vXs X q := by
      unfold vXs; split <;> exact sj_row (by omega)
    rw [e]
  · simp only [vX, ujb]
    by_cases h : c' < n ∧ k' < 4
    · rw [if_pos h, if_pos h, oc_sj (by omega) (by omega)]
    · rw [if_neg h, if_neg h]
/-- rows that the view doesn't have -/
theorem vx_ext {X' : mm_M} (hn : n ≤ 3) (h0 : ∀ q, 1 ≤ q → q < 6 → X' 0 q = X 0 q) (h1 : ∀ c, c < 3 → X' 1 c = X 1 c) (h2 : ∀ c, c < 3 → X' 2 c = X 2 c) (h3 : ∀ q, (q < 2 ∨ 10 ≤ q) → (∀ i, ¬ q = 50 + 7 * i + 6) → X' 3 q = X 3 q) : vX n j X' = vX n j X := by
  have hc : ∀ c k, c < 3 → k < 10 → f_Mo_ofCrane X' c k = f_Mo_ofCrane X c k := fun c k a b => h3 _ (by omega) (fun i => by omega)
  refine yv_ext (fun c' k' => ?_) (fun i' w => ?_) (fun q => ?_) (fun c' k' => ?_) (fun _ _ => rfl)
  · simp only [vX]
    by_cases h : c' < n ∧ k' < 8 ∧ k' ≠ 6
    · rw [if_pos h, if_pos h]
      have e : k' = 0 ∨ k' = 1 ∨ k' = 2 ∨ k' = 3 ∨ k' = 4 ∨ k' = 5 ∨ k' = 7 := by omega
      rcases e with rfl | rfl | rfl | rfl | rfl | rfl | rfl <;> simp only [vXc] <;> first | exact hc _ _ (by omega) (by omega) | exact h1 _ (by omega) | exact h2 _ (by omega)
    · rw [if_neg h, if_neg h]
  · simp only [vX]
    by_cases h : i' < j ∧ w < 6
    · rw [if_pos h, if_pos h]; exact h3 _ (by omega) (fun i => by omega)
    · rw [if_neg h, if_neg h]
  · simp only [vX]
    by_cases h : q < 7
    · rw [if_pos h, if_pos h]
      unfold vXs
      split <;> first | exact h0 _ (by omega) (by omega) | exact h3 _ (by omega) (fun i => by omega)
    · rw [if_neg h, if_neg h]
  · simp only [vX]
    by_cases h : c' < n ∧ k' < 4
    · rw [if_pos h, if_pos h]; exact hc _ _ (by omega) (by omega)
    · rw [if_neg h, if_neg h]
theorem vx_sc4 {v : Int32} (hn : n ≤ 3) : vX n j (mm_up X 3 0 v) = usc (vX n j X) 4 v := by
  refine yv_ext (fun c' k' => ?_) (fun i' w => ?_) (fun q => ?_) (fun c' k' => ?_) (fun _ _ => rfl)
  · simp only [vX, usc]
    by_cases h : c' < n ∧ k' < 8 ∧ k' ≠ 6
    · rw [if_pos h, if_pos h]
      have e : k' = 0 ∨ k' = 1 ∨ k' = 2 ∨ k' = 3 ∨ k' = 4 ∨ k' = 5 ∨ k' = 7 := by omega
      rcases e with rfl | rfl | rfl | rfl | rfl | rfl | rfl <;> simp [vXc, f_Mo_ofCrane, mm_up]
    · rw [if_neg h, if_neg h]
  · simp [vX, usc, f_Mo_ofJob, mm_up]
  · simp only [vX, usc, upd]
    by_cases h : q = 4
    · subst h; simp [vXs, mm_up]
    · rw [if_neg h]
      by_cases h7 : q < 7
      · rw [if_pos h7, if_pos h7]
        have e : q = 0 ∨ q = 1 ∨ q = 2 ∨ q = 3 ∨ q = 5 ∨ q = 6 := by omega
        rcases e with rfl | rfl | rfl | rfl | rfl | rfl <;> simp [vXs, mm_up]
      · rw [if_neg h7, if_neg h7]
  · simp [vX, usc, f_Mo_ofCrane, mm_up]
theorem vx_sc5 {v : Int32} (hn : n ≤ 3) : vX n j (mm_up X 3 1 v) = usc (vX n j X) 5 v := by
  refine yv_ext (fun c' k' => ?_) (fun i' w => ?_) (fun q => ?_) (fun c' k' => ?_) (fun _ _ => rfl)
  · simp only [vX, usc]
    by_cases h : c' < n ∧ k' < 8 ∧ k' ≠ 6
    · rw [if_pos h, if_pos h]
      have e : k' = 0 ∨ k' = 1 ∨ k' = 2 ∨ k' = 3 ∨ k' = 4 ∨ k' = 5 ∨ k' = 7 := by omega
      have e9 : ¬ (10 + 10 * c' = 1) := by omega
      rcases e with rfl | rfl | rfl | rfl | rfl | rfl | rfl <;> simp [vXc, f_Mo_ofCrane, mm_up] <;> omega
    · rw [if_neg h, if_neg h]
  · simp only [vX, usc]
    have e : f_Mo_ofJob (mm_up X 3 1 v) i' w = f_Mo_ofJob X i' w := mm_up_k _ _ _ (by omega)
    rw [e]
  · simp only [vX, usc, upd]
    by_cases h : q = 5
    · subst h; simp [vXs, mm_up]
    · rw [if_neg h]
      by_cases h7 : q < 7
      · rw [if_pos h7, if_pos h7]
        have e : q = 0 ∨ q = 1 ∨ q = 2 ∨ q = 3 ∨ q = 4 ∨ q = 6 := by omega
        rcases e with rfl | rfl | rfl | rfl | rfl | rfl <;> simp [vXs, mm_up]
      · rw [if_neg h7, if_neg h7]
  · simp only [vX, usc]
    have e : f_Mo_ofCrane (mm_up X 3 1 v) c' (4 + k') = f_Mo_ofCrane X c' (4 + k') := mm_up_k _ _ _ (by omega)
    rw [e]
end VV
theorem rd_c0 {n j : Nat} {A : ya} {X : mm_M} (h : vA n j A = vX n j X) {c : Nat} (hc : c < n) : cr A c 0 = f_Mo_ofCrane X c 0 := by
  have q : (if c < n ∧ 0 < 8 ∧ 0 ≠ 6 then cr A c 0 else 0) = (if c < n ∧ 0 < 8 ∧ 0 ≠ 6 then vXc X c 0 else 0) := congrFun (congrFun (congrArg Prod.fst h) c) 0
  rw [if_pos ⟨hc, by decide, by decide⟩, if_pos ⟨hc, by decide, by decide⟩] at q
  exact q
theorem rd_c1 {n j : Nat} {A : ya} {X : mm_M} (h : vA n j A = vX n j X) {c : Nat} (hc : c < n) : cr A c 1 = X 1 c := by
  have q : (if c < n ∧ 1 < 8 ∧ 1 ≠ 6 then cr A c 1 else 0) = (if c < n ∧ 1 < 8 ∧ 1 ≠ 6 then vXc X c 1 else 0) := congrFun (congrFun (congrArg Prod.fst h) c) 1
  rw [if_pos ⟨hc, by decide, by decide⟩, if_pos ⟨hc, by decide, by decide⟩] at q
  exact q
theorem rd_c2 {n j : Nat} {A : ya} {X : mm_M} (h : vA n j A = vX n j X) {c : Nat} (hc : c < n) : cr A c 2 = X 2 c := by
  have q : (if c < n ∧ 2 < 8 ∧ 2 ≠ 6 then cr A c 2 else 0) = (if c < n ∧ 2 < 8 ∧ 2 ≠ 6 then vXc X c 2 else 0) := congrFun (congrFun (congrArg Prod.fst h) c) 2
  rw [if_pos ⟨hc, by decide, by decide⟩, if_pos ⟨hc, by decide, by decide⟩] at q
  exact q
theorem rd_c3 {n j : Nat} {A : ya} {X : mm_M} (h : vA n j A = vX n j X) {c : Nat} (hc : c < n) : cr A c 3 = f_Mo_ofCrane X c 8 := by
  have q : (if c < n ∧ 3 < 8 ∧ 3 ≠ 6 then cr A c 3 else 0) = (if c < n ∧ 3 < 8 ∧ 3 ≠ 6 then vXc X c 3 else 0) := congrFun (congrFun (congrArg Prod.fst h) c) 3
  rw [if_pos ⟨hc, by decide, by decide⟩, if_pos ⟨hc, by decide, by decide⟩] at q
  exact q
theorem rd_c4 {n j : Nat} {A : ya} {X : mm_M} (h : vA n j A = vX n j X) {c : Nat} (hc : c < n) : cr A c 4 = f_Mo_ofCrane X c 2 := by
  have q : (if c < n ∧ 4 < 8 ∧ 4 ≠ 6 then cr A c 4 else 0) = (if c < n ∧ 4 < 8 ∧ 4 ≠ 6 then vXc X c 4 else 0) := congrFun (congrFun (congrArg Prod.fst h) c) 4
  rw [if_pos ⟨hc, by decide, by decide⟩, if_pos ⟨hc, by decide, by decide⟩] at q
  exact q
theorem rd_c5 {n j : Nat} {A : ya} {X : mm_M} (h : vA n j A = vX n j X) {c : Nat} (hc : c < n) : cr A c 5 = f_Mo_ofCrane X c 1 := by
  have q : (if c < n ∧ 5 < 8 ∧ 5 ≠ 6 then cr A c 5 else 0) = (if c < n ∧ 5 < 8 ∧ 5 ≠ 6 then vXc X c 5 else 0) := congrFun (congrFun (congrArg Prod.fst h) c) 5
  rw [if_pos ⟨hc, by decide, by decide⟩, if_pos ⟨hc, by decide, by decide⟩] at q
  exact q
theorem rd_c7 {n j : Nat} {A : ya} {X : mm_M} (h : vA n j A = vX n j X) {c : Nat} (hc : c < n) : cr A c 7 = f_Mo_ofCrane X c 3 := by
  have q : (if c < n ∧ 7 < 8 ∧ 7 ≠ 6 then cr A c 7 else 0) = (if c < n ∧ 7 < 8 ∧ 7 ≠ 6 then vXc X c 7 else 0) := congrFun (congrFun (congrArg Prod.fst h) c) 7
  rw [if_pos ⟨hc, by decide, by decide⟩, if_pos ⟨hc, by decide, by decide⟩] at q
  exact q
theorem rd_j {n j : Nat} {A : ya} {X : mm_M} (h : vA n j A = vX n j X) {i k : Nat} (hi : i < j) (hk : k < 6) : jb A i k = f_Mo_ofJob X i k := by
  have q : (if i < j ∧ k < 6 then jb A i k else 0) = (if i < j ∧ k < 6 then f_Mo_ofJob X i k else 0) := congrFun (congrFun (congrArg (fun z => z.2.1) h) i) k
  rw [if_pos ⟨hi, hk⟩, if_pos ⟨hi, hk⟩] at q
  exact q
theorem rd_e {n j : Nat} {A : ya} {X : mm_M} (h : vA n j A = vX n j X) {c k : Nat} (hc : c < n) (hk : k < 4) : se A c k = f_Mo_ofCrane X c (4 + k) := by
  have q : (if c < n ∧ k < 4 then se A c k else 0) = (if c < n ∧ k < 4 then f_Mo_ofCrane X c (4 + k) else 0) := congrFun (congrFun (congrArg (fun z => z.2.2.2.1) h) c) k
  rw [if_pos ⟨hc, hk⟩, if_pos ⟨hc, hk⟩] at q
  exact q
theorem rd_s0 {n j : Nat} {A : ya} {X : mm_M} (h : vA n j A = vX n j X) : sc A 0 = X 0 1 := by
  have q : (if 0 < 7 then sc A 0 else 0) = (if 0 < 7 then vXs X 0 else 0) := congrFun (congrArg (fun z => z.2.2.1) h) 0
  rw [if_pos (by decide), if_pos (by decide)] at q
  exact q
theorem rd_s1 {n j : Nat} {A : ya} {X : mm_M} (h : vA n j A = vX n j X) : sc A 1 = X 0 2 := by
  have q : (if 1 < 7 then sc A 1 else 0) = (if 1 < 7 then vXs X 1 else 0) := congrFun (congrArg (fun z => z.2.2.1) h) 1
  rw [if_pos (by decide), if_pos (by decide)] at q
  exact q
theorem rd_s2 {n j : Nat} {A : ya} {X : mm_M} (h : vA n j A = vX n j X) : sc A 2 = X 0 3 := by
  have q : (if 2 < 7 then sc A 2 else 0) = (if 2 < 7 then vXs X 2 else 0) := congrFun (congrArg (fun z => z.2.2.1) h) 2
  rw [if_pos (by decide), if_pos (by decide)] at q
  exact q
theorem rd_s3 {n j : Nat} {A : ya} {X : mm_M} (h : vA n j A = vX n j X) : sc A 3 = X 0 4 := by
  have q : (if 3 < 7 then sc A 3 else 0) = (if 3 < 7 then vXs X 3 else 0) := congrFun (congrArg (fun z => z.2.2.1) h) 3
  rw [if_pos (by decide), if_pos (by decide)] at q
  exact q
theorem rd_s4 {n j : Nat} {A : ya} {X : mm_M} (h : vA n j A = vX n j X) : sc A 4 = X 3 0 := by
  have q : (if 4 < 7 then sc A 4 else 0) = (if 4 < 7 then vXs X 4 else 0) := congrFun (congrArg (fun z => z.2.2.1) h) 4
  rw [if_pos (by decide), if_pos (by decide)] at q
  exact q
theorem rd_s5 {n j : Nat} {A : ya} {X : mm_M} (h : vA n j A = vX n j X) : sc A 5 = X 3 1 := by
  have q : (if 5 < 7 then sc A 5 else 0) = (if 5 < 7 then vXs X 5 else 0) := congrFun (congrArg (fun z => z.2.2.1) h) 5
  rw [if_pos (by decide), if_pos (by decide)] at q
  exact q
theorem rd_s6 {n j : Nat} {A : ya} {X : mm_M} (h : vA n j A = vX n j X) : sc A 6 = X 0 5 := by
  have q : (if 6 < 7 then sc A 6 else 0) = (if 6 < 7 then vXs X 6 else 0) := congrFun (congrArg (fun z => z.2.2.1) h) 6
  rw [if_pos (by decide), if_pos (by decide)] at q
  exact q
