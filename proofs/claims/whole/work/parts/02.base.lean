/-! MINI MACHINE: a memory of ints by (object, place); references are (kind, object); a method's meaning is a relation Sem -/
abbrev mm_V : Type := Int32 ⊕ (Nat × Nat)
abbrev mm_M : Type := Nat → Nat → Int32
abbrev mm_R : Type := Option Int32 × mm_M
/-- what a method does: its number, the memory, the arguments, the answer with the memory behind it -/
abbrev mm_S : Type := Nat → mm_M → List mm_V → mm_R → Prop
/-- memory, pc, locals, stack -/
abbrev mm_C : Type := mm_M × Nat × List (Option mm_V) × List mm_V
/-- what a path is told: which way at a branch; what a call gave -/
abbrev mm_O : Type := Nat × mm_R
abbrev mm_F : Type := mm_S → mm_O → mm_C → Option (mm_C × Prop)
def mm_up (M : mm_M) (i k : Nat) (v : Int32) : mm_M := fun j q => if j = i ∧ q = k then v else M j q
theorem mm_up_at (M : mm_M) (i k : Nat) (v : Int32) : mm_up M i k v i k = v := by simp [mm_up]
theorem mm_up_i (M : mm_M) {i j : Nat} (k : Nat) (v : Int32) (h : j ≠ i) : mm_up M i k v j = M j := by
  funext q; simp [mm_up, h]
theorem mm_up_k (M : mm_M) (i : Nat) {k q : Nat} (v : Int32) (h : q ≠ k) : mm_up M i k v i q = M i q := by simp [mm_up, h]
theorem mm_up_row (M : mm_M) (i k : Nat) (v : Int32) : mm_up M i k v i = upd (M i) k v := by
  funext q; simp [mm_up, upd]
/-- a kind: an object's fields (none: an int; some (kind, off): the object that many further on); an array of numbers (type, length); an array of objects (type, length, kind, off: its j-th is the object off + 32 j further on) -/
abbrev mm_K : Type := List (Option (Nat × Nat)) ⊕ ((Nat × Nat) ⊕ (Nat × Nat × Nat × Nat))
def mm_fs (ad : Nat → Nat) (i : Nat) (r : Nat → Int32) : Nat → List (Option (Nat × Nat)) → List Value
  | _, [] => []
  | k, none :: t => .int (r k) :: mm_fs ad i r (k + 1) t
  | k, some (_, off) :: t => .ref (ad (i + off)) :: mm_fs ad i r (k + 1) t
def mm_E (ad : Nat → Nat) (cA : Nat → ClassId) (K : Nat → mm_K) (kd i : Nat) (r : Nat → Int32) : va_E := match K kd with
  | .inl F => .inr (kd, mm_fs ad i r 0 F)
  | .inr (.inl (t, n)) => .inl (cA t, n, .inl r)
  | .inr (.inr (t, n, _, off)) => .inl (cA t, n, .inr (.inr (.inr (.inr (fun j => some (ad (i + off + 32 * j)))))))
def mm_W (ad : Nat → Nat) (cA : Nat → ClassId) (K : Nat → mm_K) (kd : Nat → Nat) (N : List Nat) (M : mm_M) : va_W := N.map (fun i => (ad i, mm_E ad cA K (kd i) i (M i)))
theorem mm_fs_int {ad : Nat → Nat} {i : Nat} {r : Nat → Int32} : ∀ (F : List (Option (Nat × Nat))) (k j : Nat), F[j]? = some none → (mm_fs ad i r k F)[j]? = some (.int (r (k + j)))
  | [], k, j, h => by simp at h
  | none :: t, k, 0, h => rfl
  | some (_, _) :: t, k, 0, h => by simp at h
  | none :: t, k, j + 1, h => by
    have := mm_fs_int (ad := ad) (i := i) (r := r) t (k + 1) j (by simpa using h)
    rw [show k + (j + 1) = k + 1 + j by omega]
    simpa [mm_fs] using this
  | some (_, _) :: t, k, j + 1, h => by
    have := mm_fs_int (ad := ad) (i := i) (r := r) t (k + 1) j (by simpa using h)
    rw [show k + (j + 1) = k + 1 + j by omega]
    simpa [mm_fs] using this
theorem mm_fs_ref {ad : Nat → Nat} {i : Nat} {r : Nat → Int32} {ck off : Nat} : ∀ (F : List (Option (Nat × Nat))) (k j : Nat), F[j]? = some (some (ck, off)) → (mm_fs ad i r k F)[j]? = some (.ref (ad (i + off)))
  | [], k, j, h => by simp at h
  | none :: t, k, 0, h => by simp at h
  | some (a, b) :: t, k, 0, h => by
    simp at h
    simp [mm_fs, h.2]
  | none :: t, k, j + 1, h => by
    have := mm_fs_ref (ad := ad) (i := i) (r := r) t (k + 1) j (by simpa using h)
    simpa [mm_fs] using this
  | some (_, _) :: t, k, j + 1, h => by
    have := mm_fs_ref (ad := ad) (i := i) (r := r) t (k + 1) j (by simpa using h)
    simpa [mm_fs] using this
theorem mm_fs_keep {ad : Nat → Nat} {i : Nat} {r r' : Nat → Int32} : ∀ (F : List (Option (Nat × Nat))) (k : Nat), (∀ j, k ≤ j → r' j = r j) → mm_fs ad i r' k F = mm_fs ad i r k F
  | [], k, h => rfl
  | none :: t, k, h => by
    simp only [mm_fs]
    rw [h k (Nat.le_refl k), mm_fs_keep t (k + 1) (fun j hj => h j (by omega))]
  | some (_, _) :: t, k, h => by
    simp only [mm_fs]
    rw [mm_fs_keep t (k + 1) (fun j hj => h j (by omega))]
theorem mm_fs_set {ad : Nat → Nat} {i : Nat} {r : Nat → Int32} {v : Int32} : ∀ (F : List (Option (Nat × Nat))) (k j : Nat), F[j]? = some none → (mm_fs ad i r k F).set j (.int v) = mm_fs ad i (upd r (k + j) v) k F
  | [], k, j, h => by simp at h
  | none :: t, k, 0, h => by
    simp only [mm_fs, List.set_cons_zero, Nat.add_zero]
    rw [mm_fs_keep (r := r) (r' := upd r k v) t (k + 1) (fun j hj => by simp [upd]; omega)]
    simp [upd]
  | some (_, _) :: t, k, 0, h => by simp at h
  | none :: t, k, j + 1, h => by
    have := mm_fs_set (ad := ad) (i := i) (r := r) (v := v) t (k + 1) j (by simpa using h)
    simp only [mm_fs, List.set_cons_succ]
    rw [this, show k + 1 + j = k + (j + 1) by omega]
    congr 2
    simp [upd]
  | some (_, _) :: t, k, j + 1, h => by
    have := mm_fs_set (ad := ad) (i := i) (r := r) (v := v) t (k + 1) j (by simpa using h)
    simp only [mm_fs, List.set_cons_succ]
    rw [this, show k + 1 + j = k + (j + 1) by omega]
theorem mm_fs_len {ad : Nat → Nat} {i : Nat} {r : Nat → Int32} : ∀ (F : List (Option (Nat × Nat))) (k : Nat), (mm_fs ad i r k F).length = F.length
  | [], k => rfl
  | none :: t, k => by simp [mm_fs, mm_fs_len t (k + 1)]
  | some (_, _) :: t, k => by simp [mm_fs, mm_fs_len t (k + 1)]
theorem mm_W_get {ad : Nat → Nat} {cA : Nat → ClassId} {K : Nat → mm_K} {kd : Nat → Nat} {N : List Nat} {M : mm_M} {i : Nat} (h : i ∈ N) : ∃ q : Nat, N[q]? = some i ∧ (mm_W ad cA K kd N M)[q]? = some (ad i, mm_E ad cA K (kd i) i (M i)) := by
  obtain ⟨q, hq⟩ := List.getElem?_of_mem h
  exact ⟨q, hq, by simp [mm_W, hq]⟩
theorem mm_W_set {ad : Nat → Nat} {cA : Nat → ClassId} {K : Nat → mm_K} {kd : Nat → Nat} {N : List Nat} {M M' : mm_M} {i q : Nat} {e : va_E} (hN : N.Nodup) (hq : N[q]? = some i) (h : mm_E ad cA K (kd i) i (M' i) = e) (hj : ∀ j, j ≠ i → M' j = M j) : (mm_W ad cA K kd N M).set q (ad i, e) = mm_W ad cA K kd N M' := by
  have hlt := (List.getElem?_eq_some_iff.mp hq).1
  apply List.ext_getElem?
  intro j
  by_cases hij : q = j
  · subst hij
    rw [List.getElem?_set_self (by simp [mm_W, hlt])]
    simp [mm_W, hq, h]
  · rw [List.getElem?_set_ne hij]
    simp only [mm_W, List.getElem?_map]
    cases hk : N[j]? with
    | none => rfl
    | some k =>
      have hne : k ≠ i := by
        intro e1
        subst e1
        exact hij ((List.getElem?_inj hlt hN).mp (hq.trans hk.symm))
      simp [hj k hne]
def mm_v (ad : Nat → Nat) (v : mm_V) : Value := match v with
  | .inl x => .int x
  | .inr q => .ref (ad q.2)
theorem mm_v_cat (ad : Nat → Nat) (v : mm_V) : (mm_v ad v).category = 1 := by
  cases v <;> rfl
/-- a value that the memory has -/
def mm_ok (kd : Nat → Nat) (N : List Nat) (v : mm_V) : Prop := match v with
  | .inl _ => True
  | .inr q => q.2 ∈ N ∧ kd q.2 = q.1
/-- the layout leads from objects to objects of the named kinds -/
def mm_lay (K : Nat → mm_K) (kd : Nat → Nat) (N : List Nat) : Prop := N.Nodup ∧ ∀ i, i ∈ N → match K (kd i) with
  | .inl F => ∀ (k ck off : Nat), F[k]? = some (some (ck, off)) → i + off ∈ N ∧ kd (i + off) = ck
  | .inr (.inl _) => True
  | .inr (.inr (_, n, ck, off)) => ∀ j, j < n → i + off + 32 * j ∈ N ∧ kd (i + off + 32 * j) = ck
/-- the locals -/
def mm_L (ad : Nat → Nat) (ls : Array Slot) (nL : Nat) (g : List (Option mm_V)) : Prop := ls.size = nL ∧ g.length = nL ∧ lv_wf ls ∧ ∀ (i : Nat) (v : mm_V), g[i]? = some (some v) → ls[i]? = some (.val (mm_v ad v))
section MM1
variable {ad : Nat → Nat}
def mm_lv (ad : Nat → Nat) (g : List (Option mm_V)) : List (Nat × Value) := (List.range g.length).filterMap (fun j => (g[j]?.join).map (fun w => (j, mm_v ad w)))
theorem mm_lv_mem {g : List (Option mm_V)} {q : Nat × Value} : q ∈ mm_lv ad g ↔ ∃ w, g[q.1]? = some (some w) ∧ q.2 = mm_v ad w := by
  constructor
  · intro h
    obtain ⟨j, hj, e⟩ := List.mem_filterMap.mp h
    cases hg : g[j]? with
    | none => simp [hg] at e
    | some o =>
      cases o with
      | none => simp [hg] at e
      | some w =>
        simp [hg] at e
        subst e
        exact ⟨w, hg, rfl⟩
  · rintro ⟨w, hg, e⟩
    refine List.mem_filterMap.mpr ⟨q.1, List.mem_range.mpr (List.getElem?_eq_some_iff.mp hg).1, ?_⟩
    simp [hg, ← e]
theorem mm_L_lv {ls : Array Slot} {nL : Nat} {g : List (Option mm_V)} (h : mm_L ad ls nL g) : lv_has ls nL (mm_lv ad g) :=
  ⟨h.1, h.2.2.1, fun q hq => by
    obtain ⟨w, h1, h2⟩ := mm_lv_mem.mp hq
    rw [h2]
    exact h.2.2.2 q.1 w h1⟩
theorem mm_L_of {ls : Array Slot} {nL i : Nat} {g : List (Option mm_V)} {v : mm_V} (hg : g.length = nL) (hi : i < nL) (h : lv_has ls nL ((i, mm_v ad v) :: (mm_lv ad g).filter (fun q => !(q.1 == i) && !(q.1 + 1 == i && q.2.category == 2)))) : mm_L ad ls nL (g.set i (some v)) := by
  refine ⟨h.1, by simp [hg], h.2.1, fun j w hj => ?_⟩
  by_cases e : j = i
  · subst e
    rw [List.getElem?_set_self (by omega)] at hj
    have e2 : v = w := by simpa using hj
    subst e2
    exact h.2.2 (j, mm_v ad v) List.mem_cons_self
  · rw [List.getElem?_set_ne (Ne.symm e)] at hj
    exact h.2.2 (j, mm_v ad w) (List.mem_cons_of_mem _ (List.mem_filter.mpr ⟨mm_lv_mem.mpr ⟨w, hj, rfl⟩, by simp [e, mm_v_cat]⟩))
theorem mm_L_at {ls : Array Slot} {nL i : Nat} {g : List (Option mm_V)} {v : mm_V} (h : mm_L ad ls nL g) (hi : g[i]? = some (some v)) : ls[i]? = some (.val (mm_v ad v)) := h.2.2.2 i v hi
theorem mm_sum : ∀ (t : List mm_V), ((t.map (mm_v ad)).map fun v => v.category).sum = t.length
  | [] => rfl
  | a :: t => by
    have := mm_sum t
    simp only [List.map_cons, List.sum_cons, List.length_cons, mm_v_cat]
    omega
theorem mm_args : ∀ (as : List mm_V) (k j : Nat) (v : mm_V), as[j]? = some v → (k + j, mm_v ad v) ∈ lv_args k (as.map (mm_v ad))
  | [], k, j, v, h => by simp at h
  | a :: t, k, 0, v, h => by
    simp at h
    subst h
    exact List.mem_cons_self
  | a :: t, k, j + 1, v, h => by
    have := mm_args t (k + 1) j v (by simpa using h)
    rw [show k + (j + 1) = k + 1 + j by omega]
    refine List.mem_cons_of_mem _ ?_
    simpa [mm_v_cat] using this
theorem mm_sl : ∀ (as : List mm_V), (lg_sl (as.map (mm_v ad))).length = as.length
  | [] => rfl
  | a :: t => by
    have := mm_sl t
    simp only [lg_sl, List.map_cons, List.flatMap_cons, mm_v_cat, List.length_append, List.length_cons] at this ⊢
    simp at this ⊢
    omega
theorem mm_entry (m : MethodId) (as : List mm_V) {n : Nat} (h : as.length ≤ n) : ∃ ls, entryFrame m (as.map (mm_v ad)).toArray n = F0 m 0 ls [] ∧ mm_L ad ls n (as.map some ++ List.replicate (n - as.length) none) := by
  refine ⟨_, lg_entry_eq m (as.map (mm_v ad)) n, ?_⟩
  have hl := lv_entry (as.map (mm_v ad)) (n := n) (by rw [mm_sl]; exact h)
  refine ⟨hl.1, by simp; omega, hl.2.1, fun i v hi => ?_⟩
  have hlt : i < as.length := by
    rcases Nat.lt_or_ge i as.length with q | q
    · exact q
    · rw [List.getElem?_append_right (by simpa using q)] at hi
      have := List.mem_of_getElem? hi
      simp at this
  rw [List.getElem?_append_left (by simpa using hlt)] at hi
  have h2 : as[i]? = some v := by
    rw [List.getElem?_map] at hi
    cases ha : as[i]? with
    | none => rw [ha] at hi; simp at hi
    | some w => rw [ha] at hi; simp at hi; rw [hi]
  have := mm_args (ad := ad) as 0 i v h2
  rw [Nat.zero_add] at this
  exact hl.2.2 _ this
end MM1
/-! one instruction: what it does to (memory, pc, locals, stack); the Prop is what must hold for it -/
def mi_push (v : Int32) (len : Nat) : mm_F := fun _ _ g => some ((g.1, g.2.1 + len, g.2.2.1, .inl v :: g.2.2.2), True)
def mi_iload (i len : Nat) : mm_F := fun _ _ g => match g.2.2.1[i]? with
  | some (some (.inl x)) => some ((g.1, g.2.1 + len, g.2.2.1, .inl x :: g.2.2.2), True)
  | _ => none
def mi_aload (i len : Nat) : mm_F := fun _ _ g => match g.2.2.1[i]? with
  | some (some (.inr x)) => some ((g.1, g.2.1 + len, g.2.2.1, .inr x :: g.2.2.2), True)
  | _ => none
def mi_istore (i len : Nat) : mm_F := fun _ _ g => match g.2.2.2 with
  | .inl x :: t => some ((g.1, g.2.1 + len, g.2.2.1.set i (some (.inl x)), t), i < g.2.2.1.length)
  | _ => none
def mi_astore (i len : Nat) : mm_F := fun _ _ g => match g.2.2.2 with
  | .inr x :: t => some ((g.1, g.2.1 + len, g.2.2.1.set i (some (.inr x)), t), i < g.2.2.1.length)
  | _ => none
def mi_iinc (i : Nat) (n : Int32) : mm_F := fun _ _ g => match g.2.2.1[i]? with
  | some (some (.inl x)) => some ((g.1, g.2.1 + 3, g.2.2.1.set i (some (.inl (x + n))), g.2.2.2), True)
  | _ => none
def mi_bin (op : Int32 → Int32 → Int32) (len : Nat) : mm_F := fun _ _ g => match g.2.2.2 with
  | .inl y :: .inl x :: t => some ((g.1, g.2.1 + len, g.2.2.1, .inl (op x y) :: t), True)
  | _ => none
def mi_mm (op : Int32 → Int32 → Int32) : mm_F := fun _ _ g => match g.2.2.2 with
  | .inl y :: .inl x :: t => some ((g.1, g.2.1 + 3, g.2.2.1, .inl (op x y) :: t), t.length ≤ 8)
  | _ => none
def mi_div : mm_F := fun _ _ g => match g.2.2.2 with
  | .inl y :: .inl x :: t => some ((g.1, g.2.1 + 1, g.2.2.1, .inl (x / y) :: t), ¬ y = 0)
  | _ => none
def mi_rem : mm_F := fun _ _ g => match g.2.2.2 with
  | .inl y :: .inl x :: t => some ((g.1, g.2.1 + 1, g.2.2.1, .inl (x - x / y * y) :: t), ¬ y = 0)
  | _ => none
def mi_dup : mm_F := fun _ _ g => match g.2.2.2 with
  | v :: t => some ((g.1, g.2.1 + 1, g.2.2.1, v :: v :: t), True)
  | _ => none
def mi_dup2 : mm_F := fun _ _ g => match g.2.2.2 with
  | a :: b :: t => some ((g.1, g.2.1 + 1, g.2.2.1, a :: b :: a :: b :: t), True)
  | _ => none
def mi_dupx1 : mm_F := fun _ _ g => match g.2.2.2 with
  | a :: b :: t => some ((g.1, g.2.1 + 1, g.2.2.1, a :: b :: a :: t), True)
  | _ => none
def mi_pop : mm_F := fun _ _ g => match g.2.2.2 with
  | _ :: t => some ((g.1, g.2.1 + 1, g.2.2.1, t), True)
  | _ => none
def mi_goto (tgt : Nat) : mm_F := fun _ _ g => some ((g.1, tgt, g.2.2.1, g.2.2.2), True)
def mi_if (cnd : Int32 → Prop) (tgt : Nat) : mm_F := fun _ o g => match o.1, g.2.2.2 with
  | 0, .inl x :: t => some ((g.1, g.2.1 + 3, g.2.2.1, t), ¬ cnd x)
  | _ + 1, .inl x :: t => some ((g.1, tgt, g.2.2.1, t), cnd x)
  | _, _ => none
def mi_cmp (cnd : Int32 → Int32 → Prop) (tgt : Nat) : mm_F := fun _ o g => match o.1, g.2.2.2 with
  | 0, .inl y :: .inl x :: t => some ((g.1, g.2.1 + 3, g.2.2.1, t), ¬ cnd x y)
  | _ + 1, .inl y :: .inl x :: t => some ((g.1, tgt, g.2.2.1, t), cnd x y)
  | _, _ => none
def mi_getf (ci k : Nat) : mm_F := fun _ _ g => match g.2.2.2 with
  | .inr (c, i) :: t => if c = ci then some ((g.1, g.2.1 + 3, g.2.2.1, .inl (g.1 i k) :: t), True) else none
  | _ => none
def mi_getr (ci ck off : Nat) : mm_F := fun _ _ g => match g.2.2.2 with
  | .inr (c, i) :: t => if c = ci then some ((g.1, g.2.1 + 3, g.2.2.1, .inr (ck, i + off) :: t), True) else none
  | _ => none
def mi_putf (ci k : Nat) : mm_F := fun _ _ g => match g.2.2.2 with
  | .inl x :: .inr (c, i) :: t => if c = ci then some ((mm_up g.1 i k x, g.2.1 + 3, g.2.2.1, t), True) else none
  | _ => none
def mi_putz (ci k : Nat) : mm_F := fun _ _ g => match g.2.2.2 with
  | .inl x :: .inr (c, i) :: t => if c = ci then some ((mm_up g.1 i k x, g.2.1 + 3, g.2.2.1, t), x = 0 ∨ x = 1) else none
  | _ => none
/-- arrays: the path tells the place j -/
def mi_ald (ck n : Nat) : mm_F := fun _ o g => match g.2.2.2 with
  | .inl x :: .inr (c, i) :: t => if c = ck then some ((g.1, g.2.1 + 1, g.2.2.1, .inl (g.1 i o.1) :: t), x = nI o.1 ∧ o.1 < n) else none
  | _ => none
def mi_ast (ck n : Nat) : mm_F := fun _ o g => match g.2.2.2 with
  | .inl v :: .inl x :: .inr (c, i) :: t => if c = ck then some ((mm_up g.1 i o.1 v, g.2.1 + 1, g.2.2.1, t), x = nI o.1 ∧ o.1 < n) else none
  | _ => none
def mi_zst (ck n : Nat) : mm_F := fun _ o g => match g.2.2.2 with
  | .inl v :: .inl x :: .inr (c, i) :: t => if c = ck then some ((mm_up g.1 i o.1 v, g.2.1 + 1, g.2.2.1, t), (x = nI o.1 ∧ o.1 < n) ∧ (v = 0 ∨ v = 1)) else none
  | _ => none
def mi_aald (ck n ek off : Nat) : mm_F := fun _ o g => match g.2.2.2 with
  | .inl x :: .inr (c, i) :: t => if c = ck then some ((g.1, g.2.1 + 1, g.2.2.1, .inr (ek, i + off + 32 * o.1) :: t), x = nI o.1 ∧ o.1 < n) else none
  | _ => none
def mi_alen (ck n : Nat) : mm_F := fun _ _ g => match g.2.2.2 with
  | .inr (c, i) :: t => if c = ck then some ((g.1, g.2.1 + 1, g.2.2.1, .inl (nI n) :: t), True) else none
  | _ => none
/-- a copy of the first n places of an array over another's -/
def mm_cp (M : mm_M) (i0 i1 n : Nat) : mm_M := fun j q => if j = i1 ∧ q < n then M i0 q else M j q
theorem mm_cp_i (M : mm_M) (i0 : Nat) {i1 j : Nat} (n : Nat) (h : j ≠ i1) : mm_cp M i0 i1 n j = M j := by
  funext q; simp [mm_cp, h]
theorem mm_cp_row (M : mm_M) (i0 i1 n : Nat) : mm_cp M i0 i1 n i1 = va_cpy (M i0) (M i1) 0 0 n := by
  funext q; simp [mm_cp, va_cpy]
def mi_copy (ck n9 : Nat) : mm_F := fun _ o g => match g.2.2.2 with
  | .inl n :: .inl dp :: .inr (c1, i1) :: .inl sp :: .inr (c0, i0) :: t => if c0 = ck ∧ c1 = ck then some ((mm_cp g.1 i0 i1 o.1, g.2.1 + 3, g.2.2.1, t), sp = 0 ∧ dp = 0 ∧ n = nI o.1 ∧ o.1 ≤ n9 ∧ t.length ≤ 8) else none
  | _ => none
def mi_tsw (lo hi : Int) (tgts : List Nat) (dflt : Nat) : mm_F := fun _ o g => match o.1, g.2.2.2 with
  | 0, .inl x :: t => some ((g.1, dflt, g.2.2.1, t), x.toInt < lo ∨ hi < x.toInt)
  | j + 1, .inl x :: t => match tgts[j]? with
    | some tg => some ((g.1, tg, g.2.2.1, t), x.toInt = lo + j)
    | none => none
  | _, _ => none
/-- a call of method z with n words off the stack; rc: the receiver's kind -/
def mi_call (z n : Nat) (rc : Option Nat) : mm_F := fun S o g => some ((o.2.2, g.2.1 + 3, g.2.2.1, (match o.2.1 with
  | some r => .inl r :: g.2.2.2.drop n
  | none => g.2.2.2.drop n)), S z g.1 (g.2.2.2.take n).reverse o.2 ∧ n ≤ g.2.2.2.length ∧ (g.2.2.2.drop n).length ≤ 8 ∧ (match rc with
  | some ci => ∃ i, (g.2.2.2.take n).reverse.head? = some (.inr (ci, i))
  | none => True))
def mm_at {α : Type} : List (Nat × α) → Nat → Option α
  | [], _ => none
  | (k, f) :: t, pc => cond (Nat.beq k pc) (some f) (mm_at t pc)
def mm_path (pg : List (Nat × mm_F)) (S : mm_S) : List mm_O → mm_C → Option (mm_C × Prop)
  | [], g => some (g, True)
  | o :: os, g => match mm_at pg g.2.1 with
    | none => none
    | some f => match f S o g with
      | none => none
      | some (g', P) => match mm_path pg S os g' with
        | none => none
        | some (g'', P') => some (g'', P ∧ P')
/-- at a return: rt tells the returns' places, and whether nothing (0), an int (1) or a boolean (2) is answered -/
def mm_Rt (rt : List (Nat × Nat)) (g : mm_C) (res : mm_R) : Prop := match mm_at rt g.2.1 with
  | some 0 => g.2.2.2 = [] ∧ res = (none, g.1)
  | some 1 => ∃ r, g.2.2.2 = [.inl r] ∧ res = (some r, g.1)
  | some 2 => ∃ r, g.2.2.2 = [.inl r] ∧ res = (some r, g.1) ∧ (r = 0 ∨ r = 1)
  | _ => False
def mm_Ends (pg : List (Nat × mm_F)) (rt : List (Nat × Nat)) (S : mm_S) (g : mm_C) (res : mm_R) : Prop := ∃ os g' P, mm_path pg S os g = some (g', P) ∧ P ∧ mm_Rt rt g' res
theorem mm_path_app {pg : List (Nat × mm_F)} {S : mm_S} : ∀ {os os' : List mm_O} {g g' g'' : mm_C} {P P' : Prop}, mm_path pg S os g = some (g', P) → mm_path pg S os' g' = some (g'', P') → P → P' → ∃ P'', mm_path pg S (os ++ os') g = some (g'', P'') ∧ P''
  | [], os', g, g', g'', P, P', h, h', hP, hP' => by
    obtain ⟨rfl, rfl⟩ := Prod.mk.inj (Option.some.inj h)
    exact ⟨P', h', hP'⟩
  | o :: os, os', g, g', g'', P, P', h, h', hP, hP' => by
    simp only [mm_path] at h
    cases h1 : mm_at pg g.2.1 with
    | none => simp [h1] at h
    | some f =>
      simp only [h1] at h
      cases h2 : f S o g with
      | none => simp [h2] at h
      | some q =>
        obtain ⟨g1, P1⟩ := q
        simp only [h2] at h
        cases h3 : mm_path pg S os g1 with
        | none => simp [h3] at h
        | some q2 =>
          obtain ⟨g2, P2⟩ := q2
          simp only [h3] at h
          obtain ⟨e1, e2⟩ := Prod.mk.inj (Option.some.inj h)
          subst e1
          rw [← e2] at hP
          obtain ⟨P3, h4, h5⟩ := mm_path_app h3 h' hP.2 hP'
          refine ⟨P1 ∧ P3, ?_, hP.1, h5⟩
          simp only [List.cons_append, mm_path, h1, h2, h4]
theorem mm_go {pg : List (Nat × mm_F)} {rt : List (Nat × Nat)} {S : mm_S} (os : List mm_O) {g g' : mm_C} {P : Prop} {res : mm_R} (h : mm_path pg S os g = some (g', P)) (hP : P) (k : mm_Ends pg rt S g' res) : mm_Ends pg rt S g res := by
  obtain ⟨os', g'', P', h', hP', hr⟩ := k
  obtain ⟨P'', h1, h2⟩ := mm_path_app h h' hP hP'
  exact ⟨os ++ os', g'', P'', h1, h2, hr⟩
theorem mm_end {pg : List (Nat × mm_F)} {rt : List (Nat × Nat)} {S : mm_S} {g : mm_C} {res : mm_R} (h : mm_Rt rt g res) : mm_Ends pg rt S g res := ⟨[], g, True, rfl, trivial, h⟩
def mm_layB (K : Nat → mm_K) (kd : Nat → Nat) (N : List Nat) : Bool := N.all (fun i => match K (kd i) with
  | .inl F => F.all (fun q => match q with
    | none => true
    | some (ck, off) => decide (i + off ∈ N ∧ kd (i + off) = ck))
  | .inr (.inl _) => true
  | .inr (.inr (_, n, ck, off)) => (List.range n).all (fun j => decide (i + off + 32 * j ∈ N ∧ kd (i + off + 32 * j) = ck)))
theorem mm_layB_ok {K : Nat → mm_K} {kd : Nat → Nat} {N : List Nat} (hN : N.Nodup) (h : mm_layB K kd N = true) : mm_lay K kd N := ⟨hN, fun i hi => by
  have h1 := List.all_eq_true.mp h i hi
  revert h1
  rcases K (kd i) with F | ⟨t, n⟩ | ⟨t, n, ck, off⟩
  · intro h1 k ck off hk
    have h2 := List.all_eq_true.mp h1 _ (List.mem_of_getElem? hk)
    exact of_decide_eq_true h2
  · exact fun _ => trivial
  · intro h1 j hj
    exact of_decide_eq_true (List.all_eq_true.mp h1 j (List.mem_range.mpr hj))⟩
theorem mm_at_nil {P : Nat → mm_F → Prop} : ∀ pc f, mm_at ([] : List (Nat × mm_F)) pc = some f → P pc f := fun pc f h => by simp [mm_at] at h
theorem mm_at_cons {P : Nat → mm_F → Prop} {k : Nat} {f : mm_F} {t : List (Nat × mm_F)} (h : P k f) (ht : ∀ pc f, mm_at t pc = some f → P pc f) : ∀ pc f', mm_at ((k, f) :: t) pc = some f' → P pc f' := fun pc f' hf => by
  simp only [mm_at] at hf
  cases hb : Nat.beq k pc with
  | true =>
    rw [hb] at hf
    have e1 : k = pc := Nat.eq_of_beq_eq_true hb
    have e2 : f = f' := Option.some.inj hf
    rw [← e1, ← e2]; exact h
  | false => rw [hb] at hf; exact ht pc f' hf
theorem mm_2 {GW : List Cond} {a b : Cond} (ha : a ∈ GW) (hb : b ∈ GW) : ∀ w ∈ [a, b], w ∈ GW := fun w h => by
  simp only [List.mem_cons, List.not_mem_nil, or_false] at h
  rcases h with rfl | rfl <;> assumption
theorem mm_3 {GW : List Cond} {a b c : Cond} (ha : a ∈ GW) (hb : b ∈ GW) (hc : c ∈ GW) : ∀ w ∈ [a, b, c], w ∈ GW := fun w h => by
  simp only [List.mem_cons, List.not_mem_nil, or_false] at h
  rcases h with rfl | rfl | rfl <;> assumption
theorem mm_4 {GW : List Cond} {a b c d : Cond} (ha : a ∈ GW) (hb : b ∈ GW) (hc : c ∈ GW) (hd : d ∈ GW) : ∀ w ∈ [a, b, c, d], w ∈ GW := fun w h => by
  simp only [List.mem_cons, List.not_mem_nil, or_false] at h
  rcases h with rfl | rfl | rfl | rfl <;> assumption
/-- from here the method ends, with Q of what it gives -/
def mm_Wp (pg : List (Nat × mm_F)) (rt : List (Nat × Nat)) (S : mm_S) (g : mm_C) (Q : mm_R → Prop) : Prop := ∃ res, mm_Ends pg rt S g res ∧ Q res
theorem wgo {pg : List (Nat × mm_F)} {rt : List (Nat × Nat)} {S : mm_S} {Q : mm_R → Prop} {g g' : mm_C} {P : Prop} (os : List mm_O) (h : mm_path pg S os g = some (g', P)) (hP : P) (k : mm_Wp pg rt S g' Q) : mm_Wp pg rt S g Q := by
  obtain ⟨res, h1, h2⟩ := k
  exact ⟨res, mm_go os h hP h1, h2⟩
theorem wend {pg : List (Nat × mm_F)} {rt : List (Nat × Nat)} {S : mm_S} {Q : mm_R → Prop} {g : mm_C} {res : mm_R} (h : mm_Rt rt g res) (hQ : Q res) : mm_Wp pg rt S g Q := ⟨res, mm_end h, hQ⟩
def oz (n : Nat) : mm_O := (n, none, fun _ _ => 0)
def oc (r : mm_R) : mm_O := (0, r)
