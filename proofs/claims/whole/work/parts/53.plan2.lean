/-! THE PLANNER AND THE TRIAL YARD -/
def cv (M : mm_M) : mm_M × ya := (pv M, yv 16 M)
def ucv (A : mm_M × ya) (r k : Nat) (v : Int32) : mm_M × ya := (mm_up A.1 r k v, A.2)
def cf (M M' : mm_M) : Prop := ∀ i, ¬ (1 ≤ i ∧ i ≤ 5) → ¬ yo 16 i → M' i = M i
theorem cf_rf {M : mm_M} : cf M M := fun _ _ _ => rfl
theorem cf_tr {M M1 M2 : mm_M} (h : cf M M1) (h2 : cf M1 M2) : cf M M2 := fun i hi hj => (h2 i hi hj).trans (h i hi hj)
theorem cf_y {M M' : mm_M} (h : yf 16 M M') : cf M M' := fun i _ hj => h i hj
theorem cf_p {M M' : mm_M} (h : pf M M') : cf M M' := fun i hi _ => h i hi
theorem cf_up {i k : Nat} {v : Int32} {M M1 : mm_M} (h : cf M M1) (hi : 1 ≤ i ∧ i ≤ 5) : cf M (mm_up M1 i k v) := cf_tr h (cf_p (pf_up pf_rf hi))
theorem pv_ext {M M' : mm_M} (h : ∀ r, r < 5 → M' (1 + r) = M (1 + r)) : pv M' = pv M := by
  funext r k
  show (if r < 5 then M' (1 + r) k else 0) = (if r < 5 then M (1 + r) k else 0)
  by_cases hr : r < 5
  · rw [if_pos hr, if_pos hr, h r hr]
  · rw [if_neg hr, if_neg hr]
theorem pv_fr {M M' : mm_M} (h : yf 16 M M') : pv M' = pv M := pv_ext (fun r hr => h _ (by unfold yo; omega))
theorem yv_pf {M M' : mm_M} {b : Nat} (hb : b = 8 ∨ b = 16) (h : pf M M') : yv b M' = yv b M := by
  refine yv_ext (fun j q => ?_) (fun j q => ?_) (fun q => ?_) (fun j q => ?_) (fun j q => ?_)
  · exact congrFun (h _ (by omega)) q
  · exact congrFun (h _ (by omega)) q
  · exact congrFun (h _ (by omega)) q
  · exact congrFun (h _ (by omega)) q
  · exact congrFun (h _ (by omega)) q
theorem cv_fr {M M' : mm_M} (h : cf M M') : yv 8 M' = yv 8 M := by
  refine yv_ext (fun j q => ?_) (fun j q => ?_) (fun q => ?_) (fun j q => ?_) (fun j q => ?_)
  · exact congrFun (h _ (by omega) (by unfold yo; omega)) q
  · exact congrFun (h _ (by omega) (by unfold yo; omega)) q
  · exact congrFun (h _ (by omega) (by unfold yo; omega)) q
  · exact congrFun (h _ (by omega) (by unfold yo; omega)) q
  · exact congrFun (h _ (by omega) (by unfold yo; omega)) q
theorem cv_y {M M' : mm_M} {Y : ya} (h : yf 16 M M') (hy : yv 16 M' = Y) : cv M' = ((cv M).1, Y) := Prod.ext (pv_fr h) hy
theorem cv_p {M M' : mm_M} {X : mm_M} (h : pf M M') (hx : pv M' = X) : cv M' = (X, (cv M).2) := Prod.ext hx (yv_pf (Or.inr rfl) h)
theorem cv_up (r : Nat) {M : mm_M} {k : Nat} {v : Int32} (hr : r < 5 := by decide) : cv (mm_up M (1 + r) k v) = ucv (cv M) r k v := Prod.ext (pv_up r hr) (yv_pf (Or.inr rfl) (pf_up pf_rf (by omega)))
def CS (d z : Nat) (M : mm_M) (as : List mm_V) (r : Option Int32) (A' : mm_M × ya) : Prop := ∃ M', ct_Sem d z M as (r, M') ∧ cv M' = A' ∧ cf M M'
def cQ (M : mm_M) (r : Option Int32) (A' : mm_M × ya) : mm_R → Prop := fun res => res.1 = r ∧ cv res.2 = A' ∧ cf M res.2
theorem CS_of {d z : Nat} {M : mm_M} {as : List mm_V} {r : Option Int32} {A' : mm_M × ya} (hn : as.length ≤ ct_T.2.2.1 z) (h : mm_Wp (ct_pg z) (ct_rt z) (ct_Sem d) (M, 0, as.map some ++ List.replicate (ct_T.2.2.1 z - as.length) none, []) (cQ M r A')) : CS (d + 1) z M as r A' := by
  obtain ⟨⟨r1, M1⟩, h1, h2, h3, h4⟩ := h
  simp only at h2 h3 h4
  subst h2
  exact ⟨M1, ⟨hn, h1⟩, h3, h4⟩
theorem lim_lt {x : Int32} {i : Nat} (hl : x ≤ 300) (hi : i ≤ 300) (h : ¬ x ≤ nI i) : i < 300 := by
  rcases Nat.lt_or_ge i 300 with q | q
  · exact q
  · have e : i = 300 := by omega
    subst e
    exact absurd hl h
