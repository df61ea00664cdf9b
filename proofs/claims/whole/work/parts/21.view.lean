/-! THE YARD SEEN: cranes (c, field), jobs (j, field), its own numbers, seconds (c, kind), waiting (c, place) -/
abbrev ya : Type := mm_M × mm_M × (Nat → Int32) × mm_M × mm_M
abbrev cr (A : ya) : mm_M := A.1
abbrev jb (A : ya) : mm_M := A.2.1
abbrev sc (A : ya) : Nat → Int32 := A.2.2.1
abbrev se (A : ya) : mm_M := A.2.2.2.1
abbrev wa (A : ya) : mm_M := A.2.2.2.2
def ucr (A : ya) (c k : Nat) (v : Int32) : ya := (mm_up A.1 c k v, A.2)
def ujb (A : ya) (j k : Nat) (v : Int32) : ya := (A.1, mm_up A.2.1 j k v, A.2.2)
def usc (A : ya) (k : Nat) (v : Int32) : ya := (A.1, A.2.1, upd A.2.2.1 k v, A.2.2.2)
def use (A : ya) (c k : Nat) (v : Int32) : ya := (A.1, A.2.1, A.2.2.1, mm_up A.2.2.2.1 c k v, A.2.2.2.2)
def uwa (A : ya) (c k : Nat) (v : Int32) : ya := (A.1, A.2.1, A.2.2.1, A.2.2.2.1, mm_up A.2.2.2.2 c k v)
def yv (b : Nat) (M : mm_M) : ya := (fun c k => M (b + 3 + 32 * c) k, fun j k => M (b + 6 + 32 * j) k, fun k => M b k, fun c k => M (b + 3 + 32 * c + 1) k, fun c k => M (b + 3 + 32 * c + 2) k)
theorem mm_up_z {M : mm_M} {i k : Nat} {v : Int32} {j : Nat} (h : j ≠ i) : mm_up M i k v j = M j := mm_up_i M k v h
theorem yv_ext {A B : ya} (h1 : ∀ c k, A.1 c k = B.1 c k) (h2 : ∀ c k, A.2.1 c k = B.2.1 c k) (h3 : ∀ k, A.2.2.1 k = B.2.2.1 k) (h4 : ∀ c k, A.2.2.2.1 c k = B.2.2.2.1 c k) (h5 : ∀ c k, A.2.2.2.2 c k = B.2.2.2.2 c k) : A = B :=
  Prod.ext (funext fun c => funext fun k => h1 c k) (Prod.ext (funext fun c => funext fun k => h2 c k) (Prod.ext (funext fun k => h3 k) (Prod.ext (funext fun c => funext fun k => h4 c k) (funext fun c => funext fun k => h5 c k))))
theorem mm_up_w {M A : mm_M} {i k : Nat} {v : Int32} {o : Nat → Nat} {c j q : Nat} (ho : ∀ c j, o c = o j → c = j) (hA : ∀ c k, M (o c) k = A c k) (hi : i = o c) : mm_up M i k v (o j) q = mm_up A c k v j q := by
  subst hi
  by_cases h : j = c
  · subst h
    by_cases hq : q = k
    · subst hq; simp [mm_up]
    · simp [mm_up, hq, hA]
  · have h2 : o j ≠ o c := fun e => h (ho _ _ e)
    rw [mm_up_z h2, mm_up_z h, hA]
theorem yv_cr {b : Nat} {M : mm_M} {c k : Nat} {v : Int32} : yv b (mm_up M (b + 3 + 32 * c) k v) = ucr (yv b M) c k v := by
  refine yv_ext (fun j q => ?_) (fun j q => ?_) (fun q => ?_) (fun j q => ?_) (fun j q => ?_)
  · exact mm_up_w (o := fun c => b + 3 + 32 * c) (fun c j h => by omega) (fun _ _ => rfl) rfl
  · exact congrFun (mm_up_z (by omega)) q
  · exact congrFun (mm_up_z (by omega)) q
  · exact congrFun (mm_up_z (by omega)) q
  · exact congrFun (mm_up_z (by omega)) q
theorem yv_jb {b : Nat} {M : mm_M} {c k : Nat} {v : Int32} : yv b (mm_up M (b + 6 + 32 * c) k v) = ujb (yv b M) c k v := by
  refine yv_ext (fun j q => ?_) (fun j q => ?_) (fun q => ?_) (fun j q => ?_) (fun j q => ?_)
  · exact congrFun (mm_up_z (by omega)) q
  · exact mm_up_w (o := fun c => b + 6 + 32 * c) (fun c j h => by omega) (fun _ _ => rfl) rfl
  · exact congrFun (mm_up_z (by omega)) q
  · exact congrFun (mm_up_z (by omega)) q
  · exact congrFun (mm_up_z (by omega)) q
theorem yv_se {b : Nat} {M : mm_M} {c k : Nat} {v : Int32} : yv b (mm_up M (b + 3 + 32 * c + 1) k v) = use (yv b M) c k v := by
  refine yv_ext (fun j q => ?_) (fun j q => ?_) (fun q => ?_) (fun j q => ?_) (fun j q => ?_)
  · exact congrFun (mm_up_z (by omega)) q
  · exact congrFun (mm_up_z (by omega)) q
  · exact congrFun (mm_up_z (by omega)) q
  · exact mm_up_w (o := fun c => b + 3 + 32 * c + 1) (fun c j h => by omega) (fun _ _ => rfl) rfl
  · exact congrFun (mm_up_z (by omega)) q
theorem yv_wa {b : Nat} {M : mm_M} {c k : Nat} {v : Int32} : yv b (mm_up M (b + 3 + 32 * c + 2) k v) = uwa (yv b M) c k v := by
  refine yv_ext (fun j q => ?_) (fun j q => ?_) (fun q => ?_) (fun j q => ?_) (fun j q => ?_)
  · exact congrFun (mm_up_z (by omega)) q
  · exact congrFun (mm_up_z (by omega)) q
  · exact congrFun (mm_up_z (by omega)) q
  · exact congrFun (mm_up_z (by omega)) q
  · exact mm_up_w (o := fun c => b + 3 + 32 * c + 2) (fun c j h => by omega) (fun _ _ => rfl) rfl
theorem yv_sc {b : Nat} {M : mm_M} {k : Nat} {v : Int32} : yv b (mm_up M b k v) = usc (yv b M) k v := by
  refine yv_ext (fun j q => ?_) (fun j q => ?_) (fun q => ?_) (fun j q => ?_) (fun j q => ?_)
  · exact congrFun (mm_up_z (by omega)) q
  · exact congrFun (mm_up_z (by omega)) q
  · show mm_up M b k v b q = upd (M b) k v q
    rw [mm_up_row]
  · exact congrFun (mm_up_z (by omega)) q
  · exact congrFun (mm_up_z (by omega)) q
/-- what isn't the yard's stays -/
def yo (b i : Nat) : Prop := b ≤ i % 32 ∧ i % 32 ≤ b + 6
def yf (b : Nat) (M M' : mm_M) : Prop := ∀ i, ¬ yo b i → M' i = M i
theorem yf_rf {b : Nat} {M : mm_M} : yf b M M := fun _ _ => rfl
theorem yf_tr {b : Nat} {M M1 M2 : mm_M} (h : yf b M M1) (h2 : yf b M1 M2) : yf b M M2 := fun i hi => (h2 i hi).trans (h i hi)
theorem yf_up {b i k : Nat} {v : Int32} {M M1 : mm_M} (h : yf b M M1) (hi : yo b i) : yf b M (mm_up M1 i k v) := fun j hj => by
  have hne : j ≠ i := fun e => hj (by rw [e]; exact hi)
  rw [mm_up_z hne]
  exact h j hj
/-- method z on memory M: it ends, the answer is r, the yard at b is A', the rest stays -/
def YS (d z b : Nat) (M : mm_M) (as : List mm_V) (r : Option Int32) (A' : ya) : Prop := ∃ M', ct_Sem d z M as (r, M') ∧ yv b M' = A' ∧ yf b M M'
def yQ (b : Nat) (M : mm_M) (r : Option Int32) (A' : ya) : mm_R → Prop := fun res => res.1 = r ∧ yv b res.2 = A' ∧ yf b M res.2
theorem YS_of {d z b : Nat} {M : mm_M} {as : List mm_V} {r : Option Int32} {A' : ya} (hn : as.length ≤ ct_T.2.2.1 z) (h : mm_Wp (ct_pg z) (ct_rt z) (ct_Sem d) (M, 0, as.map some ++ List.replicate (ct_T.2.2.1 z - as.length) none, []) (yQ b M r A')) : YS (d + 1) z b M as r A' := by
  obtain ⟨⟨r1, M1⟩, h1, h2, h3, h4⟩ := h
  simp only at h2 h3 h4
  subst h2
  exact ⟨M1, ⟨hn, h1⟩, h3, h4⟩
theorem nI_m1 {c : Nat} (h : 0 < c) : nI c - 1 = nI (c - 1) := by
  rcases c with _ | c
  · exact absurd h (Nat.lt_irrefl 0)
  · exact nI_pred c
theorem SM_of {d z : Nat} {M : mm_M} {as : List mm_V} {r : mm_R} (hn : as.length ≤ ct_T.2.2.1 z) (h : mm_Wp (ct_pg z) (ct_rt z) (ct_Sem d) (M, 0, as.map some ++ List.replicate (ct_T.2.2.1 z - as.length) none, []) (fun res => res = r)) : ct_Sem (d + 1) z M as r := by
  obtain ⟨res, h1, h2⟩ := h
  subst h2
  exact ⟨hn, h1⟩
/-- an int that is a place below n -/
def ix (x : Int32) : Nat := x.toNatClampNeg
def okx (n : Nat) (x : Int32) : Prop := x = nI (ix x) ∧ ix x < n
theorem okx_nI {n j : Nat} (h : j < n) (hn : n < 2 ^ 31) : okx n (nI j) := by
  unfold okx ix
  rw [nI_clamp (by omega)]
  exact ⟨rfl, h⟩
theorem ix_nI {j : Nat} (h : j < 2 ^ 31) : ix (nI j) = j := nI_clamp h
theorem okx_of {n j : Nat} {x : Int32} (h : x = nI j) (hj : j < n) (hn : n < 2 ^ 31) : okx n x := by rw [h]; exact okx_nI hj hn
/-- the number of cranes is n -/
def ynn (A : ya) (n : Nat) : Prop := sc A 0 = nI n ∧ n ≤ 3
theorem nI_gt0 {c : Nat} (h : ¬ nI c ≤ 0) : 0 < c := by
  rcases c with _ | c
  · exact absurd (by decide) h
  · omega
theorem nI_lt1 {c n : Nat} {x : Int32} (hx : x = nI n) (hn : n ≤ 3) (hc : c < 3) (h : ¬ x ≤ nI c + 1) : c + 1 < n := by
  subst hx
  rcases Nat.lt_or_ge (c + 1) n with q | q
  · exact q
  · exact absurd (by rw [nI_1]; exact nI_le q (by omega)) h
