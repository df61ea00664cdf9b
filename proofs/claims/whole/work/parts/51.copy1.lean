theorem yv_fr {b e : Nat} {M M' : mm_M} (hb : b = 8 ∨ b = 16) (he : e = 8 ∨ e = 16) (hbe : b ≠ e) (h : yf b M M') : yv e M' = yv e M := by
  refine yv_ext (fun j q => ?_) (fun j q => ?_) (fun q => ?_) (fun j q => ?_) (fun j q => ?_)
  · exact congrFun (h _ (by unfold yo; omega)) q
  · exact congrFun (h _ (by unfold yo; omega)) q
  · exact congrFun (h _ (by unfold yo; omega)) q
  · exact congrFun (h _ (by unfold yo; omega)) q
  · exact congrFun (h _ (by unfold yo; omega)) q
def ucs (A : ya) (c n : Nat) (g : Nat → Int32) : ya := (A.1, A.2.1, A.2.2.1, fun c' k => if c' = c ∧ k < n then g k else A.2.2.2.1 c' k, A.2.2.2.2)
def ucw (A : ya) (c n : Nat) (g : Nat → Int32) : ya := (A.1, A.2.1, A.2.2.1, A.2.2.2.1, fun c' k => if c' = c ∧ k < n then g k else A.2.2.2.2 c' k)
theorem mm_cp_z {M : mm_M} {i0 i1 n j : Nat} (h : j ≠ i1) : mm_cp M i0 i1 n j = M j := mm_cp_i M i0 n h
theorem yv_cs {b e c c2 n : Nat} {M : mm_M} (hb : b = 8 ∨ b = 16) (he : e = 8 ∨ e = 16) (hbe : b ≠ e) : yv b (mm_cp M (e + 3 + 32 * c2 + 1) (b + 3 + 32 * c + 1) n) = ucs (yv b M) c n (se (yv e M) c2) := by
  refine yv_ext (fun j q => ?_) (fun j q => ?_) (fun q => ?_) (fun j q => ?_) (fun j q => ?_)
  · exact congrFun (mm_cp_z (by omega)) q
  · exact congrFun (mm_cp_z (by omega)) q
  · exact congrFun (mm_cp_z (by omega)) q
  · show (if b + 3 + 32 * j + 1 = b + 3 + 32 * c + 1 ∧ q < n then _ else _) = (if j = c ∧ q < n then _ else _)
    by_cases h : j = c
    · subst h
      by_cases hq : q < n
      · rw [if_pos ⟨rfl, hq⟩, if_pos ⟨rfl, hq⟩]; rfl
      · rw [if_neg (fun z => hq z.2), if_neg (fun z => hq z.2)]; rfl
    · rw [if_neg (fun z => h (by omega)), if_neg (fun z => h z.1)]; rfl
  · exact congrFun (mm_cp_z (by omega)) q
theorem yv_cw {b e c c2 n : Nat} {M : mm_M} (hb : b = 8 ∨ b = 16) (he : e = 8 ∨ e = 16) (hbe : b ≠ e) : yv b (mm_cp M (e + 3 + 32 * c2 + 2) (b + 3 + 32 * c + 2) n) = ucw (yv b M) c n (wa (yv e M) c2) := by
  refine yv_ext (fun j q => ?_) (fun j q => ?_) (fun q => ?_) (fun j q => ?_) (fun j q => ?_)
  · exact congrFun (mm_cp_z (by omega)) q
  · exact congrFun (mm_cp_z (by omega)) q
  · exact congrFun (mm_cp_z (by omega)) q
  · exact congrFun (mm_cp_z (by omega)) q
  · show (if b + 3 + 32 * j + 2 = b + 3 + 32 * c + 2 ∧ q < n then _ else _) = (if j = c ∧ q < n then _ else _)
    by_cases h : j = c
    · subst h
      by_cases hq : q < n
      · rw [if_pos ⟨rfl, hq⟩, if_pos ⟨rfl, hq⟩]; rfl
      · rw [if_neg (fun z => hq z.2), if_neg (fun z => hq z.2)]; rfl
    · rw [if_neg (fun z => h (by omega)), if_neg (fun z => h z.1)]; rfl
theorem yf_cp {b i0 i1 n : Nat} {M M1 : mm_M} (h : yf b M M1) (hi : yo b i1) : yf b M (mm_cp M1 i0 i1 n) := fun j hj => by
  have hne : j ≠ i1 := fun e => hj (by rw [e]; exact hi)
  rw [mm_cp_z hne]
  exact h j hj
def f_Jb_copyOf (A B : ya) (j : Nat) : Int32 × ya := (0, ujb (ujb (ujb (ujb (ujb (ujb (A) j 0 (jb B j 0)) j 1 (jb B j 1)) j 2 (jb B j 2)) j 3 (jb B j 3)) j 4 (jb B j 4)) j 5 (jb B j 5))
set_option maxRecDepth 20000 in
set_option maxHeartbeats 1000000 in
theorem ys_Jb_copyOf {d b : Nat} {M : mm_M} {j : Nat} (hb : b = 8 ∨ b = 16) {e : Nat} (he : e = 8 ∨ e = 16) (hbe : b ≠ e)  : YS (d + 1) 8 b M [.inr (1, b + 6 + 32 * j), .inr (1, e + 6 + 32 * j)] (none) (f_Jb_copyOf (yv b M) (yv e M) j).2 := by
  refine YS_of (Nat.le_of_ble_eq_true rfl) ?_
  show mm_Wp pg_Jb_copyOf rt_Jb_copyOf (ct_Sem (d + 0)) (M, 0, [some (.inr (1, b + 6 + 32 * j)), some (.inr (1, e + 6 + 32 * j))], []) _
  refine wgo (g' := (mm_up M (b + 6 + 32 * j) 0 (M (e + 6 + 32 * j) 0), 8, [some (.inr (1, b + 6 + 32 * j)), some (.inr (1, e + 6 + 32 * j))], [])) [oz 0, oz 0, oz 0, oz 0] rfl ⟨trivial, trivial, trivial, trivial, trivial⟩ ?_
  generalize e2 : mm_up M (b + 6 + 32 * j) 0 (M (e + 6 + 32 * j) 0) = M1
  have a3 : yv b M1 = ujb ((yv b M)) j 0 (jb (yv e M) j 0) := by
    rw [← e2]
    refine yv_jb.trans ?_
    show ujb ((yv b M)) j 0 (jb (yv e M) j 0) = _
    rfl
  have w4 : yf b M M1 := by rw [← e2]; exact yf_up yf_rf (by unfold yo; omega)
  have b5 : yv e M1 = yv e M := yv_fr hb he hbe w4
  refine wgo (g' := (mm_up M1 (b + 6 + 32 * j) 1 (M1 (e + 6 + 32 * j) 1), 16, [some (.inr (1, b + 6 + 32 * j)), some (.inr (1, e + 6 + 32 * j))], [])) [oz 0, oz 0, oz 0, oz 0] rfl ⟨trivial, trivial, trivial, trivial, trivial⟩ ?_
  generalize e7 : mm_up M1 (b + 6 + 32 * j) 1 (M1 (e + 6 + 32 * j) 1) = M6
  have a8 : yv b M6 = ujb (ujb ((yv b M)) j 0 (jb (yv e M) j 0)) j 1 (jb (yv e M) j 1) := by
    rw [← e7]
    refine yv_jb.trans ?_
    show ujb ((yv b M1)) j 1 (jb (yv e M1) j 1) = _
    first | rfl | simp only [a3, b5]
  have w9 : yf b M M6 := by rw [← e7]; exact yf_up w4 (by unfold yo; omega)
  have b10 : yv e M6 = yv e M := yv_fr hb he hbe w9
  refine wgo (g' := (mm_up M6 (b + 6 + 32 * j) 2 (M6 (e + 6 + 32 * j) 2), 24, [some (.inr (1, b + 6 + 32 * j)), some (.inr (1, e + 6 + 32 * j))], [])) [oz 0, oz 0, oz 0, oz 0] rfl ⟨trivial, trivial, trivial, trivial, trivial⟩ ?_
  generalize e12 : mm_up M6 (b + 6 + 32 * j) 2 (M6 (e + 6 + 32 * j) 2) = M11
  have a13 : yv b M11 = ujb (ujb (ujb ((yv b M)) j 0 (jb (yv e M) j 0)) j 1 (jb (yv e M) j 1)) j 2 (jb (yv e M) j 2) := by
    rw [← e12]
    refine yv_jb.trans ?_
    show ujb ((yv b M6)) j 2 (jb (yv e M6) j 2) = _
    first | rfl | simp only [a3, a8, b5, b10]
  have w14 : yf b M M11 := by rw [← e12]; exact yf_up w9 (by unfold yo; omega)
  have b15 : yv e M11 = yv e M := yv_fr hb he hbe w14
  refine wgo (g' := (mm_up M11 (b + 6 + 32 * j) 3 (M11 (e + 6 + 32 * j) 3), 32, [some (.inr (1, b + 6 + 32 * j)), some (.inr (1, e + 6 + 32 * j))], [])) [oz 0, oz 0, oz 0, oz 0] rfl ⟨trivial, trivial, trivial, trivial, trivial⟩ ?_
  generalize e17 : mm_up M11 (b + 6 + 32 * j) 3 (M11 (e + 6 + 32 * j) 3) = M16
  have a18 : yv b M16 = ujb (ujb (ujb (ujb ((yv b M)) j 0 (jb (yv e M) j 0)) j 1 (jb (yv e M) j 1)) j 2 (jb (yv e M) j 2)) j 3 (jb (yv e M) j 3) := by
    rw [← e17]
    refine yv_jb.trans ?_
    show ujb ((yv b M11)) j 3 (jb (yv e M11) j 3) = _
    first | rfl | simp only [a3, a8, a13, b5, b10, b15]
  have w19 : yf b M M16 := by rw [← e17]; exact yf_up w14 (by unfold yo; omega)
  have b20 : yv e M16 = yv e M := yv_fr hb he hbe w19
  refine wgo (g' := (mm_up M16 (b + 6 + 32 * j) 4 (M16 (e + 6 + 32 * j) 4), 40, [some (.inr (1, b + 6 + 32 * j)), some (.inr (1, e + 6 + 32 * j))], [])) [oz 0, oz 0, oz 0, oz 0] rfl ⟨trivial, trivial, trivial, trivial, trivial⟩ ?_
  generalize e22 : mm_up M16 (b + 6 + 32 * j) 4 (M16 (e + 6 + 32 * j) 4) = M21
  have a23 : yv b M21 = ujb (ujb (ujb (ujb (ujb ((yv b M)) j 0 (jb (yv e M) j 0)) j 1 (jb (yv e M) j 1)) j 2 (jb (yv e M) j 2)) j 3 (jb (yv e M) j 3)) j 4 (jb (yv e M) j 4) := by
    rw [← e22]
    refine yv_jb.trans ?_
    show ujb ((yv b M16)) j 4 (jb (yv e M16) j 4) = _
    first | rfl | simp only [a3, a8, a13, a18, b5, b10, b15, b20]
  have w24 : yf b M M21 := by rw [← e22]; exact yf_up w19 (by unfold yo; omega)
  have b25 : yv e M21 = yv e M := yv_fr hb he hbe w24
  refine wgo (g' := (mm_up M21 (b + 6 + 32 * j) 5 (M21 (e + 6 + 32 * j) 5), 48, [some (.inr (1, b + 6 + 32 * j)), some (.inr (1, e + 6 + 32 * j))], [])) [oz 0, oz 0, oz 0, oz 0] rfl ⟨trivial, trivial, trivial, trivial, trivial⟩ ?_
  generalize e27 : mm_up M21 (b + 6 + 32 * j) 5 (M21 (e + 6 + 32 * j) 5) = M26
  have a28 : yv b M26 = ujb (ujb (ujb (ujb (ujb (ujb ((yv b M)) j 0 (jb (yv e M) j 0)) j 1 (jb (yv e M) j 1)) j 2 (jb (yv e M) j 2)) j 3 (jb (yv e M) j 3)) j 4 (jb (yv e M) j 4)) j 5 (jb (yv e M) j 5) := by
    rw [← e27]
    refine yv_jb.trans ?_
    show ujb ((yv b M21)) j 5 (jb (yv e M21) j 5) = _
    first | rfl | simp only [a3, a8, a13, a18, a23, b5, b10, b15, b20, b25]
  have w29 : yf b M M26 := by rw [← e27]; exact yf_up w24 (by unfold yo; omega)
  have b30 : yv e M26 = yv e M := yv_fr hb he hbe w29
  have x31 : f_Jb_copyOf (yv b M) (yv e M) j = (0, ujb (ujb (ujb (ujb (ujb (ujb ((yv b M)) j 0 (jb (yv e M) j 0)) j 1 (jb (yv e M) j 1)) j 2 (jb (yv e M) j 2)) j 3 (jb (yv e M) j 3)) j 4 (jb (yv e M) j 4)) j 5 (jb (yv e M) j 5)) := by
    unfold f_Jb_copyOf
    rfl
  exact wend ⟨rfl, rfl⟩ ⟨rfl, a28.trans (congrArg Prod.snd x31).symm, w29⟩
