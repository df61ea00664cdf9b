theorem yv_fr {b e : Nat} {M M' : mm_M} (hb : b = 8 ∨ b = 16) (he : e = 8 ∨ e = 16) (hbe : b ≠ e) (h : yf b M M') : yv e M' = yv e M := by
  refine yv_ext (fun j q => ?_) (fun j q => ?_) (fun q => ?_) (fun j q => ?_) (fun j q => ?_)
  · exact congrFun (h _ (by unfold yo; omega)) q
  · exact congrFun (h _ (by unfold yo; omega)) q
  · exact congrFun (h _ (by unfold yo; omega)) q
  · exact congrFun (h _ (by unfold yo; omega)) q
  · exact congrFun (h _ (by unfold yo; omega)) q
def ucs (A : ya) (c n : Nat) (g : Nat → Int32) : ya := (A.1, A.2.1, A.2.2.1, fun c' k => if c' = c ∧ k < n then g k else A.2.2.2.1 c' k, A.2.2.2.2)
def ucw (A : ya) (c n : Nat) (g : Nat → Int32) : ya := (A.1, A.2.1, A.2.2.1, A.2.2.2.1, fun c' k => if c' = c ∧ k < n then g k else A.2.2.2.2 c' k)
theorem mm_cp_z {M : mm_M} {i0 i1 n j : Nat} (h : j ≠ i1) : mm_cp M i0 i1 n j = M j := mm_cp_i M i0 n h
theorem yv_cs {b e c c2 n : Nat} {M : mm_M} (hb : b = 8 ∨ b = 16) (he : e = 8 ∨ e = 16) (hbe : b ≠ e) : yv b (mm_cp M (e + 3 + 32 * c2 + 1) (b + 3 + 32 * c + 1) n) = ucs (yv b M) c n (se (yv e M) c2) := by
  refine yv_ext (fun j q => ?_) (fun j q => ?_) (fun q => ?_) (fun j q => ?_) (fun j q => ?_)
  · exact congrFun (mm_cp_z (by omega)) q
  · exact congrFun (mm_cp_z (by omega)) q
  · exact congrFun (mm_cp_z (by omega)) q
  · show (if b + 3 + 32 * j + 1 = b + 3 + 32 * c + 1 ∧ q < n then _ else _) = (if j = c ∧ q < n then _ else _)
    by_cases h : j = c
    · subst h
      by_cases hq : q < n
      · rw [if_pos ⟨rfl, hq⟩, if_pos ⟨rfl, hq⟩]; rfl
      · rw [if_neg (fun z => hq z.2), if_neg (fun z => hq z.2)]; rfl
    · rw [if_neg (fun z => h (by omega)), if_neg (fun z => h z.1)]; rfl
  · exact congrFun (mm_cp_z (by omega)) q
theorem yv_cw {b e c c2 n : Nat} {M : mm_M} (hb : b = 8 ∨ b = 16) (he : e = 8 ∨ e = 16) (hbe : b ≠ e) : yv b (mm_cp M (e + 3 + 32 * c2 + 2) (b + 3 + 32 * c + 2) n) = ucw (yv b M) c n (wa (yv e M) c2) := by
  refine yv_ext (fun j q => ?_) (fun j q => ?_) (fun q => ?_) (fun j q => ?_) (fun j q => ?_)
  · exact congrFun (mm_cp_z (by omega)) q
  · exact congrFun (mm_cp_z (by omega)) q
  · exact congrFun (mm_cp_z (by omega)) q
  · exact congrFun (mm_cp_z (by omega)) q
  · show (if b + 3 + 32 * j + 2 = b + 3 + 32 * c + 2 ∧ q < n then _ else _) = (if j = c ∧ q < n then _ else _)
    by_cases h : j = c
    · subst h
      by_cases hq : q < n
      · rw [if_pos ⟨rfl, hq⟩, if_pos ⟨rfl, hq⟩]; rfl
      · rw [if_neg (fun z => hq z.2), if_neg (fun z => hq z.2)]; rfl
    · rw [if_neg (fun z => h (by omega)), if_neg (fun z => h z.1)]; rfl
theorem yf_cp {b i0 i1 n : Nat} {M M1 : mm_M} (h : yf b M M1) (hi : yo b i1) : yf b M (mm_cp M1 i0 i1 n) := fun j hj => by
  have hne : j ≠ i1 := fun e => hj (by rw [e]; exact hi)
  rw [mm_cp_z hne]
  exact h j hj
def f_Jb_copyOf (A : ya) (B : ya) (j : Nat) : Int32 × ya := (0, ujb (ujb (ujb (ujb (ujb (ujb (A) j 0 (jb B j 0)) j 1 (jb B j 1)) j 2 (jb B j 2)) j 3 (jb B j 3)) j 4 (jb B j 4)) j 5 (jb B j 5))
set_option maxRecDepth 20000 in
set_option maxHeartbeats 1000000 in
theorem ys_Jb_copyOf {d b : Nat} {M : mm_M} {j : Nat} (hb : b = 8 ∨ b = 16) {e : Nat} (he : e = 8 ∨ e = 16) (hbe : b ≠ e)  : YS (d + 1) 8 b M [.inr (1, b + 6 + 32 * j), .inr (1, e + 6 + 32 * j)] (none) (f_Jb_copyOf (yv b M) (yv e M) j).2 := by
  refine YS_of (Nat.le_of_ble_eq_true rfl) ?_
  show mm_Wp pg_Jb_copyOf rt_Jb_copyOf (ct_Sem (d + 0)) (M, 0, [some (.inr (1, b + 6 + 32 * j)), some (.inr (1, e + 6 + 32 * j))], []) _
  refine wgo (g' := (mm_up M (b + 6 + 32 * j) 0 (M (e + 6 + 32 * j) 0), 8, [some (.inr (1, b + 6 + 32 * j)), some (.inr (1, e + 6 + 32 * j))], [])) [oz 0, oz 0, oz 0, oz 0] rfl ⟨trivial, trivial, trivial, trivial, trivial⟩ ?_
  generalize e2 : mm_up M (b + 6 + 32 * j) 0 (M (e + 6 + 32 * j) 0) = M1
  have a3 : yv b M1 = ujb ((yv b M)) j 0 (jb (yv e M) j 0) := by
    rw [← e2]
    refine yv_jb.trans ?_
    show ujb ((yv b M)) j 0 (jb (yv e M) j 0) = _
    rfl
  have w4 : yf b M M1 := by rw [← e2]; exact yf_up yf_rf (by unfold yo; omega)
  have b5 : yv e M1 = yv e M := yv_fr hb he hbe w4
  refine wgo (g' := (mm_up M1 (b + 6 + 32 * j) 1 (M1 (e + 6 + 32 * j) 1), 16, [some (.inr (1, b + 6 + 32 * j)), some (.inr (1, e + 6 + 32 * j))], [])) [oz 0, oz 0, oz 0, oz 0] rfl ⟨trivial, trivial, trivial, trivial, trivial⟩ ?_
  generalize e7 : mm_up M1 (b + 6 + 32 * j) 1 (M1 (e + 6 + 32 * j) 1) = M6
  have a8 : yv b M6 = ujb (ujb ((yv b M)) j 0 (jb (yv e M) j 0)) j 1 (jb (yv e M) j 1) := by
    rw [← e7]
    refine yv_jb.trans ?_
    show ujb ((yv b M1)) j 1 (jb (yv e M1) j 1) = _
    first | rfl | simp only [a3, b5]
  have w9 : yf b M M6 := by rw [← e7]; exact yf_up w4 (by unfold yo; omega)
  have b10 : yv e M6 = yv e M := yv_fr hb he hbe w9
  refine wgo (g' := (mm_up M6 (b + 6 + 32 * j) 2 (M6 (e + 6 + 32 * j) 2), 24, [some (.inr (1, b + 6 + 32 * j)), some (.inr (1, e + 6 + 32 * j))], [])) [oz 0, oz 0, oz 0, oz 0] rfl ⟨trivial, trivial, trivial, trivial, trivial⟩ ?_
  generalize e12 : mm_up M6 (b + 6 + 32 * j) 2 (M6 (e + 6 + 32 * j) 2) = M11
  have a13 : yv b M11 = ujb (ujb (ujb ((yv b M)) j 0 (jb (yv e M) j 0)) j 1 (jb (yv e M) j 1)) j 2 (jb (yv e M) j 2) := by
    rw [← e12]
    refine yv_jb.trans ?_
    show ujb ((yv b M6)) j 2 (jb (yv e M6) j 2) = _
    first | rfl | simp only [a3, a8, b5, b10]
  have w14 : yf b M M11 := by rw [← e12]; exact yf_up w9 (by unfold yo; omega)
  have b15 : yv e M11 = yv e M := yv_fr hb he hbe w14
  refine wgo (g' := (mm_up M11 (b + 6 + 32 * j) 3 (M11 (e + 6 + 32 * j) 3), 32, [some (.inr (1, b + 6 + 32 * j)), some (.inr (1, e + 6 + 32 * j))], [])) [oz 0, oz 0, oz 0, oz 0] rfl ⟨trivial, trivial, trivial, trivial, trivial⟩ ?_
  generalize e17 : mm_up M11 (b + 6 + 32 * j) 3 (M11 (e + 6 + 32 * j) 3) = M16
  have a18 : yv b M16 = ujb (ujb (ujb (ujb ((yv b M)) j 0 (jb (yv e M) j 0)) j 1 (jb (yv e M) j 1)) j 2 (jb (yv e M) j 2)) j 3 (jb (yv e M) j 3) := by
    rw [← e17]
    refine yv_jb.trans ?_
    show ujb ((yv b M11)) j 3 (jb (yv e M11) j 3) = _
    first | rfl | simp only [a3, a8, a13, b5, b10, b15]
  have w19 : yf b M M16 := by rw [← e17]; exact yf_up w14 (by unfold yo; omega)
  have b20 : yv e M16 = yv e M := yv_fr hb he hbe w19
  refine wgo (g' := (mm_up M16 (b + 6 + 32 * j) 4 (M16 (e + 6 + 32 * j) 4), 40, [some (.inr (1, b + 6 + 32 * j)), some (.inr (1, e + 6 + 32 * j))], [])) [oz 0, oz 0, oz 0, oz 0] rfl ⟨trivial, trivial, trivial, trivial, trivial⟩ ?_
  generalize e22 : mm_up M16 (b + 6 + 32 * j) 4 (M16 (e + 6 + 32 * j) 4) = M21
  have a23 : yv b M21 = ujb (ujb (ujb (ujb (ujb ((yv b M)) j 0 (jb (yv e M) j 0)) j 1 (jb (yv e M) j 1)) j 2 (jb (yv e M) j 2)) j 3 (jb (yv e M) j 3)) j 4 (jb (yv e M) j 4) := by
    rw [← e22]
    refine yv_jb.trans ?_
    show ujb ((yv b M16)) j 4 (jb (yv e M16) j 4) = _
    first | rfl | simp only [a3, a8, a13, a18, b5, b10, b15, b20]
  have w24 : yf b M M21 := by rw [← e22]; exact yf_up w19 (by unfold yo; omega)
  have b25 : yv e M21 = yv e M := yv_fr hb he hbe w24
  refine wgo (g' := (mm_up M21 (b + 6 + 32 * j) 5 (M21 (e + 6 + 32 * j) 5), 48, [some (.inr (1, b + 6 + 32 * j)), some (.inr (1, e + 6 + 32 * j))], [])) [oz 0, oz 0, oz 0, oz 0] rfl ⟨trivial, trivial, trivial, trivial, trivial⟩ ?_
  generalize e27 : mm_up M21 (b + 6 + 32 * j) 5 (M21 (e + 6 + 32 * j) 5) = M26
  have a28 : yv b M26 = ujb (ujb (ujb (ujb (ujb (ujb ((yv b M)) j 0 (jb (yv e M) j 0)) j 1 (jb (yv e M) j 1)) j 2 (jb (yv e M) j 2)) j 3 (jb (yv e M) j 3)) j 4 (jb (yv e M) j 4)) j 5 (jb (yv e M) j 5) := by
    rw [← e27]
    refine yv_jb.trans ?_
    show ujb ((yv b M21)) j 5 (jb (yv e M21) j 5) = _
    first | rfl | simp only [a3, a8, a13, a18, a23, b5, b10, b15, b20, b25]
  have w29 : yf b M M26 := by rw [← e27]; exact yf_up w24 (by unfold yo; omega)
  have b30 : yv e M26 = yv e M := yv_fr hb he hbe w29
  have x31 : f_Jb_copyOf (yv b M) (yv e M) j = (0, ujb (ujb (ujb (ujb (ujb (ujb ((yv b M)) j 0 (jb (yv e M) j 0)) j 1 (jb (yv e M) j 1)) j 2 (jb (yv e M) j 2)) j 3 (jb (yv e M) j 3)) j 4 (jb (yv e M) j 4)) j 5 (jb (yv e M) j 5)) := by
    unfold f_Jb_copyOf
    rfl
  exact wend ⟨rfl, rfl⟩ ⟨rfl, a28.trans (congrArg Prod.snd x31).symm, w29⟩
def f_Cr_copyOf (A : ya) (B : ya) (c : Nat) : Int32 × ya := (0, ucw (ucs (ucr (ucr (ucr (ucr (ucr (ucr ((f_Cr_stand (A) c (cr B c 0) (cr B c 1) (cr B c 2)).2) c 3 (cr B c 3)) c 4 (cr B c 4)) c 5 (cr B c 5)) c 6 (cr B c 6)) c 7 (cr B c 7)) c 10 (cr B c 10)) c 4 (se B c)) c 8 (wa B c))
set_option maxRecDepth 20000 in
set_option maxHeartbeats 1000000 in
theorem ys_Cr_copyOf {d b : Nat} {M : mm_M} {c : Nat} (hb : b = 8 ∨ b = 16) {e : Nat} (he : e = 8 ∨ e = 16) (hbe : b ≠ e) (hz : cr (yv e M) c 3 = 0 ∨ cr (yv e M) c 3 = 1) : YS (d + 2) 7 b M [.inr (0, b + 3 + 32 * c), .inr (0, e + 3 + 32 * c)] (none) (f_Cr_copyOf (yv b M) (yv e M) c).2 := by
  refine YS_of (Nat.le_of_ble_eq_true rfl) ?_
  show mm_Wp pg_Cr_copyOf rt_Cr_copyOf (ct_Sem (d + 1)) (M, 0, [some (.inr (0, b + 3 + 32 * c)), some (.inr (0, e + 3 + 32 * c))], []) _
  refine wgo (g' := (M, 13, [some (.inr (0, b + 3 + 32 * c)), some (.inr (0, e + 3 + 32 * c))], [.inl (M (e + 3 + 32 * c) 2), .inl (M (e + 3 + 32 * c) 1), .inl (M (e + 3 + 32 * c) 0), .inr (0, b + 3 + 32 * c)])) [oz 0, oz 0, oz 0, oz 0, oz 0, oz 0, oz 0] rfl ⟨trivial, trivial, trivial, trivial, trivial, trivial, trivial, trivial⟩ ?_
  obtain ⟨M1, s2, a3, w4⟩ := ys_Cr_stand (d := d) (b := b) (M := M) (c := c) (p := M (e + 3 + 32 * c) 0) (l := M (e + 3 + 32 * c) 1) (g := M (e + 3 + 32 * c) 2) hb 
  have a3 : yv b M1 = (f_Cr_stand ((yv b M)) c (cr (yv e M) c 0) (cr (yv e M) c 1) (cr (yv e M) c 2)).2 := a3.trans (show (f_Cr_stand ((yv b M)) c (cr (yv e M) c 0) (cr (yv e M) c 1) (cr (yv e M) c 2)).2 = _ from by first | rfl | simp only [yv])
  have w4 : yf b M M1 := yf_tr yf_rf w4
  have b5 : yv e M1 = yv e M := yv_fr hb he hbe w4
  refine wgo (g' := (mm_up M1 (b + 3 + 32 * c) 3 (M1 (e + 3 + 32 * c) 3), 24, [some (.inr (0, b + 3 + 32 * c)), some (.inr (0, e + 3 + 32 * c))], [])) [oc (none, M1), oz 0, oz 0, oz 0, oz 0] rfl ⟨⟨s2, Nat.le_of_ble_eq_true rfl, Nat.le_of_ble_eq_true rfl, ⟨_, rfl⟩⟩, trivial, trivial, trivial, (show cr (yv e M1) c 3 = 0 ∨ cr (yv e M1) c 3 = 1 from by rw [b5]; exact hz), trivial⟩ ?_
  generalize e7 : mm_up M1 (b + 3 + 32 * c) 3 (M1 (e + 3 + 32 * c) 3) = M6
  have a8 : yv b M6 = ucr ((f_Cr_stand ((yv b M)) c (cr (yv e M) c 0) (cr (yv e M) c 1) (cr (yv e M) c 2)).2) c 3 (cr (yv e M) c 3) := by
    rw [← e7]
    refine yv_cr.trans ?_
    show ucr ((yv b M1)) c 3 (cr (yv e M1) c 3) = _
    first | rfl | simp only [a3, b5]
  have w9 : yf b M M6 := by rw [← e7]; exact yf_up w4 (by unfold yo; omega)
  have b10 : yv e M6 = yv e M := yv_fr hb he hbe w9
  refine wgo (g' := (mm_up M6 (b + 3 + 32 * c) 4 (M6 (e + 3 + 32 * c) 4), 32, [some (.inr (0, b + 3 + 32 * c)), some (.inr (0, e + 3 + 32 * c))], [])) [oz 0, oz 0, oz 0, oz 0] rfl ⟨trivial, trivial, trivial, trivial, trivial⟩ ?_
  generalize e12 : mm_up M6 (b + 3 + 32 * c) 4 (M6 (e + 3 + 32 * c) 4) = M11
  have a13 : yv b M11 = ucr (ucr ((f_Cr_stand ((yv b M)) c (cr (yv e M) c 0) (cr (yv e M) c 1) (cr (yv e M) c 2)).2) c 3 (cr (yv e M) c 3)) c 4 (cr (yv e M) c 4) := by
    rw [← e12]
    refine yv_cr.trans ?_
    show ucr ((yv b M6)) c 4 (cr (yv e M6) c 4) = _
    first | rfl | simp only [a3, a8, b5, b10]
  have w14 : yf b M M11 := by rw [← e12]; exact yf_up w9 (by unfold yo; omega)
  have b15 : yv e M11 = yv e M := yv_fr hb he hbe w14
  refine wgo (g' := (mm_up M11 (b + 3 + 32 * c) 5 (M11 (e + 3 + 32 * c) 5), 40, [some (.inr (0, b + 3 + 32 * c)), some (.inr (0, e + 3 + 32 * c))], [])) [oz 0, oz 0, oz 0, oz 0] rfl ⟨trivial, trivial, trivial, trivial, trivial⟩ ?_
  generalize e17 : mm_up M11 (b + 3 + 32 * c) 5 (M11 (e + 3 + 32 * c) 5) = M16
  have a18 : yv b M16 = ucr (ucr (ucr ((f_Cr_stand ((yv b M)) c (cr (yv e M) c 0) (cr (yv e M) c 1) (cr (yv e M) c 2)).2) c 3 (cr (yv e M) c 3)) c 4 (cr (yv e M) c 4)) c 5 (cr (yv e M) c 5) := by
    rw [← e17]
    refine yv_cr.trans ?_
    show ucr ((yv b M11)) c 5 (cr (yv e M11) c 5) = _
    first | rfl | simp only [a3, a8, a13, b5, b10, b15]
  have w19 : yf b M M16 := by rw [← e17]; exact yf_up w14 (by unfold yo; omega)
  have b20 : yv e M16 = yv e M := yv_fr hb he hbe w19
  refine wgo (g' := (mm_up M16 (b + 3 + 32 * c) 6 (M16 (e + 3 + 32 * c) 6), 48, [some (.inr (0, b + 3 + 32 * c)), some (.inr (0, e + 3 + 32 * c))], [])) [oz 0, oz 0, oz 0, oz 0] rfl ⟨trivial, trivial, trivial, trivial, trivial⟩ ?_
  generalize e22 : mm_up M16 (b + 3 + 32 * c) 6 (M16 (e + 3 + 32 * c) 6) = M21
  have a23 : yv b M21 = ucr (ucr (ucr (ucr ((f_Cr_stand ((yv b M)) c (cr (yv e M) c 0) (cr (yv e M) c 1) (cr (yv e M) c 2)).2) c 3 (cr (yv e M) c 3)) c 4 (cr (yv e M) c 4)) c 5 (cr (yv e M) c 5)) c 6 (cr (yv e M) c 6) := by
    rw [← e22]
    refine yv_cr.trans ?_
    show ucr ((yv b M16)) c 6 (cr (yv e M16) c 6) = _
    first | rfl | simp only [a3, a8, a13, a18, b5, b10, b15, b20]
  have w24 : yf b M M21 := by rw [← e22]; exact yf_up w19 (by unfold yo; omega)
  have b25 : yv e M21 = yv e M := yv_fr hb he hbe w24
  refine wgo (g' := (mm_up M21 (b + 3 + 32 * c) 7 (M21 (e + 3 + 32 * c) 7), 56, [some (.inr (0, b + 3 + 32 * c)), some (.inr (0, e + 3 + 32 * c))], [])) [oz 0, oz 0, oz 0, oz 0] rfl ⟨trivial, trivial, trivial, trivial, trivial⟩ ?_
  generalize e27 : mm_up M21 (b + 3 + 32 * c) 7 (M21 (e + 3 + 32 * c) 7) = M26
  have a28 : yv b M26 = ucr (ucr (ucr (ucr (ucr ((f_Cr_stand ((yv b M)) c (cr (yv e M) c 0) (cr (yv e M) c 1) (cr (yv e M) c 2)).2) c 3 (cr (yv e M) c 3)) c 4 (cr (yv e M) c 4)) c 5 (cr (yv e M) c 5)) c 6 (cr (yv e M) c 6)) c 7 (cr (yv e M) c 7) := by
    rw [← e27]
    refine yv_cr.trans ?_
    show ucr ((yv b M21)) c 7 (cr (yv e M21) c 7) = _
    first | rfl | simp only [a3, a8, a13, a18, a23, b5, b10, b15, b20, b25]
  have w29 : yf b M M26 := by rw [← e27]; exact yf_up w24 (by unfold yo; omega)
  have b30 : yv e M26 = yv e M := yv_fr hb he hbe w29
  refine wgo (g' := (mm_up M26 (b + 3 + 32 * c) 10 (M26 (e + 3 + 32 * c) 10), 64, [some (.inr (0, b + 3 + 32 * c)), some (.inr (0, e + 3 + 32 * c))], [])) [oz 0, oz 0, oz 0, oz 0] rfl ⟨trivial, trivial, trivial, trivial, trivial⟩ ?_
  generalize e32 : mm_up M26 (b + 3 + 32 * c) 10 (M26 (e + 3 + 32 * c) 10) = M31
  have a33 : yv b M31 = ucr (ucr (ucr (ucr (ucr (ucr ((f_Cr_stand ((yv b M)) c (cr (yv e M) c 0) (cr (yv e M) c 1) (cr (yv e M) c 2)).2) c 3 (cr (yv e M) c 3)) c 4 (cr (yv e M) c 4)) c 5 (cr (yv e M) c 5)) c 6 (cr (yv e M) c 6)) c 7 (cr (yv e M) c 7)) c 10 (cr (yv e M) c 10) := by
    rw [← e32]
    refine yv_cr.trans ?_
    show ucr ((yv b M26)) c 10 (cr (yv e M26) c 10) = _
    first | rfl | simp only [a3, a8, a13, a18, a23, a28, b5, b10, b15, b20, b25, b30]
  have w34 : yf b M M31 := by rw [← e32]; exact yf_up w29 (by unfold yo; omega)
  have b35 : yv e M31 = yv e M := yv_fr hb he hbe w34
  refine wgo (g' := (mm_cp M31 (e + 3 + 32 * c + 1) (b + 3 + 32 * c + 1) 4, 78, [some (.inr (0, b + 3 + 32 * c)), some (.inr (0, e + 3 + 32 * c))], [])) [oz 0, oz 0, oz 0, oz 0, oz 0, oz 0, oz 0, oz 4] rfl ⟨trivial, trivial, trivial, trivial, trivial, trivial, trivial, ⟨rfl, rfl, rfl, Nat.le_refl _, Nat.le_of_ble_eq_true rfl⟩, trivial⟩ ?_
  generalize e37 : mm_cp M31 (e + 3 + 32 * c + 1) (b + 3 + 32 * c + 1) 4 = M36
  have a38 : yv b M36 = ucs (ucr (ucr (ucr (ucr (ucr (ucr ((f_Cr_stand ((yv b M)) c (cr (yv e M) c 0) (cr (yv e M) c 1) (cr (yv e M) c 2)).2) c 3 (cr (yv e M) c 3)) c 4 (cr (yv e M) c 4)) c 5 (cr (yv e M) c 5)) c 6 (cr (yv e M) c 6)) c 7 (cr (yv e M) c 7)) c 10 (cr (yv e M) c 10)) c 4 (se (yv e M) c) := by
    rw [← e37]
    refine (yv_cs hb he hbe).trans ?_
    show ucs ((yv b M31)) c 4 (se (yv e M31) c) = _
    first | rfl | simp only [a3, a8, a13, a18, a23, a28, a33, b5, b10, b15, b20, b25, b30, b35]
  have w39 : yf b M M36 := by rw [← e37]; exact yf_cp w34 (by unfold yo; omega)
  have b40 : yv e M36 = yv e M := yv_fr hb he hbe w39
  refine wgo (g' := (mm_cp M36 (e + 3 + 32 * c + 2) (b + 3 + 32 * c + 2) 8, 93, [some (.inr (0, b + 3 + 32 * c)), some (.inr (0, e + 3 + 32 * c))], [])) [oz 0, oz 0, oz 0, oz 0, oz 0, oz 0, oz 0, oz 8] rfl ⟨trivial, trivial, trivial, trivial, trivial, trivial, trivial, ⟨rfl, rfl, rfl, Nat.le_refl _, Nat.le_of_ble_eq_true rfl⟩, trivial⟩ ?_
  generalize e42 : mm_cp M36 (e + 3 + 32 * c + 2) (b + 3 + 32 * c + 2) 8 = M41
  have a43 : yv b M41 = ucw (ucs (ucr (ucr (ucr (ucr (ucr (ucr ((f_Cr_stand ((yv b M)) c (cr (yv e M) c 0) (cr (yv e M) c 1) (cr (yv e M) c 2)).2) c 3 (cr (yv e M) c 3)) c 4 (cr (yv e M) c 4)) c 5 (cr (yv e M) c 5)) c 6 (cr (yv e M) c 6)) c 7 (cr (yv e M) c 7)) c 10 (cr (yv e M) c 10)) c 4 (se (yv e M) c)) c 8 (wa (yv e M) c) := by
    rw [← e42]
    refine (yv_cw hb he hbe).trans ?_
    show ucw ((yv b M36)) c 8 (wa (yv e M36) c) = _
    first | rfl | simp only [a3, a8, a13, a18, a23, a28, a33, a38, b5, b10, b15, b20, b25, b30, b35, b40]
  have w44 : yf b M M41 := by rw [← e42]; exact yf_cp w39 (by unfold yo; omega)
  have b45 : yv e M41 = yv e M := yv_fr hb he hbe w44
  have x46 : f_Cr_copyOf (yv b M) (yv e M) c = (0, ucw (ucs (ucr (ucr (ucr (ucr (ucr (ucr ((f_Cr_stand ((yv b M)) c (cr (yv e M) c 0) (cr (yv e M) c 1) (cr (yv e M) c 2)).2) c 3 (cr (yv e M) c 3)) c 4 (cr (yv e M) c 4)) c 5 (cr (yv e M) c 5)) c 6 (cr (yv e M) c 6)) c 7 (cr (yv e M) c 7)) c 10 (cr (yv e M) c 10)) c 4 (se (yv e M) c)) c 8 (wa (yv e M) c)) := by
    unfold f_Cr_copyOf
    rfl
  exact wend ⟨rfl, rfl⟩ ⟨rfl, a43.trans (congrArg Prod.snd x46).symm, w44⟩
def f_cj : Nat → ya → ya → Nat → Int32 × ya
  | 0, A, _, _ => (0, A)
  | r + 1, A, B, i => (if (sc (A) 6) ≤ (nI i) then (0, A) else (f_cj r ((f_Jb_copyOf (A) B i).2) B (i + 1)))
set_option maxRecDepth 20000 in
set_option maxHeartbeats 1000000 in
theorem lp_cj {d b : Nat} {M : mm_M}   (hb : b = 8 ∨ b = 16) {e : Nat} (he : e = 8 ∨ e = 16) (hbe : b ≠ e) {m : Nat} (hm8 : m ≤ 8) : ∀ (r : Nat) (A : ya) (Mz : mm_M) (i : Nat), yv b Mz = A → yf b M Mz → (sc A 6 = nI m) → (i ≤ m) → (m < i + r) → mm_Wp pg_Yd_copyOf rt_Yd_copyOf (ct_Sem (d + 1)) (Mz, 105, [some (.inr (3, b)), some (.inr (3, e)), some (.inl (nI i))], []) (yQ b M (none) (f_cj r A (yv e M) i).2) := by
  intro r
  induction r with
  | zero =>
    intro A Mz i hA hf hn hi hr
    exfalso; omega
  | succ r ih =>
    intro A Mz i hA hf hn hi hr
    have b1 : yv e Mz = yv e M := yv_fr hb he hbe hf
    refine wgo (g' := (Mz, 110, [some (.inr (3, b)), some (.inr (3, e)), some (.inl (nI i))], [.inl (Mz b 6), .inl (nI i)])) [oz 0, oz 0, oz 0] rfl ⟨trivial, trivial, trivial, trivial⟩ ?_
    by_cases h2 : (Mz b 6) ≤ (nI i)
    · have k3 : (sc (A) 6) ≤ (nI i) := by
        have q : (sc (yv b Mz) 6) ≤ (nI i) := h2
        first | exact q | (simp only [hA, b1] at q; exact q)
      refine wgo (g' := (Mz, 134, [some (.inr (3, b)), some (.inr (3, e)), some (.inl (nI i))], [])) [oz 1] rfl ⟨h2, trivial⟩ ?_
      have x4 : f_cj (r + 1) A (yv e M) i = (0, A) := by
        rw [f_cj]
        rw [if_pos k3]
      exact wend ⟨rfl, rfl⟩ ⟨rfl, hA.trans (congrArg Prod.snd x4).symm, hf⟩
    · have k5 : ¬ ((sc (A) 6) ≤ (nI i)) := by
        have q : ¬ ((sc (yv b Mz) 6) ≤ (nI i)) := h2
        first | exact q | (simp only [hA, b1] at q; exact q)
      refine wgo (g' := (Mz, 125, [some (.inr (3, b)), some (.inr (3, e)), some (.inl (nI i))], [.inr (1, e + 6 + 32 * i), .inr (1, b + 6 + 32 * i)])) [oz 0, oz 0, oz 0, oz 0, oz i, oz 0, oz 0, oz 0, oz i] rfl ⟨h2, trivial, trivial, trivial, ⟨rfl, Nat.lt_of_lt_of_le (nI_sl hn (by omega) hi k5) hm8⟩, trivial, trivial, trivial, ⟨rfl, Nat.lt_of_lt_of_le (nI_sl hn (by omega) hi k5) hm8⟩, trivial⟩ ?_
      obtain ⟨M6, s7, a8, w9⟩ := ys_Jb_copyOf (d := d) (b := b) (M := Mz) (j := i) hb he hbe 
      have a8 : yv b M6 = (f_Jb_copyOf (A) (yv e M) i).2 := a8.trans (show (f_Jb_copyOf ((yv b Mz)) (yv e Mz) i).2 = _ from by first | rfl | simp only [hA, b1])
      have w9 : yf b M M6 := yf_tr hf w9
      have b10 : yv e M6 = yv e M := yv_fr hb he hbe w9
      refine wgo (g' := (M6, 105, [some (.inr (3, b)), some (.inr (3, e)), some (.inl ((nI i) + 1))], [])) [oc (none, M6), oz 0, oz 0] rfl ⟨⟨s7, Nat.le_of_ble_eq_true rfl, Nat.le_of_ble_eq_true rfl, ⟨_, rfl⟩⟩, trivial, trivial, trivial⟩ ?_
      rw [nI_1 i]
      have x11 : f_cj (r + 1) A (yv e M) i = f_cj r ((f_Jb_copyOf (A) (yv e M) i).2) (yv e M) (i + 1) := by
        rw [f_cj]
        rw [if_neg k5]
      rw [x11]
      exact ih _ M6 (i + 1) a8 w9 (by unfold f_Jb_copyOf; exact hn) (nI_sl hn (by omega) hi k5) (by omega)
def f_cc : Nat → ya → ya → Nat → Int32 × ya
  | 0, A, _, _ => (0, A)
  | r + 1, A, B, i => (if (sc (A) 0) ≤ (nI i) then (f_cj 9 (A) B 0) else (f_cc r ((f_Cr_copyOf (A) B i).2) B (i + 1)))
set_option maxRecDepth 20000 in
set_option maxHeartbeats 1000000 in
theorem lp_cc {d b : Nat} {M : mm_M}   (hb : b = 8 ∨ b = 16) {e : Nat} (he : e = 8 ∨ e = 16) (hbe : b ≠ e) {n m : Nat} (hn3 : n ≤ 3) (hm8 : m ≤ 8) (hz : ∀ c, c < 3 → cr (yv e M) c 3 = 0 ∨ cr (yv e M) c 3 = 1) : ∀ (r : Nat) (A : ya) (Mz : mm_M) (i : Nat), yv b Mz = A → yf b M Mz → (sc A 0 = nI n) → (sc A 6 = nI m) → (i ≤ n) → (n < i + r) → mm_Wp pg_Yd_copyOf rt_Yd_copyOf (ct_Sem (d + 2)) (Mz, 74, [some (.inr (3, b)), some (.inr (3, e)), some (.inl (nI i))], []) (yQ b M (none) (f_cc r A (yv e M) i).2) := by
  intro r
  induction r with
  | zero =>
    intro A Mz i hA hf hn hm hi hr
    exfalso; omega
  | succ r ih =>
    intro A Mz i hA hf hn hm hi hr
    have b1 : yv e Mz = yv e M := yv_fr hb he hbe hf
    refine wgo (g' := (Mz, 79, [some (.inr (3, b)), some (.inr (3, e)), some (.inl (nI i))], [.inl (Mz b 0), .inl (nI i)])) [oz 0, oz 0, oz 0] rfl ⟨trivial, trivial, trivial, trivial⟩ ?_
    by_cases h2 : (Mz b 0) ≤ (nI i)
    · have k3 : (sc (A) 0) ≤ (nI i) := by
        have q : (sc (yv b Mz) 0) ≤ (nI i) := h2
        first | exact q | (simp only [hA, b1] at q; exact q)
      refine wgo (g' := (Mz, 105, [some (.inr (3, b)), some (.inr (3, e)), some (.inl 0)], [])) [oz 1, oz 0, oz 0] rfl ⟨h2, trivial, Nat.le_of_ble_eq_true rfl, trivial⟩ ?_
      have x4 : f_cc (r + 1) A (yv e M) i = f_cj 9 (A) (yv e M) 0 := by
        rw [f_cc]
        rw [if_pos k3]
      rw [x4]
      exact lp_cj (d := d + 1) (b := b) (M := M)  hb he hbe hm8 9 _ Mz 0  hA hf hm (Nat.zero_le _) (by omega)
    · have k5 : ¬ ((sc (A) 0) ≤ (nI i)) := by
        have q : ¬ ((sc (yv b Mz) 0) ≤ (nI i)) := h2
        first | exact q | (simp only [hA, b1] at q; exact q)
      refine wgo (g' := (Mz, 94, [some (.inr (3, b)), some (.inr (3, e)), some (.inl (nI i))], [.inr (0, e + 3 + 32 * i), .inr (0, b + 3 + 32 * i)])) [oz 0, oz 0, oz 0, oz 0, oz i, oz 0, oz 0, oz 0, oz i] rfl ⟨h2, trivial, trivial, trivial, ⟨rfl, Nat.lt_of_lt_of_le (nI_sl hn (by omega) hi k5) hn3⟩, trivial, trivial, trivial, ⟨rfl, Nat.lt_of_lt_of_le (nI_sl hn (by omega) hi k5) hn3⟩, trivial⟩ ?_
      obtain ⟨M6, s7, a8, w9⟩ := ys_Cr_copyOf (d := d) (b := b) (M := Mz) (c := i) hb he hbe (by rw [b1]; exact hz _ (Nat.lt_of_lt_of_le (nI_sl hn (by omega) hi k5) hn3))
      have a8 : yv b M6 = (f_Cr_copyOf (A) (yv e M) i).2 := a8.trans (show (f_Cr_copyOf ((yv b Mz)) (yv e Mz) i).2 = _ from by first | rfl | simp only [hA, b1])
      have w9 : yf b M M6 := yf_tr hf w9
      have b10 : yv e M6 = yv e M := yv_fr hb he hbe w9
      refine wgo (g' := (M6, 74, [some (.inr (3, b)), some (.inr (3, e)), some (.inl ((nI i) + 1))], [])) [oc (none, M6), oz 0, oz 0] rfl ⟨⟨s7, Nat.le_of_ble_eq_true rfl, Nat.le_of_ble_eq_true rfl, ⟨_, rfl⟩⟩, trivial, trivial, trivial⟩ ?_
      rw [nI_1 i]
      have x11 : f_cc (r + 1) A (yv e M) i = f_cc r ((f_Cr_copyOf (A) (yv e M) i).2) (yv e M) (i + 1) := by
        rw [f_cc]
        rw [if_neg k5]
      rw [x11]
      exact ih _ M6 (i + 1) a8 w9 (by unfold f_Cr_copyOf f_Cr_stand; exact hn) (by unfold f_Cr_copyOf f_Cr_stand; exact hm) (nI_sl hn (by omega) hi k5) (by omega)
def f_Yd_copyOf (A : ya) (B : ya)  : Int32 × ya := (f_cc 4 (usc (usc (usc (usc (usc (usc (usc (usc (usc (A) 0 (sc B 0)) 1 (sc B 1)) 2 (sc B 2)) 3 (sc B 3)) 4 (sc B 4)) 5 (sc B 5)) 6 (sc B 6)) 7 (sc B 7)) 8 (sc B 8)) B 0)
set_option maxRecDepth 20000 in
set_option maxHeartbeats 1000000 in
theorem ys_Yd_copyOf {d b : Nat} {M : mm_M}  (hb : b = 8 ∨ b = 16) {e : Nat} (he : e = 8 ∨ e = 16) (hbe : b ≠ e) {n m : Nat} (hn3 : n ≤ 3) (hm8 : m ≤ 8) (hn : sc (yv e M) 0 = nI n) (hm : sc (yv e M) 6 = nI m) (hz : ∀ c, c < 3 → cr (yv e M) c 3 = 0 ∨ cr (yv e M) c 3 = 1) (hz8 : sc (yv e M) 8 = 0 ∨ sc (yv e M) 8 = 1) : YS (d + 3) 32 b M [.inr (3, b), .inr (3, e)] (none) (f_Yd_copyOf (yv b M) (yv e M) ).2 := by
  refine YS_of (Nat.le_of_ble_eq_true rfl) ?_
  show mm_Wp pg_Yd_copyOf rt_Yd_copyOf (ct_Sem (d + 2)) (M, 0, [some (.inr (3, b)), some (.inr (3, e)), none], []) _
  refine wgo (g' := (mm_up M b 0 (M e 0), 8, [some (.inr (3, b)), some (.inr (3, e)), none], [])) [oz 0, oz 0, oz 0, oz 0] rfl ⟨trivial, trivial, trivial, trivial, trivial⟩ ?_
  generalize e2 : mm_up M b 0 (M e 0) = M1
  have a3 : yv b M1 = usc ((yv b M)) 0 (sc (yv e M) 0) := by
    rw [← e2]
    refine yv_sc.trans ?_
    show usc ((yv b M)) 0 (sc (yv e M) 0) = _
    rfl
  have w4 : yf b M M1 := by rw [← e2]; exact yf_up yf_rf (by unfold yo; omega)
  have b5 : yv e M1 = yv e M := yv_fr hb he hbe w4
  refine wgo (g' := (mm_up M1 b 1 (M1 e 1), 16, [some (.inr (3, b)), some (.inr (3, e)), none], [])) [oz 0, oz 0, oz 0, oz 0] rfl ⟨trivial, trivial, trivial, trivial, trivial⟩ ?_
  generalize e7 : mm_up M1 b 1 (M1 e 1) = M6
  have a8 : yv b M6 = usc (usc ((yv b M)) 0 (sc (yv e M) 0)) 1 (sc (yv e M) 1) := by
    rw [← e7]
    refine yv_sc.trans ?_
    show usc ((yv b M1)) 1 (sc (yv e M1) 1) = _
    first | rfl | simp only [a3, b5]
  have w9 : yf b M M6 := by rw [← e7]; exact yf_up w4 (by unfold yo; omega)
  have b10 : yv e M6 = yv e M := yv_fr hb he hbe w9
  refine wgo (g' := (mm_up M6 b 2 (M6 e 2), 24, [some (.inr (3, b)), some (.inr (3, e)), none], [])) [oz 0, oz 0, oz 0, oz 0] rfl ⟨trivial, trivial, trivial, trivial, trivial⟩ ?_
  generalize e12 : mm_up M6 b 2 (M6 e 2) = M11
  have a13 : yv b M11 = usc (usc (usc ((yv b M)) 0 (sc (yv e M) 0)) 1 (sc (yv e M) 1)) 2 (sc (yv e M) 2) := by
    rw [← e12]
    refine yv_sc.trans ?_
    show usc ((yv b M6)) 2 (sc (yv e M6) 2) = _
    first | rfl | simp only [a3, a8, b5, b10]
  have w14 : yf b M M11 := by rw [← e12]; exact yf_up w9 (by unfold yo; omega)
  have b15 : yv e M11 = yv e M := yv_fr hb he hbe w14
  refine wgo (g' := (mm_up M11 b 3 (M11 e 3), 32, [some (.inr (3, b)), some (.inr (3, e)), none], [])) [oz 0, oz 0, oz 0, oz 0] rfl ⟨trivial, trivial, trivial, trivial, trivial⟩ ?_
  generalize e17 : mm_up M11 b 3 (M11 e 3) = M16
  have a18 : yv b M16 = usc (usc (usc (usc ((yv b M)) 0 (sc (yv e M) 0)) 1 (sc (yv e M) 1)) 2 (sc (yv e M) 2)) 3 (sc (yv e M) 3) := by
    rw [← e17]
    refine yv_sc.trans ?_
    show usc ((yv b M11)) 3 (sc (yv e M11) 3) = _
    first | rfl | simp only [a3, a8, a13, b5, b10, b15]
  have w19 : yf b M M16 := by rw [← e17]; exact yf_up w14 (by unfold yo; omega)
  have b20 : yv e M16 = yv e M := yv_fr hb he hbe w19
  refine wgo (g' := (mm_up M16 b 4 (M16 e 4), 40, [some (.inr (3, b)), some (.inr (3, e)), none], [])) [oz 0, oz 0, oz 0, oz 0] rfl ⟨trivial, trivial, trivial, trivial, trivial⟩ ?_
  generalize e22 : mm_up M16 b 4 (M16 e 4) = M21
  have a23 : yv b M21 = usc (usc (usc (usc (usc ((yv b M)) 0 (sc (yv e M) 0)) 1 (sc (yv e M) 1)) 2 (sc (yv e M) 2)) 3 (sc (yv e M) 3)) 4 (sc (yv e M) 4) := by
    rw [← e22]
    refine yv_sc.trans ?_
    show usc ((yv b M16)) 4 (sc (yv e M16) 4) = _
    first | rfl | simp only [a3, a8, a13, a18, b5, b10, b15, b20]
  have w24 : yf b M M21 := by rw [← e22]; exact yf_up w19 (by unfold yo; omega)
  have b25 : yv e M21 = yv e M := yv_fr hb he hbe w24
  refine wgo (g' := (mm_up M21 b 5 (M21 e 5), 48, [some (.inr (3, b)), some (.inr (3, e)), none], [])) [oz 0, oz 0, oz 0, oz 0] rfl ⟨trivial, trivial, trivial, trivial, trivial⟩ ?_
  generalize e27 : mm_up M21 b 5 (M21 e 5) = M26
  have a28 : yv b M26 = usc (usc (usc (usc (usc (usc ((yv b M)) 0 (sc (yv e M) 0)) 1 (sc (yv e M) 1)) 2 (sc (yv e M) 2)) 3 (sc (yv e M) 3)) 4 (sc (yv e M) 4)) 5 (sc (yv e M) 5) := by
    rw [← e27]
    refine yv_sc.trans ?_
    show usc ((yv b M21)) 5 (sc (yv e M21) 5) = _
    first | rfl | simp only [a3, a8, a13, a18, a23, b5, b10, b15, b20, b25]
  have w29 : yf b M M26 := by rw [← e27]; exact yf_up w24 (by unfold yo; omega)
  have b30 : yv e M26 = yv e M := yv_fr hb he hbe w29
  refine wgo (g' := (mm_up M26 b 6 (M26 e 6), 56, [some (.inr (3, b)), some (.inr (3, e)), none], [])) [oz 0, oz 0, oz 0, oz 0] rfl ⟨trivial, trivial, trivial, trivial, trivial⟩ ?_
  generalize e32 : mm_up M26 b 6 (M26 e 6) = M31
  have a33 : yv b M31 = usc (usc (usc (usc (usc (usc (usc ((yv b M)) 0 (sc (yv e M) 0)) 1 (sc (yv e M) 1)) 2 (sc (yv e M) 2)) 3 (sc (yv e M) 3)) 4 (sc (yv e M) 4)) 5 (sc (yv e M) 5)) 6 (sc (yv e M) 6) := by
    rw [← e32]
    refine yv_sc.trans ?_
    show usc ((yv b M26)) 6 (sc (yv e M26) 6) = _
    first | rfl | simp only [a3, a8, a13, a18, a23, a28, b5, b10, b15, b20, b25, b30]
  have w34 : yf b M M31 := by rw [← e32]; exact yf_up w29 (by unfold yo; omega)
  have b35 : yv e M31 = yv e M := yv_fr hb he hbe w34
  refine wgo (g' := (mm_up M31 b 7 (M31 e 7), 64, [some (.inr (3, b)), some (.inr (3, e)), none], [])) [oz 0, oz 0, oz 0, oz 0] rfl ⟨trivial, trivial, trivial, trivial, trivial⟩ ?_
  generalize e37 : mm_up M31 b 7 (M31 e 7) = M36
  have a38 : yv b M36 = usc (usc (usc (usc (usc (usc (usc (usc ((yv b M)) 0 (sc (yv e M) 0)) 1 (sc (yv e M) 1)) 2 (sc (yv e M) 2)) 3 (sc (yv e M) 3)) 4 (sc (yv e M) 4)) 5 (sc (yv e M) 5)) 6 (sc (yv e M) 6)) 7 (sc (yv e M) 7) := by
    rw [← e37]
    refine yv_sc.trans ?_
    show usc ((yv b M31)) 7 (sc (yv e M31) 7) = _
    first | rfl | simp only [a3, a8, a13, a18, a23, a28, a33, b5, b10, b15, b20, b25, b30, b35]
  have w39 : yf b M M36 := by rw [← e37]; exact yf_up w34 (by unfold yo; omega)
  have b40 : yv e M36 = yv e M := yv_fr hb he hbe w39
  refine wgo (g' := (mm_up M36 b 8 (M36 e 8), 72, [some (.inr (3, b)), some (.inr (3, e)), none], [])) [oz 0, oz 0, oz 0, oz 0] rfl ⟨trivial, trivial, trivial, (show sc (yv e M36) 8 = 0 ∨ sc (yv e M36) 8 = 1 from by rw [b40]; exact hz8), trivial⟩ ?_
  generalize e42 : mm_up M36 b 8 (M36 e 8) = M41
  have a43 : yv b M41 = usc (usc (usc (usc (usc (usc (usc (usc (usc ((yv b M)) 0 (sc (yv e M) 0)) 1 (sc (yv e M) 1)) 2 (sc (yv e M) 2)) 3 (sc (yv e M) 3)) 4 (sc (yv e M) 4)) 5 (sc (yv e M) 5)) 6 (sc (yv e M) 6)) 7 (sc (yv e M) 7)) 8 (sc (yv e M) 8) := by
    rw [← e42]
    refine yv_sc.trans ?_
    show usc ((yv b M36)) 8 (sc (yv e M36) 8) = _
    first | rfl | simp only [a3, a8, a13, a18, a23, a28, a33, a38, b5, b10, b15, b20, b25, b30, b35, b40]
  have w44 : yf b M M41 := by rw [← e42]; exact yf_up w39 (by unfold yo; omega)
  have b45 : yv e M41 = yv e M := yv_fr hb he hbe w44
  refine wgo (g' := (M41, 74, [some (.inr (3, b)), some (.inr (3, e)), some (.inl 0)], [])) [oz 0, oz 0] rfl ⟨trivial, Nat.le_of_ble_eq_true rfl, trivial⟩ ?_
  have x46 : f_Yd_copyOf (yv b M) (yv e M) = f_cc 4 (usc (usc (usc (usc (usc (usc (usc (usc (usc ((yv b M)) 0 (sc (yv e M) 0)) 1 (sc (yv e M) 1)) 2 (sc (yv e M) 2)) 3 (sc (yv e M) 3)) 4 (sc (yv e M) 4)) 5 (sc (yv e M) 5)) 6 (sc (yv e M) 6)) 7 (sc (yv e M) 7)) 8 (sc (yv e M) 8)) (yv e M) 0 := by
    unfold f_Yd_copyOf
    rfl
  rw [x46]
  exact lp_cc (d := d) (b := b) (M := M)  hb he hbe hn3 hm8 hz 4 _ M41 0  a43 w44 hn hm (Nat.zero_le _) (by omega)
