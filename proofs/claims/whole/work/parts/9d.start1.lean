/-! THE FIRST WORLD -/
def M0 : mm_M := fun i k => if i = 27 then (if k = 1 then 200 else 0) else if i = 8 ∨ i = 16 then (if k = 5 then 200 else 0) else if i % 32 = 11 ∨ i % 32 = 19 then (if k = 4 then -1 else 0) else if i % 32 = 14 ∨ i % 32 = 22 then (if k = 4 ∨ k = 5 then -1 else 0) else 0
def ad0 (x u v y : Nat → Nat) : Nat → Nat := fun i => if i % 32 < 8 then x i else if i % 32 < 16 then u (i - 8) else if i % 32 < 24 then v (i - 16) else y (i - 24)
def ad6 (x0 x1 x2 x3 x4 x5 : Nat) : Nat → Nat := fun i => if i = 0 then x0 else if i = 1 then x1 else if i = 2 then x2 else if i = 3 then x3 else if i = 4 then x4 else x5
def ad7 (x0 x1 x2 x3 x4 x5 x6 : Nat) : Nat → Nat := fun i => if i = 0 then x0 else if i = 1 then x1 else if i = 2 then x2 else if i = 3 then x3 else if i = 4 then x4 else if i = 5 then x5 else x6
theorem ad0_u {x u v y : Nat → Nat} {i k : Nat} (h1 : i % 32 < 16) (h0 : 8 ≤ i % 32) (e : i = 8 + k) : u k = ad0 x u v y i := by
  unfold ad0
  rw [if_neg (by omega), if_pos h1]
  congr 1
  omega
theorem ad0_v {x u v y : Nat → Nat} {i k : Nat} (h1 : i % 32 < 24) (h0 : 16 ≤ i % 32) (e : i = 16 + k) : v k = ad0 x u v y i := by
  unfold ad0
  rw [if_neg (by omega), if_neg (by omega), if_pos h1]
  congr 1
  omega
theorem gs0 : gs M0 0 0 0 := by
  have z : ∀ {p : Prop} (c : Nat), c < 0 → p := fun c h => absurd h (Nat.not_lt_zero c)
  refine ⟨⟨⟨⟨?_, fun c h => z c h, fun c h => absurd h (by omega), fun c h => z c h, fun c h => z c h, by decide +kernel⟩, ?_, by decide +kernel, fun c h => z c h, fun c h => z c h⟩, ?_⟩, ?_, ?_, ⟨fun _ => rfl, fun _ => by decide +kernel⟩, by decide +kernel, fun _ _ i h => z i h, fun _ => ⟨rfl, ?_⟩, ⟨0, by decide, by decide +kernel, by decide +kernel, fun i h => z i h⟩, ?_⟩
  · refine ⟨by decide, by decide, by decide +kernel, by decide +kernel, fun h => absurd h (by decide), Or.inl (by decide +kernel)⟩
  · refine yv_ext (fun c k => ?_) (fun c k => ?_) (fun k => ?_) (fun c k => ?_) (fun _ _ => rfl)
    · simp [vA, vX]
    · simp [vA, vX]
    · by_cases h : k < 7
      · have : ∀ k, k < 7 → (vA 0 0 (yv 8 M0)).2.2.1 k = (vX 0 0 (rv M0)).2.2.1 k := by decide +kernel
        exact this k h
      · simp [vA, vX, h]
    · simp [vA, vX]
  · show ∀ q, 0 ≤ q → q < 3 → f_Mo_ofCrane (rv M0) q 1 = 0
    intro q _ h
    have : ∀ q, q < 3 → f_Mo_ofCrane (rv M0) q 1 = 0 := by decide +kernel
    exact this q h
  · intro c _ h
    have : ∀ c, c < 3 → cr (yv 8 M0) c 3 = 0 ∧ cr (yv 8 M0) c 10 = 0 := by decide +kernel
    exact this c h
  · intro i _ h
    have : ∀ i, i < 8 → jb (yv 8 M0) i 3 = 0 ∧ jb (yv 8 M0) i 4 = -1 ∧ jb (yv 8 M0) i 5 = -1 := by decide +kernel
    exact this i h
  · unfold INI
    decide +kernel
  · decide +kernel
set_option maxRecDepth 100000 in
set_option maxHeartbeats 4000000 in
theorem w0_LWd {D : va_G} {cA : Nat → ClassId} {s : State} {H : Heap} {locs : List Loc} {h0 g a1 a2 a3 a4 m0 b1 b2 b3 b4 b5 b6 o : Nat} {u v : Nat → Nat} {f : Nat → Int64} (hP : va_P D ct_cl (w_ct cA h0 u g v a1 a2 a3 a4 ++ (w_mo cA m0 b1 b2 b3 b4 b5 b6 ++ [(o, mo_E cA f)])) H) (hD : va_D (fun q : Nat => s.heap.size ≤ q) (w_ct cA h0 u g v a1 a2 a3 a4 ++ (w_mo cA m0 b1 b2 b3 b4 b5 b6 ++ [(o, mo_E cA f)]))) (hS : va_S (fun q : Nat => s.heap.size ≤ q) s.heap H locs) : LWd D (ad0 (ad6 h0 g a1 a2 a3 a4) u v (ad7 m0 b1 b2 b3 b4 b5 b6)) cA s M0 o f H locs := by
  have hP := cn_ref (g := fun j => some ((ad0 (ad6 h0 g a1 a2 a3 a4) u v (ad7 m0 b1 b2 b3 b4 b5 b6)) (9 + 2 + 32 * j))) (a := u 1) (c := cA 2) (n := 3) (f := fun j => some (u (3 + 32 * j))) hP 2 rfl (fun j hj => congrArg some (ad0_u (by omega) (by omega) (by omega)))
  have hP := cn_ref (g := fun j => some ((ad0 (ad6 h0 g a1 a2 a3 a4) u v (ad7 m0 b1 b2 b3 b4 b5 b6)) (10 + 4 + 32 * j))) (a := u 2) (c := cA 3) (n := 8) (f := fun j => some (u (6 + 32 * j))) hP 3 rfl (fun j hj => congrArg some (ad0_u (by omega) (by omega) (by omega)))
  have hP := cn_ref (g := fun j => some ((ad0 (ad6 h0 g a1 a2 a3 a4) u v (ad7 m0 b1 b2 b3 b4 b5 b6)) (17 + 2 + 32 * j))) (a := v 1) (c := cA 2) (n := 3) (f := fun j => some (v (3 + 32 * j))) hP 23 rfl (fun j hj => congrArg some (ad0_v (by omega) (by omega) (by omega)))
  have hP := cn_ref (g := fun j => some ((ad0 (ad6 h0 g a1 a2 a3 a4) u v (ad7 m0 b1 b2 b3 b4 b5 b6)) (18 + 4 + 32 * j))) (a := v 2) (c := cA 3) (n := 8) (f := fun j => some (v (6 + 32 * j))) hP 24 rfl (fun j hj => congrArg some (ad0_v (by omega) (by omega) (by omega)))
  have hD : va_D (fun q : Nat => s.heap.size ≤ q) (((((w_ct cA h0 u g v a1 a2 a3 a4 ++ (w_mo cA m0 b1 b2 b3 b4 b5 b6 ++ [(o, mo_E cA f)])).set 2 (u 1, .inl (cA 2, 3, .inr (.inr (.inr (.inr (fun j => some ((ad0 (ad6 h0 g a1 a2 a3 a4) u v (ad7 m0 b1 b2 b3 b4 b5 b6)) (9 + 2 + 32 * j))))))))).set 3 (u 2, .inl (cA 3, 8, .inr (.inr (.inr (.inr (fun j => some ((ad0 (ad6 h0 g a1 a2 a3 a4) u v (ad7 m0 b1 b2 b3 b4 b5 b6)) (10 + 4 + 32 * j))))))))).set 23 (v 1, .inl (cA 2, 3, .inr (.inr (.inr (.inr (fun j => some ((ad0 (ad6 h0 g a1 a2 a3 a4) u v (ad7 m0 b1 b2 b3 b4 b5 b6)) (17 + 2 + 32 * j))))))))).set 24 (v 2, .inl (cA 3, 8, .inr (.inr (.inr (.inr (fun j => some ((ad0 (ad6 h0 g a1 a2 a3 a4) u v (ad7 m0 b1 b2 b3 b4 b5 b6)) (18 + 4 + 32 * j))))))))) := cn_sameD hD rfl
  refine ⟨hP.sub [0, 21, 42, 43, 44, 45, 1, 2, 3, 4, 5, 6, 13, 22, 23, 24, 25, 26, 27, 34, 46, 47, 48, 49, 50, 51, 52, 7, 8, 9, 14, 28, 29, 30, 35, 10, 11, 12, 15, 31, 32, 33, 36, 16, 37, 17, 38, 18, 39, 19, 40, 20, 41] rfl, hP.sub [53] rfl, ?_, hS⟩
  exact hD.sub [0, 21, 42, 43, 44, 45, 1, 2, 3, 4, 5, 6, 13, 22, 23, 24, 25, 26, 27, 34, 46, 47, 48, 49, 50, 51, 52, 7, 8, 9, 14, 28, 29, 30, 35, 10, 11, 12, 15, 31, 32, 33, 36, 16, 37, 17, 38, 18, 39, 19, 40, 20, 41, 53] (by decide) rfl
