/-! WHAT THE THROWING METHODS CALL -/
def cu_S0 (d : Nat) : mm_S := fun z M as res => z < 70 ∧ ct_Sem d z M as res
def cu_pg : Nat → List (Nat × mm_F) := fun z => ([pg_Ct_needTrack, pg_Ct_needCrane, pg_Ct_needJob] : List (List (Nat × mm_F))).getD (z - 70) []
def cu_rt : Nat → List (Nat × Nat) := fun z => ([rt_Ct_needTrack, rt_Ct_needCrane, rt_Ct_needJob] : List (List (Nat × Nat))).getD (z - 70) []
def cu_S1 (d : Nat) : mm_S := fun z M as res => (z < 70 ∧ ct_Sem (d + 1) z M as res) ∨ (70 ≤ z ∧ z < 73 ∧ as.length ≤ cu_T.2.2.1 z ∧ mm_Ends (cu_pg z) (cu_rt z) (cu_S0 d) (M, 0, as.map some ++ List.replicate (cu_T.2.2.1 z - as.length) none, []) res)
theorem cu_0 {d z : Nat} {M : mm_M} {as : List mm_V} {res : mm_R} (h : ct_Sem d z M as res) (hz : z < 70 := by decide) : cu_S0 d z M as res := ⟨hz, h⟩
theorem cu_l {d z : Nat} {M : mm_M} {as : List mm_V} {res : mm_R} (h : ct_Sem (d + 1) z M as res) (hz : z < 70 := by decide) : cu_S1 d z M as res := Or.inl ⟨hz, h⟩
section
variable {D : va_G} {ad : Nat → Nat} {cA : Nat → ClassId} {l : Launch}
theorem mm_rmok2 {d : Nat} : ∀ mx, mx ≤ 30 → (mm_rm d).frames + 1 ≤ (mm_rm (d + 1)).frames ∧ 8 + (mx + 11) + (mm_rm d).locals ≤ (mm_rm (d + 1)).locals := fun _ h => mm_rmok h
theorem mx_rmok {d : Nat} : ∀ mx, mx ≤ 30 → (mm_rm d).frames + 1 ≤ (mx_rm (d + 1)).frames ∧ 8 + (mx + 11) + (mm_rm d).locals ≤ (mx_rm (d + 1)).locals := fun mx h => ⟨Nat.le_refl _, by show 8 + (mx + 11) + 60 * d ≤ 60 * (d + 1); omega⟩
theorem cu_sound0 (d : Nat) : mm_Sound ct_GW ct_NW D ct_cl (ct_tys cA) ad cA ct_K ct_kd ct_N l cu_T (mm_rm d) (cu_S0 d) := fun z M as r M' sz h hok => by
  obtain ⟨hz, h⟩ := h
  obtain ⟨e1, e2, e3, e4⟩ := cu_T0 hz
  have := ct_sound (D := D) (ad := ad) (cA := cA) (l := l) d z M as r M' sz h hok
  unfold mm_ws at this ⊢
  rw [e1, e2, e3, e4]
  exact this
theorem cu_sound1 (d : Nat) : mm_Sound ct_GW ct_NW D ct_cl (ct_tys cA) ad cA ct_K ct_kd ct_N l cu_T (mm_rm (d + 1)) (cu_S1 d) := fun z M as r M' sz h hok => by
  rcases h with ⟨hz, h⟩ | ⟨h1, h2, h3, h4⟩
  · exact cu_sound0 (d + 1) z M as r M' sz ⟨hz, h⟩ hok
  · have e : z = 70 ∨ z = 71 ∨ z = 72 := by omega
    rcases e with rfl | rfl | rfl
    · exact mm_met (T := cu_T) (z := 70) (pg := pg_Ct_needTrack) (rt := rt_Ct_needTrack) (by decide +kernel) ct_lay (po_Ct_needTrack mm_rmok2 (cu_sound0 d)) ro_Ct_needTrack h3 h4 hok
    · exact mm_met (T := cu_T) (z := 71) (pg := pg_Ct_needCrane) (rt := rt_Ct_needCrane) (by decide +kernel) ct_lay (po_Ct_needCrane mm_rmok2 (cu_sound0 d)) ro_Ct_needCrane h3 h4 hok
    · exact mm_met (T := cu_T) (z := 72) (pg := pg_Ct_needJob) (rt := rt_Ct_needJob) (by decide +kernel) ct_lay (po_Ct_needJob mm_rmok2 (cu_sound0 d)) ro_Ct_needJob h3 h4 hok
end
