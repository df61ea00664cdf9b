section
variable {D : va_G} {ad : Nat → Nat} {cA : Nat → ClassId} {l : Launch} {d : Nat} {S : mm_S}
set_option maxRecDepth 100000 in
set_option maxHeartbeats 4000000 in
theorem po_Yd_takeFirst (hS : mm_Sound ct_GW ct_NW D ct_cl (ct_tys cA) ad cA ct_K ct_kd ct_N l ct_T (mm_rm d) S) : ∀ pc f, mm_at pg_Yd_takeFirst pc = some f → mm_Ok ct_GW ct_NW D ct_cl (ct_tys cA) ad cA ct_K ct_kd ct_N l (mm_rm (d + 1)) "CraneTurns$Yard" prog_5_method_13_code 3 S pc f :=
  mm_at_cons (ok_aload_n (k := 1) (by decide +kernel) rfl) <|
  mm_at_cons (ok_getf (ci := 0) (k := 10) (idx := 140) rfl ct_in0 (by decide) ww_145 rfl rfl (by decide +kernel)) <|
  mm_at_cons (ok_if_ne (off := 4) (by decide +kernel) (by decide)) <|
  mm_at_cons (ok_aload_n (k := 1) (by decide +kernel) rfl) <|
  mm_at_cons (ok_getr (ck := 7) (off := 2) (ci := 0) (k := 9) (idx := 143) rfl ct_in0 (by decide) ww_146 rfl rfl (by decide +kernel)) <|
  mm_at_cons (ok_iconst (n := 0) (by decide +kernel) (by decide)) <|
  mm_at_cons (ok_iald (t9 := 0) (by decide) rfl rfl (by decide +kernel)) <|
  mm_at_cons (ok_istore_n (k := 2) (by decide +kernel) rfl) <|
  mm_at_cons (ok_iload_n (k := 2) (by decide +kernel) rfl) <|
  mm_at_cons (ok_iconst (n := 0) (by decide +kernel) (by decide)) <|
  mm_at_cons (ok_aload_n (k := 0) (by decide +kernel) rfl) <|
  mm_at_cons (ok_getf (ci := 3) (k := 6) (idx := 45) rfl ct_in3 (by decide) ww_92 rfl rfl (by decide +kernel)) <|
  mm_at_cons (ok_iconst (n := 1) (by decide +kernel) (by decide)) <|
  mm_at_cons (ok_isub (by decide +kernel)) <|
  mm_at_cons (ok_callN (z := 1) (idx := 74) (host := "CraneTurns") hS ⟨rfl, rfl⟩ (mm_rmok (by decide)) ct_good ww_6 (mm_2 ww_7 ww_8) (by decide +kernel) (by decide +kernel) (by decide +kernel)) <|
  mm_at_cons (ok_if_eq (off := 19) (by decide +kernel) (by decide)) <|
  mm_at_cons (ok_aload_n (k := 0) (by decide +kernel) rfl) <|
  mm_at_cons (ok_getf (ci := 3) (k := 4) (idx := 98) rfl ct_in3 (by decide) ww_120 rfl rfl (by decide +kernel)) <|
  mm_at_cons (ok_aload_n (k := 0) (by decide +kernel) rfl) <|
  mm_at_cons (ok_getr (ck := 11) (off := 2) (ci := 3) (k := 10) (idx := 23) rfl ct_in3 (by decide) ww_93 rfl rfl (by decide +kernel)) <|
  mm_at_cons (ok_iload_n (k := 2) (by decide +kernel) rfl) <|
  mm_at_cons (ok_aald (t9 := 3) (C := "CraneTurns$Job") (by decide) rfl rfl (by decide +kernel)) <|
  mm_at_cons (ok_getf (ci := 1) (k := 2) (idx := 54) rfl ct_in1 (by decide) ww_96 rfl rfl (by decide +kernel)) <|
  mm_at_cons (ok_icmp_ge (off := 4) (by decide +kernel) (by decide)) <|
  mm_at_cons (ok_aload_n (k := 1) (by decide +kernel) rfl) <|
  mm_at_cons (ok_iload_n (k := 2) (by decide +kernel) rfl) <|
  mm_at_cons (ok_callV (z := 6) (ci := 0) (idx := 78) rfl hS ⟨rfl, rfl⟩ (mm_rmok (by decide)) rfl ct_good ww_105 (mm_4 ww_107 ww_108 ww_106 ww_17) (by decide +kernel) (by decide +kernel)) <|
  mm_at_cons (ok_aload_n (k := 1) (by decide +kernel) rfl) <|
  mm_at_cons (ok_iload_n (k := 2) (by decide +kernel) rfl) <|
  mm_at_cons (ok_putf (ci := 0) (k := 4) (idx := 110) rfl ct_in0 (by decide) ww_124 rfl ct_ty0 ct_tyok0 ct_nm0 rfl (by decide +kernel) rfl (by decide +kernel)) <|
  mm_at_cons (ok_aload_n (k := 0) (by decide +kernel) rfl) <|
  mm_at_cons (ok_getr (ck := 11) (off := 2) (ci := 3) (k := 10) (idx := 23) rfl ct_in3 (by decide) ww_93 rfl rfl (by decide +kernel)) <|
  mm_at_cons (ok_iload_n (k := 2) (by decide +kernel) rfl) <|
  mm_at_cons (ok_aald (t9 := 3) (C := "CraneTurns$Job") (by decide) rfl rfl (by decide +kernel)) <|
  mm_at_cons (ok_iconst (n := 2) (by decide +kernel) (by decide)) <|
  mm_at_cons (ok_putf (ci := 1) (k := 3) (idx := 60) rfl ct_in1 (by decide) ww_98 rfl ct_ty1 ct_tyok1 ct_nm1 rfl (by decide +kernel) rfl (by decide +kernel)) <|
  mm_at_cons (ok_aload_n (k := 1) (by decide +kernel) rfl) <|
  mm_at_cons (ok_aload_n (k := 0) (by decide +kernel) rfl) <|
  mm_at_cons (ok_getr (ck := 11) (off := 2) (ci := 3) (k := 10) (idx := 23) rfl ct_in3 (by decide) ww_93 rfl rfl (by decide +kernel)) <|
  mm_at_cons (ok_iload_n (k := 2) (by decide +kernel) rfl) <|
  mm_at_cons (ok_aald (t9 := 3) (C := "CraneTurns$Job") (by decide) rfl rfl (by decide +kernel)) <|
  mm_at_cons (ok_getf (ci := 1) (k := 0) (idx := 48) rfl ct_in1 (by decide) ww_94 rfl rfl (by decide +kernel)) <|
  mm_at_cons (ok_putf (ci := 0) (k := 6) (idx := 134) rfl ct_in0 (by decide) ww_141 rfl ct_ty0 ct_tyok0 ct_nm0 rfl (by decide +kernel) rfl (by decide +kernel)) <|
  mm_at_cons (ok_aload_n (k := 1) (by decide +kernel) rfl) <|
  mm_at_cons (ok_iconst (n := 1) (by decide +kernel) (by decide)) <|
  mm_at_cons (ok_putf (ci := 0) (k := 5) (idx := 124) rfl ct_in0 (by decide) ww_134 rfl ct_ty0 ct_tyok0 ct_nm0 rfl (by decide +kernel) rfl (by decide +kernel)) <|
  mm_at_cons (ok_aload_n (k := 0) (by decide +kernel) rfl) <|
  mm_at_cons (ok_aload_n (k := 1) (by decide +kernel) rfl) <|
  mm_at_cons (ok_callV (z := 27) (ci := 3) (idx := 137) rfl hS ⟨rfl, rfl⟩ (mm_rmok (by decide)) rfl ct_good ww_142 (mm_4 ww_143 ww_144 sel_27 ww_37) (by decide +kernel) (by decide +kernel)) <|
  mm_at_nil
theorem ro_Yd_takeFirst : mm_RtOk prog_5_method_13_code (none) rt_Yd_takeFirst :=
  mm_rt_cons (Or.inl ⟨rfl, rfl, by decide +kernel⟩) <|
  mm_rt_cons (Or.inl ⟨rfl, rfl, by decide +kernel⟩) <|
  mm_rt_cons (Or.inl ⟨rfl, rfl, by decide +kernel⟩) <|
  mm_rt_nil
set_option maxRecDepth 100000 in
set_option maxHeartbeats 4000000 in
theorem po_Yd_handleIfThere (hS : mm_Sound ct_GW ct_NW D ct_cl (ct_tys cA) ad cA ct_K ct_kd ct_N l ct_T (mm_rm d) S) : ∀ pc f, mm_at pg_Yd_handleIfThere pc = some f → mm_Ok ct_GW ct_NW D ct_cl (ct_tys cA) ad cA ct_K ct_kd ct_N l (mm_rm (d + 1)) "CraneTurns$Yard" prog_5_method_14_code 2 S pc f :=
  mm_at_cons (ok_aload_n (k := 1) (by decide +kernel) rfl) <|
  mm_at_cons (ok_getf (ci := 0) (k := 0) (idx := 81) rfl ct_in0 (by decide) ww_109 rfl rfl (by decide +kernel)) <|
  mm_at_cons (ok_aload_n (k := 1) (by decide +kernel) rfl) <|
  mm_at_cons (ok_getf (ci := 0) (k := 6) (idx := 134) rfl ct_in0 (by decide) ww_141 rfl rfl (by decide +kernel)) <|
  mm_at_cons (ok_icmp_ne (off := 28) (by decide +kernel) (by decide)) <|
  mm_at_cons (ok_aload_n (k := 1) (by decide +kernel) rfl) <|
  mm_at_cons (ok_aload_n (k := 1) (by decide +kernel) rfl) <|
  mm_at_cons (ok_getf (ci := 0) (k := 5) (idx := 124) rfl ct_in0 (by decide) ww_134 rfl rfl (by decide +kernel)) <|
  mm_at_cons (ok_iconst (n := 1) (by decide +kernel) (by decide)) <|
  mm_at_cons (ok_icmp_ne (off := 7) (by decide +kernel) (by decide)) <|
  mm_at_cons (ok_iconst (n := 2) (by decide +kernel) (by decide)) <|
  mm_at_cons (ok_goto (off := 4) (by decide +kernel) (by decide)) <|
  mm_at_cons (ok_iconst (n := 4) (by decide +kernel) (by decide)) <|
  mm_at_cons (ok_putf (ci := 0) (k := 5) (idx := 124) rfl ct_in0 (by decide) ww_134 rfl ct_ty0 ct_tyok0 ct_nm0 rfl (by decide +kernel) rfl (by decide +kernel)) <|
  mm_at_cons (ok_aload_n (k := 1) (by decide +kernel) rfl) <|
  mm_at_cons (ok_aload_n (k := 0) (by decide +kernel) rfl) <|
  mm_at_cons (ok_getf (ci := 3) (k := 3) (idx := 38) rfl ct_in3 (by decide) ww_89 rfl rfl (by decide +kernel)) <|
  mm_at_cons (ok_putf (ci := 0) (k := 7) (idx := 146) rfl ct_in0 (by decide) ww_147 rfl ct_ty0 ct_tyok0 ct_nm0 rfl (by decide +kernel) rfl (by decide +kernel)) <|
  mm_at_nil
theorem ro_Yd_handleIfThere : mm_RtOk prog_5_method_14_code (none) rt_Yd_handleIfThere :=
  mm_rt_cons (Or.inl ⟨rfl, rfl, by decide +kernel⟩) <|
  mm_rt_nil
set_option maxRecDepth 100000 in
set_option maxHeartbeats 4000000 in
theorem po_Yd_liftOn (hS : mm_Sound ct_GW ct_NW D ct_cl (ct_tys cA) ad cA ct_K ct_kd ct_N l ct_T (mm_rm d) S) : ∀ pc f, mm_at pg_Yd_liftOn pc = some f → mm_Ok ct_GW ct_NW D ct_cl (ct_tys cA) ad cA ct_K ct_kd ct_N l (mm_rm (d + 1)) "CraneTurns$Yard" prog_5_method_15_code 3 S pc f :=
  mm_at_cons (ok_aload_n (k := 1) (by decide +kernel) rfl) <|
  mm_at_cons (ok_dup (by decide +kernel)) <|
  mm_at_cons (ok_getf (ci := 0) (k := 7) (idx := 146) rfl ct_in0 (by decide) ww_147 rfl rfl (by decide +kernel)) <|
  mm_at_cons (ok_iconst (n := 1) (by decide +kernel) (by decide)) <|
  mm_at_cons (ok_isub (by decide +kernel)) <|
  mm_at_cons (ok_putf (ci := 0) (k := 7) (idx := 146) rfl ct_in0 (by decide) ww_147 rfl ct_ty0 ct_tyok0 ct_nm0 rfl (by decide +kernel) rfl (by decide +kernel)) <|
  mm_at_cons (ok_aload_n (k := 1) (by decide +kernel) rfl) <|
  mm_at_cons (ok_getf (ci := 0) (k := 7) (idx := 146) rfl ct_in0 (by decide) ww_147 rfl rfl (by decide +kernel)) <|
  mm_at_cons (ok_if_ne (off := 21) (by decide +kernel) (by decide)) <|
  mm_at_cons (ok_aload_n (k := 1) (by decide +kernel) rfl) <|
  mm_at_cons (ok_aload_n (k := 2) (by decide +kernel) rfl) <|
  mm_at_cons (ok_getf (ci := 1) (k := 1) (idx := 51) rfl ct_in1 (by decide) ww_95 rfl rfl (by decide +kernel)) <|
  mm_at_cons (ok_putf (ci := 0) (k := 6) (idx := 134) rfl ct_in0 (by decide) ww_141 rfl ct_ty0 ct_tyok0 ct_nm0 rfl (by decide +kernel) rfl (by decide +kernel)) <|
  mm_at_cons (ok_aload_n (k := 1) (by decide +kernel) rfl) <|
  mm_at_cons (ok_iconst (n := 3) (by decide +kernel) (by decide)) <|
  mm_at_cons (ok_putf (ci := 0) (k := 5) (idx := 124) rfl ct_in0 (by decide) ww_134 rfl ct_ty0 ct_tyok0 ct_nm0 rfl (by decide +kernel) rfl (by decide +kernel)) <|
  mm_at_cons (ok_aload_n (k := 0) (by decide +kernel) rfl) <|
  mm_at_cons (ok_aload_n (k := 1) (by decide +kernel) rfl) <|
  mm_at_cons (ok_callV (z := 27) (ci := 3) (idx := 137) rfl hS ⟨rfl, rfl⟩ (mm_rmok (by decide)) rfl ct_good ww_142 (mm_4 ww_143 ww_144 sel_27 ww_37) (by decide +kernel) (by decide +kernel)) <|
  mm_at_nil
theorem ro_Yd_liftOn : mm_RtOk prog_5_method_15_code (none) rt_Yd_liftOn :=
  mm_rt_cons (Or.inl ⟨rfl, rfl, by decide +kernel⟩) <|
  mm_rt_nil
set_option maxRecDepth 100000 in
set_option maxHeartbeats 4000000 in
theorem po_Yd_setOn (hS : mm_Sound ct_GW ct_NW D ct_cl (ct_tys cA) ad cA ct_K ct_kd ct_N l ct_T (mm_rm d) S) : ∀ pc f, mm_at pg_Yd_setOn pc = some f → mm_Ok ct_GW ct_NW D ct_cl (ct_tys cA) ad cA ct_K ct_kd ct_N l (mm_rm (d + 1)) "CraneTurns$Yard" prog_5_method_16_code 3 S pc f :=
  mm_at_cons (ok_aload_n (k := 1) (by decide +kernel) rfl) <|
  mm_at_cons (ok_dup (by decide +kernel)) <|
  mm_at_cons (ok_getf (ci := 0) (k := 7) (idx := 146) rfl ct_in0 (by decide) ww_147 rfl rfl (by decide +kernel)) <|
  mm_at_cons (ok_iconst (n := 1) (by decide +kernel) (by decide)) <|
  mm_at_cons (ok_isub (by decide +kernel)) <|
  mm_at_cons (ok_putf (ci := 0) (k := 7) (idx := 146) rfl ct_in0 (by decide) ww_147 rfl ct_ty0 ct_tyok0 ct_nm0 rfl (by decide +kernel) rfl (by decide +kernel)) <|
  mm_at_cons (ok_aload_n (k := 1) (by decide +kernel) rfl) <|
  mm_at_cons (ok_getf (ci := 0) (k := 7) (idx := 146) rfl ct_in0 (by decide) ww_147 rfl rfl (by decide +kernel)) <|
  mm_at_cons (ok_if_ne (off := 38) (by decide +kernel) (by decide)) <|
  mm_at_cons (ok_aload_n (k := 2) (by decide +kernel) rfl) <|
  mm_at_cons (ok_iconst (n := 3) (by decide +kernel) (by decide)) <|
  mm_at_cons (ok_putf (ci := 1) (k := 3) (idx := 60) rfl ct_in1 (by decide) ww_98 rfl ct_ty1 ct_tyok1 ct_nm1 rfl (by decide +kernel) rfl (by decide +kernel)) <|
  mm_at_cons (ok_aload_n (k := 2) (by decide +kernel) rfl) <|
  mm_at_cons (ok_aload_n (k := 0) (by decide +kernel) rfl) <|
  mm_at_cons (ok_getf (ci := 3) (k := 4) (idx := 98) rfl ct_in3 (by decide) ww_120 rfl rfl (by decide +kernel)) <|
  mm_at_cons (ok_iconst (n := 1) (by decide +kernel) (by decide)) <|
  mm_at_cons (ok_iadd (by decide +kernel)) <|
  mm_at_cons (ok_putf (ci := 1) (k := 5) (idx := 149) rfl ct_in1 (by decide) ww_148 rfl ct_ty1 ct_tyok1 ct_nm1 rfl (by decide +kernel) rfl (by decide +kernel)) <|
  mm_at_cons (ok_aload_n (k := 0) (by decide +kernel) rfl) <|
  mm_at_cons (ok_dup (by decide +kernel)) <|
  mm_at_cons (ok_getf (ci := 3) (k := 7) (idx := 57) rfl ct_in3 (by decide) ww_97 rfl rfl (by decide +kernel)) <|
  mm_at_cons (ok_iconst (n := 1) (by decide +kernel) (by decide)) <|
  mm_at_cons (ok_isub (by decide +kernel)) <|
  mm_at_cons (ok_putf (ci := 3) (k := 7) (idx := 57) rfl ct_in3 (by decide) ww_97 rfl ct_ty3 ct_tyok3 ct_nm3 rfl (by decide +kernel) rfl (by decide +kernel)) <|
  mm_at_cons (ok_aload_n (k := 1) (by decide +kernel) rfl) <|
  mm_at_cons (ok_iconst (n := (-1)) (by decide +kernel) (by decide)) <|
  mm_at_cons (ok_putf (ci := 0) (k := 4) (idx := 110) rfl ct_in0 (by decide) ww_124 rfl ct_ty0 ct_tyok0 ct_nm0 rfl (by decide +kernel) rfl (by decide +kernel)) <|
  mm_at_cons (ok_aload_n (k := 1) (by decide +kernel) rfl) <|
  mm_at_cons (ok_iconst (n := 0) (by decide +kernel) (by decide)) <|
  mm_at_cons (ok_putf (ci := 0) (k := 5) (idx := 124) rfl ct_in0 (by decide) ww_134 rfl ct_ty0 ct_tyok0 ct_nm0 rfl (by decide +kernel) rfl (by decide +kernel)) <|
  mm_at_nil
theorem ro_Yd_setOn : mm_RtOk prog_5_method_16_code (none) rt_Yd_setOn :=
  mm_rt_cons (Or.inl ⟨rfl, rfl, by decide +kernel⟩) <|
  mm_rt_nil
set_option maxRecDepth 100000 in
set_option maxHeartbeats 4000000 in
theorem po_Yd_placeOutOfTheWay (hS : mm_Sound ct_GW ct_NW D ct_cl (ct_tys cA) ad cA ct_K ct_kd ct_N l ct_T (mm_rm d) S) : ∀ pc f, mm_at pg_Yd_placeOutOfTheWay pc = some f → mm_Ok ct_GW ct_NW D ct_cl (ct_tys cA) ad cA ct_K ct_kd ct_N l (mm_rm (d + 1)) "CraneTurns$Yard" prog_5_method_17_code 3 S pc f :=
  mm_at_cons (ok_aload_n (k := 0) (by decide +kernel) rfl) <|
  mm_at_cons (ok_getr (ck := 10) (off := 1) (ci := 3) (k := 9) (idx := 17) rfl ct_in3 (by decide) ww_90 rfl rfl (by decide +kernel)) <|
  mm_at_cons (ok_iload_n (k := 1) (by decide +kernel) rfl) <|
  mm_at_cons (ok_aald (t9 := 2) (C := "CraneTurns$Crane") (by decide) rfl rfl (by decide +kernel)) <|
  mm_at_cons (ok_astore_n (k := 2) (by decide +kernel) rfl) <|
  mm_at_cons (ok_iload_n (k := 1) (by decide +kernel) rfl) <|
  mm_at_cons (ok_if_le (off := 64) (by decide +kernel) (by decide)) <|
  mm_at_cons (ok_aload_n (k := 0) (by decide +kernel) rfl) <|
  mm_at_cons (ok_getr (ck := 10) (off := 1) (ci := 3) (k := 9) (idx := 17) rfl ct_in3 (by decide) ww_90 rfl rfl (by decide +kernel)) <|
  mm_at_cons (ok_iload_n (k := 1) (by decide +kernel) rfl) <|
  mm_at_cons (ok_iconst (n := 1) (by decide +kernel) (by decide)) <|
  mm_at_cons (ok_isub (by decide +kernel)) <|
  mm_at_cons (ok_aald (t9 := 2) (C := "CraneTurns$Crane") (by decide) rfl rfl (by decide +kernel)) <|
  mm_at_cons (ok_callV (z := 4) (ci := 0) (idx := 152) rfl hS ⟨rfl, rfl⟩ (mm_rmok (by decide)) rfl ct_good ww_149 (mm_4 ww_151 ww_152 ww_150 ww_17) (by decide +kernel) (by decide +kernel)) <|
  mm_at_cons (ok_if_eq (off := 50) (by decide +kernel) (by decide)) <|
  mm_at_cons (ok_aload_n (k := 0) (by decide +kernel) rfl) <|
  mm_at_cons (ok_getr (ck := 10) (off := 1) (ci := 3) (k := 9) (idx := 17) rfl ct_in3 (by decide) ww_90 rfl rfl (by decide +kernel)) <|
  mm_at_cons (ok_iload_n (k := 1) (by decide +kernel) rfl) <|
  mm_at_cons (ok_iconst (n := 1) (by decide +kernel) (by decide)) <|
  mm_at_cons (ok_isub (by decide +kernel)) <|
  mm_at_cons (ok_aald (t9 := 2) (C := "CraneTurns$Crane") (by decide) rfl rfl (by decide +kernel)) <|
  mm_at_cons (ok_getf (ci := 0) (k := 6) (idx := 134) rfl ct_in0 (by decide) ww_141 rfl rfl (by decide +kernel)) <|
  mm_at_cons (ok_aload_n (k := 2) (by decide +kernel) rfl) <|
  mm_at_cons (ok_getf (ci := 0) (k := 0) (idx := 81) rfl ct_in0 (by decide) ww_109 rfl rfl (by decide +kernel)) <|
  mm_at_cons (ok_aload_n (k := 0) (by decide +kernel) rfl) <|
  mm_at_cons (ok_getf (ci := 3) (k := 1) (idx := 32) rfl ct_in3 (by decide) ww_87 rfl rfl (by decide +kernel)) <|
  mm_at_cons (ok_isub (by decide +kernel)) <|
  mm_at_cons (ok_icmp_le (off := 27) (by decide +kernel) (by decide)) <|
  mm_at_cons (ok_aload_n (k := 0) (by decide +kernel) rfl) <|
  mm_at_cons (ok_getr (ck := 10) (off := 1) (ci := 3) (k := 9) (idx := 17) rfl ct_in3 (by decide) ww_90 rfl rfl (by decide +kernel)) <|
  mm_at_cons (ok_iload_n (k := 1) (by decide +kernel) rfl) <|
  mm_at_cons (ok_iconst (n := 1) (by decide +kernel) (by decide)) <|
  mm_at_cons (ok_isub (by decide +kernel)) <|
  mm_at_cons (ok_aald (t9 := 2) (C := "CraneTurns$Crane") (by decide) rfl rfl (by decide +kernel)) <|
  mm_at_cons (ok_getf (ci := 0) (k := 6) (idx := 134) rfl ct_in0 (by decide) ww_141 rfl rfl (by decide +kernel)) <|
  mm_at_cons (ok_aload_n (k := 0) (by decide +kernel) rfl) <|
  mm_at_cons (ok_getf (ci := 3) (k := 1) (idx := 32) rfl ct_in3 (by decide) ww_87 rfl rfl (by decide +kernel)) <|
  mm_at_cons (ok_iadd (by decide +kernel)) <|
  mm_at_cons (ok_aload_n (k := 2) (by decide +kernel) rfl) <|
  mm_at_cons (ok_getf (ci := 0) (k := 2) (idx := 156) rfl ct_in0 (by decide) ww_153 rfl rfl (by decide +kernel)) <|
  mm_at_cons (ok_min (idx := 101) ww_122 ww_39 ww_40 ww_41 mm_rmR (by decide +kernel)) <|
  mm_at_cons (ok_iload_n (k := 1) (by decide +kernel) rfl) <|
  mm_at_cons (ok_iconst (n := 1) (by decide +kernel) (by decide)) <|
  mm_at_cons (ok_iadd (by decide +kernel)) <|
  mm_at_cons (ok_aload_n (k := 0) (by decide +kernel) rfl) <|
  mm_at_cons (ok_getf (ci := 3) (k := 0) (idx := 29) rfl ct_in3 (by decide) ww_86 rfl rfl (by decide +kernel)) <|
  mm_at_cons (ok_icmp_ge (off := 64) (by decide +kernel) (by decide)) <|
  mm_at_cons (ok_aload_n (k := 0) (by decide +kernel) rfl) <|
  mm_at_cons (ok_getr (ck := 10) (off := 1) (ci := 3) (k := 9) (idx := 17) rfl ct_in3 (by decide) ww_90 rfl rfl (by decide +kernel)) <|
  mm_at_cons (ok_iload_n (k := 1) (by decide +kernel) rfl) <|
  mm_at_cons (ok_iconst (n := 1) (by decide +kernel) (by decide)) <|
  mm_at_cons (ok_iadd (by decide +kernel)) <|
  mm_at_cons (ok_aald (t9 := 2) (C := "CraneTurns$Crane") (by decide) rfl rfl (by decide +kernel)) <|
  mm_at_cons (ok_callV (z := 4) (ci := 0) (idx := 152) rfl hS ⟨rfl, rfl⟩ (mm_rmok (by decide)) rfl ct_good ww_149 (mm_4 ww_151 ww_152 ww_150 ww_17) (by decide +kernel) (by decide +kernel)) <|
  mm_at_cons (ok_if_eq (off := 50) (by decide +kernel) (by decide)) <|
  mm_at_cons (ok_aload_n (k := 0) (by decide +kernel) rfl) <|
  mm_at_cons (ok_getr (ck := 10) (off := 1) (ci := 3) (k := 9) (idx := 17) rfl ct_in3 (by decide) ww_90 rfl rfl (by decide +kernel)) <|
  mm_at_cons (ok_iload_n (k := 1) (by decide +kernel) rfl) <|
  mm_at_cons (ok_iconst (n := 1) (by decide +kernel) (by decide)) <|
  mm_at_cons (ok_iadd (by decide +kernel)) <|
  mm_at_cons (ok_aald (t9 := 2) (C := "CraneTurns$Crane") (by decide) rfl rfl (by decide +kernel)) <|
  mm_at_cons (ok_getf (ci := 0) (k := 6) (idx := 134) rfl ct_in0 (by decide) ww_141 rfl rfl (by decide +kernel)) <|
  mm_at_cons (ok_aload_n (k := 2) (by decide +kernel) rfl) <|
  mm_at_cons (ok_getf (ci := 0) (k := 0) (idx := 81) rfl ct_in0 (by decide) ww_109 rfl rfl (by decide +kernel)) <|
  mm_at_cons (ok_aload_n (k := 0) (by decide +kernel) rfl) <|
  mm_at_cons (ok_getf (ci := 3) (k := 1) (idx := 32) rfl ct_in3 (by decide) ww_87 rfl rfl (by decide +kernel)) <|
  mm_at_cons (ok_iadd (by decide +kernel)) <|
  mm_at_cons (ok_icmp_ge (off := 27) (by decide +kernel) (by decide)) <|
  mm_at_cons (ok_aload_n (k := 0) (by decide +kernel) rfl) <|
  mm_at_cons (ok_getr (ck := 10) (off := 1) (ci := 3) (k := 9) (idx := 17) rfl ct_in3 (by decide) ww_90 rfl rfl (by decide +kernel)) <|
  mm_at_cons (ok_iload_n (k := 1) (by decide +kernel) rfl) <|
  mm_at_cons (ok_iconst (n := 1) (by decide +kernel) (by decide)) <|
  mm_at_cons (ok_iadd (by decide +kernel)) <|
  mm_at_cons (ok_aald (t9 := 2) (C := "CraneTurns$Crane") (by decide) rfl rfl (by decide +kernel)) <|
  mm_at_cons (ok_getf (ci := 0) (k := 6) (idx := 134) rfl ct_in0 (by decide) ww_141 rfl rfl (by decide +kernel)) <|
  mm_at_cons (ok_aload_n (k := 0) (by decide +kernel) rfl) <|
  mm_at_cons (ok_getf (ci := 3) (k := 1) (idx := 32) rfl ct_in3 (by decide) ww_87 rfl rfl (by decide +kernel)) <|
  mm_at_cons (ok_isub (by decide +kernel)) <|
  mm_at_cons (ok_aload_n (k := 2) (by decide +kernel) rfl) <|
  mm_at_cons (ok_getf (ci := 0) (k := 1) (idx := 159) rfl ct_in0 (by decide) ww_154 rfl rfl (by decide +kernel)) <|
  mm_at_cons (ok_max (idx := 162) ww_155 ww_156 ww_40 ww_157 mm_rmR (by decide +kernel)) <|
  mm_at_cons (ok_aload_n (k := 2) (by decide +kernel) rfl) <|
  mm_at_cons (ok_getf (ci := 0) (k := 0) (idx := 81) rfl ct_in0 (by decide) ww_109 rfl rfl (by decide +kernel)) <|
  mm_at_nil
theorem ro_Yd_placeOutOfTheWay : mm_RtOk prog_5_method_17_code (some .int) rt_Yd_placeOutOfTheWay :=
  mm_rt_cons (Or.inr (Or.inl ⟨rfl, rfl, by decide +kernel⟩)) <|
  mm_rt_cons (Or.inr (Or.inl ⟨rfl, rfl, by decide +kernel⟩)) <|
  mm_rt_cons (Or.inr (Or.inl ⟨rfl, rfl, by decide +kernel⟩)) <|
  mm_rt_nil
set_option maxRecDepth 100000 in
set_option maxHeartbeats 4000000 in
theorem po_Yd_moveToward (hS : mm_Sound ct_GW ct_NW D ct_cl (ct_tys cA) ad cA ct_K ct_kd ct_N l ct_T (mm_rm d) S) : ∀ pc f, mm_at pg_Yd_moveToward pc = some f → mm_Ok ct_GW ct_NW D ct_cl (ct_tys cA) ad cA ct_K ct_kd ct_N l (mm_rm (d + 1)) "CraneTurns$Yard" prog_5_method_18_code 4 S pc f :=
  mm_at_cons (ok_aload_n (k := 0) (by decide +kernel) rfl) <|
  mm_at_cons (ok_getr (ck := 10) (off := 1) (ci := 3) (k := 9) (idx := 17) rfl ct_in3 (by decide) ww_90 rfl rfl (by decide +kernel)) <|
  mm_at_cons (ok_iload_n (k := 1) (by decide +kernel) rfl) <|
  mm_at_cons (ok_aald (t9 := 2) (C := "CraneTurns$Crane") (by decide) rfl rfl (by decide +kernel)) <|
  mm_at_cons (ok_astore_n (k := 3) (by decide +kernel) rfl) <|
  mm_at_cons (ok_iload_n (k := 2) (by decide +kernel) rfl) <|
  mm_at_cons (ok_aload_n (k := 3) (by decide +kernel) rfl) <|
  mm_at_cons (ok_getf (ci := 0) (k := 0) (idx := 81) rfl ct_in0 (by decide) ww_109 rfl rfl (by decide +kernel)) <|
  mm_at_cons (ok_icmp_le (off := 31) (by decide +kernel) (by decide)) <|
  mm_at_cons (ok_aload_n (k := 3) (by decide +kernel) rfl) <|
  mm_at_cons (ok_iload_n (k := 2) (by decide +kernel) rfl) <|
  mm_at_cons (ok_aload_n (k := 3) (by decide +kernel) rfl) <|
  mm_at_cons (ok_getf (ci := 0) (k := 0) (idx := 81) rfl ct_in0 (by decide) ww_109 rfl rfl (by decide +kernel)) <|
  mm_at_cons (ok_aload_n (k := 0) (by decide +kernel) rfl) <|
  mm_at_cons (ok_getf (ci := 3) (k := 2) (idx := 35) rfl ct_in3 (by decide) ww_88 rfl rfl (by decide +kernel)) <|
  mm_at_cons (ok_iadd (by decide +kernel)) <|
  mm_at_cons (ok_min (idx := 101) ww_122 ww_39 ww_40 ww_41 mm_rmR (by decide +kernel)) <|
  mm_at_cons (ok_aload_n (k := 0) (by decide +kernel) rfl) <|
  mm_at_cons (ok_iload_n (k := 1) (by decide +kernel) rfl) <|
  mm_at_cons (ok_callV (z := 22) (ci := 3) (idx := 88) rfl hS ⟨rfl, rfl⟩ (mm_rmok (by decide)) rfl ct_good ww_113 (mm_4 ww_114 ww_115 sel_22 ww_37) (by decide +kernel) (by decide +kernel)) <|
  mm_at_cons (ok_min (idx := 101) ww_122 ww_39 ww_40 ww_41 mm_rmR (by decide +kernel)) <|
  mm_at_cons (ok_putf (ci := 0) (k := 0) (idx := 81) rfl ct_in0 (by decide) ww_109 rfl ct_ty0 ct_tyok0 ct_nm0 rfl (by decide +kernel) rfl (by decide +kernel)) <|
  mm_at_cons (ok_goto (off := 36) (by decide +kernel) (by decide)) <|
  mm_at_cons (ok_iload_n (k := 2) (by decide +kernel) rfl) <|
  mm_at_cons (ok_aload_n (k := 3) (by decide +kernel) rfl) <|
  mm_at_cons (ok_getf (ci := 0) (k := 0) (idx := 81) rfl ct_in0 (by decide) ww_109 rfl rfl (by decide +kernel)) <|
  mm_at_cons (ok_icmp_ge (off := 28) (by decide +kernel) (by decide)) <|
  mm_at_cons (ok_aload_n (k := 3) (by decide +kernel) rfl) <|
  mm_at_cons (ok_iload_n (k := 2) (by decide +kernel) rfl) <|
  mm_at_cons (ok_aload_n (k := 3) (by decide +kernel) rfl) <|
  mm_at_cons (ok_getf (ci := 0) (k := 0) (idx := 81) rfl ct_in0 (by decide) ww_109 rfl rfl (by decide +kernel)) <|
  mm_at_cons (ok_aload_n (k := 0) (by decide +kernel) rfl) <|
  mm_at_cons (ok_getf (ci := 3) (k := 2) (idx := 35) rfl ct_in3 (by decide) ww_88 rfl rfl (by decide +kernel)) <|
  mm_at_cons (ok_isub (by decide +kernel)) <|
  mm_at_cons (ok_max (idx := 162) ww_155 ww_156 ww_40 ww_157 mm_rmR (by decide +kernel)) <|
  mm_at_cons (ok_aload_n (k := 0) (by decide +kernel) rfl) <|
  mm_at_cons (ok_iload_n (k := 1) (by decide +kernel) rfl) <|
  mm_at_cons (ok_callV (z := 21) (ci := 3) (idx := 84) rfl hS ⟨rfl, rfl⟩ (mm_rmok (by decide)) rfl ct_good ww_110 (mm_4 ww_111 ww_112 sel_21 ww_37) (by decide +kernel) (by decide +kernel)) <|
  mm_at_cons (ok_max (idx := 162) ww_155 ww_156 ww_40 ww_157 mm_rmR (by decide +kernel)) <|
  mm_at_cons (ok_putf (ci := 0) (k := 0) (idx := 81) rfl ct_in0 (by decide) ww_109 rfl ct_ty0 ct_tyok0 ct_nm0 rfl (by decide +kernel) rfl (by decide +kernel)) <|
  mm_at_nil
theorem ro_Yd_moveToward : mm_RtOk prog_5_method_18_code (none) rt_Yd_moveToward :=
  mm_rt_cons (Or.inl ⟨rfl, rfl, by decide +kernel⟩) <|
  mm_rt_nil
set_option maxRecDepth 100000 in
set_option maxHeartbeats 4000000 in
theorem po_Yd_copyOf (hS : mm_Sound ct_GW ct_NW D ct_cl (ct_tys cA) ad cA ct_K ct_kd ct_N l ct_T (mm_rm d) S) : ∀ pc f, mm_at pg_Yd_copyOf pc = some f → mm_Ok ct_GW ct_NW D ct_cl (ct_tys cA) ad cA ct_K ct_kd ct_N l (mm_rm (d + 1)) "CraneTurns$Yard" prog_5_method_19_code 3 S pc f :=
  mm_at_cons (ok_aload_n (k := 0) (by decide +kernel) rfl) <|
  mm_at_cons (ok_aload_n (k := 1) (by decide +kernel) rfl) <|
  mm_at_cons (ok_getf (ci := 3) (k := 0) (idx := 29) rfl ct_in3 (by decide) ww_86 rfl rfl (by decide +kernel)) <|
  mm_at_cons (ok_putf (ci := 3) (k := 0) (idx := 29) rfl ct_in3 (by decide) ww_86 rfl ct_ty3 ct_tyok3 ct_nm3 rfl (by decide +kernel) rfl (by decide +kernel)) <|
  mm_at_cons (ok_aload_n (k := 0) (by decide +kernel) rfl) <|
  mm_at_cons (ok_aload_n (k := 1) (by decide +kernel) rfl) <|
  mm_at_cons (ok_getf (ci := 3) (k := 1) (idx := 32) rfl ct_in3 (by decide) ww_87 rfl rfl (by decide +kernel)) <|
  mm_at_cons (ok_putf (ci := 3) (k := 1) (idx := 32) rfl ct_in3 (by decide) ww_87 rfl ct_ty3 ct_tyok3 ct_nm3 rfl (by decide +kernel) rfl (by decide +kernel)) <|
  mm_at_cons (ok_aload_n (k := 0) (by decide +kernel) rfl) <|
  mm_at_cons (ok_aload_n (k := 1) (by decide +kernel) rfl) <|
  mm_at_cons (ok_getf (ci := 3) (k := 2) (idx := 35) rfl ct_in3 (by decide) ww_88 rfl rfl (by decide +kernel)) <|
  mm_at_cons (ok_putf (ci := 3) (k := 2) (idx := 35) rfl ct_in3 (by decide) ww_88 rfl ct_ty3 ct_tyok3 ct_nm3 rfl (by decide +kernel) rfl (by decide +kernel)) <|
  mm_at_cons (ok_aload_n (k := 0) (by decide +kernel) rfl) <|
  mm_at_cons (ok_aload_n (k := 1) (by decide +kernel) rfl) <|
  mm_at_cons (ok_getf (ci := 3) (k := 3) (idx := 38) rfl ct_in3 (by decide) ww_89 rfl rfl (by decide +kernel)) <|
  mm_at_cons (ok_putf (ci := 3) (k := 3) (idx := 38) rfl ct_in3 (by decide) ww_89 rfl ct_ty3 ct_tyok3 ct_nm3 rfl (by decide +kernel) rfl (by decide +kernel)) <|
  mm_at_cons (ok_aload_n (k := 0) (by decide +kernel) rfl) <|
  mm_at_cons (ok_aload_n (k := 1) (by decide +kernel) rfl) <|
  mm_at_cons (ok_getf (ci := 3) (k := 4) (idx := 98) rfl ct_in3 (by decide) ww_120 rfl rfl (by decide +kernel)) <|
  mm_at_cons (ok_putf (ci := 3) (k := 4) (idx := 98) rfl ct_in3 (by decide) ww_120 rfl ct_ty3 ct_tyok3 ct_nm3 rfl (by decide +kernel) rfl (by decide +kernel)) <|
  mm_at_cons (ok_aload_n (k := 0) (by decide +kernel) rfl) <|
  mm_at_cons (ok_aload_n (k := 1) (by decide +kernel) rfl) <|
  mm_at_cons (ok_getf (ci := 3) (k := 5) (idx := 9) rfl ct_in3 (by decide) ww_121 rfl rfl (by decide +kernel)) <|
  mm_at_cons (ok_putf (ci := 3) (k := 5) (idx := 9) rfl ct_in3 (by decide) ww_121 rfl ct_ty3 ct_tyok3 ct_nm3 rfl (by decide +kernel) rfl (by decide +kernel)) <|
  mm_at_cons (ok_aload_n (k := 0) (by decide +kernel) rfl) <|
  mm_at_cons (ok_aload_n (k := 1) (by decide +kernel) rfl) <|
  mm_at_cons (ok_getf (ci := 3) (k := 6) (idx := 45) rfl ct_in3 (by decide) ww_92 rfl rfl (by decide +kernel)) <|
  mm_at_cons (ok_putf (ci := 3) (k := 6) (idx := 45) rfl ct_in3 (by decide) ww_92 rfl ct_ty3 ct_tyok3 ct_nm3 rfl (by decide +kernel) rfl (by decide +kernel)) <|
  mm_at_cons (ok_aload_n (k := 0) (by decide +kernel) rfl) <|
  mm_at_cons (ok_aload_n (k := 1) (by decide +kernel) rfl) <|
  mm_at_cons (ok_getf (ci := 3) (k := 7) (idx := 57) rfl ct_in3 (by decide) ww_97 rfl rfl (by decide +kernel)) <|
  mm_at_cons (ok_putf (ci := 3) (k := 7) (idx := 57) rfl ct_in3 (by decide) ww_97 rfl ct_ty3 ct_tyok3 ct_nm3 rfl (by decide +kernel) rfl (by decide +kernel)) <|
  mm_at_cons (ok_aload_n (k := 0) (by decide +kernel) rfl) <|
  mm_at_cons (ok_aload_n (k := 1) (by decide +kernel) rfl) <|
  mm_at_cons (ok_getf (ci := 3) (k := 8) (idx := 70) rfl ct_in3 (by decide) ww_104 rfl rfl (by decide +kernel)) <|
  mm_at_cons (ok_putz (ci := 3) (k := 8) (idx := 70) rfl ct_in3 (by decide) ww_104 rfl ct_ty3 ct_tyok3 ct_nm3 rfl (by decide +kernel) rfl (by decide +kernel)) <|
  mm_at_cons (ok_iconst (n := 0) (by decide +kernel) (by decide)) <|
  mm_at_cons (ok_istore_n (k := 2) (by decide +kernel) rfl) <|
  mm_at_cons (ok_iload_n (k := 2) (by decide +kernel) rfl) <|
  mm_at_cons (ok_aload_n (k := 0) (by decide +kernel) rfl) <|
  mm_at_cons (ok_getf (ci := 3) (k := 0) (idx := 29) rfl ct_in3 (by decide) ww_86 rfl rfl (by decide +kernel)) <|
  mm_at_cons (ok_icmp_ge (off := 24) (by decide +kernel) (by decide)) <|
  mm_at_cons (ok_aload_n (k := 0) (by decide +kernel) rfl) <|
  mm_at_cons (ok_getr (ck := 10) (off := 1) (ci := 3) (k := 9) (idx := 17) rfl ct_in3 (by decide) ww_90 rfl rfl (by decide +kernel)) <|
  mm_at_cons (ok_iload_n (k := 2) (by decide +kernel) rfl) <|
  mm_at_cons (ok_aald (t9 := 2) (C := "CraneTurns$Crane") (by decide) rfl rfl (by decide +kernel)) <|
  mm_at_cons (ok_aload_n (k := 1) (by decide +kernel) rfl) <|
  mm_at_cons (ok_getr (ck := 10) (off := 1) (ci := 3) (k := 9) (idx := 17) rfl ct_in3 (by decide) ww_90 rfl rfl (by decide +kernel)) <|
  mm_at_cons (ok_iload_n (k := 2) (by decide +kernel) rfl) <|
  mm_at_cons (ok_aald (t9 := 2) (C := "CraneTurns$Crane") (by decide) rfl rfl (by decide +kernel)) <|
  mm_at_cons (ok_callV (z := 7) (ci := 0) (idx := 165) rfl hS ⟨rfl, rfl⟩ (mm_rmok (by decide)) rfl ct_good ww_158 (mm_4 ww_160 ww_161 ww_159 ww_17) (by decide +kernel) (by decide +kernel)) <|
  mm_at_cons (ok_iinc (n := 1) (by decide +kernel) (by decide)) <|
  mm_at_cons (ok_goto (off := (-26)) (by decide +kernel) (by decide)) <|
  mm_at_cons (ok_iconst (n := 0) (by decide +kernel) (by decide)) <|
  mm_at_cons (ok_istore_n (k := 2) (by decide +kernel) rfl) <|
  mm_at_cons (ok_iload_n (k := 2) (by decide +kernel) rfl) <|
  mm_at_cons (ok_aload_n (k := 0) (by decide +kernel) rfl) <|
  mm_at_cons (ok_getf (ci := 3) (k := 6) (idx := 45) rfl ct_in3 (by decide) ww_92 rfl rfl (by decide +kernel)) <|
  mm_at_cons (ok_icmp_ge (off := 24) (by decide +kernel) (by decide)) <|
  mm_at_cons (ok_aload_n (k := 0) (by decide +kernel) rfl) <|
  mm_at_cons (ok_getr (ck := 11) (off := 2) (ci := 3) (k := 10) (idx := 23) rfl ct_in3 (by decide) ww_93 rfl rfl (by decide +kernel)) <|
  mm_at_cons (ok_iload_n (k := 2) (by decide +kernel) rfl) <|
  mm_at_cons (ok_aald (t9 := 3) (C := "CraneTurns$Job") (by decide) rfl rfl (by decide +kernel)) <|
  mm_at_cons (ok_aload_n (k := 1) (by decide +kernel) rfl) <|
  mm_at_cons (ok_getr (ck := 11) (off := 2) (ci := 3) (k := 10) (idx := 23) rfl ct_in3 (by decide) ww_93 rfl rfl (by decide +kernel)) <|
  mm_at_cons (ok_iload_n (k := 2) (by decide +kernel) rfl) <|
  mm_at_cons (ok_aald (t9 := 3) (C := "CraneTurns$Job") (by decide) rfl rfl (by decide +kernel)) <|
  mm_at_cons (ok_callV (z := 8) (ci := 1) (idx := 168) rfl hS ⟨rfl, rfl⟩ (mm_rmok (by decide)) rfl ct_good ww_162 (mm_4 ww_164 ww_165 ww_163 ww_166) (by decide +kernel) (by decide +kernel)) <|
  mm_at_cons (ok_iinc (n := 1) (by decide +kernel) (by decide)) <|
  mm_at_cons (ok_goto (off := (-26)) (by decide +kernel) (by decide)) <|
  mm_at_nil
theorem ro_Yd_copyOf : mm_RtOk prog_5_method_19_code (none) rt_Yd_copyOf :=
  mm_rt_cons (Or.inl ⟨rfl, rfl, by decide +kernel⟩) <|
  mm_rt_nil
set_option maxRecDepth 100000 in
set_option maxHeartbeats 4000000 in
theorem po_Mo_thrown (hS : mm_Sound ct_GW ct_NW D ct_cl (ct_tys cA) ad cA ct_K ct_kd ct_N l ct_T (mm_rm d) S) : ∀ pc f, mm_at pg_Mo_thrown pc = some f → mm_Ok ct_GW ct_NW D ct_cl (ct_tys cA) ad cA ct_K ct_kd ct_N l (mm_rm (d + 1)) "CraneTurnsModel" prog_7_method_2_code 1 S pc f :=
  mm_at_cons (ok_aload_n (k := 0) (by decide +kernel) rfl) <|
  mm_at_cons (ok_getf (ci := 5) (k := 0) (idx := 28) rfl ct_in5 (by decide) ww_167 rfl rfl (by decide +kernel)) <|
  mm_at_nil
theorem ro_Mo_thrown : mm_RtOk prog_7_method_2_code (some .int) rt_Mo_thrown :=
  mm_rt_cons (Or.inr (Or.inl ⟨rfl, rfl, by decide +kernel⟩)) <|
  mm_rt_nil
set_option maxRecDepth 100000 in
set_option maxHeartbeats 4000000 in
theorem po_Mo_throwing (hS : mm_Sound ct_GW ct_NW D ct_cl (ct_tys cA) ad cA ct_K ct_kd ct_N l ct_T (mm_rm d) S) : ∀ pc f, mm_at pg_Mo_throwing pc = some f → mm_Ok ct_GW ct_NW D ct_cl (ct_tys cA) ad cA ct_K ct_kd ct_N l (mm_rm (d + 1)) "CraneTurnsModel" prog_7_method_3_code 5 S pc f :=
  mm_at_cons (ok_aload_n (k := 0) (by decide +kernel) rfl) <|
  mm_at_cons (ok_iload_n (k := 1) (by decide +kernel) rfl) <|
  mm_at_cons (ok_if_eq (off := 7) (by decide +kernel) (by decide)) <|
  mm_at_cons (ok_iconst (n := 1) (by decide +kernel) (by decide)) <|
  mm_at_cons (ok_goto (off := 29) (by decide +kernel) (by decide)) <|
  mm_at_cons (ok_iload_n (k := 2) (by decide +kernel) rfl) <|
  mm_at_cons (ok_if_eq (off := 7) (by decide +kernel) (by decide)) <|
  mm_at_cons (ok_iconst (n := 2) (by decide +kernel) (by decide)) <|
  mm_at_cons (ok_goto (off := 21) (by decide +kernel) (by decide)) <|
  mm_at_cons (ok_iload_n (k := 3) (by decide +kernel) rfl) <|
  mm_at_cons (ok_if_eq (off := 7) (by decide +kernel) (by decide)) <|
  mm_at_cons (ok_iconst (n := 3) (by decide +kernel) (by decide)) <|
  mm_at_cons (ok_goto (off := 13) (by decide +kernel) (by decide)) <|
  mm_at_cons (ok_iload (by decide +kernel)) <|
  mm_at_cons (ok_if_eq (off := 7) (by decide +kernel) (by decide)) <|
  mm_at_cons (ok_iconst (n := 4) (by decide +kernel) (by decide)) <|
  mm_at_cons (ok_goto (off := 4) (by decide +kernel) (by decide)) <|
  mm_at_cons (ok_iconst (n := 0) (by decide +kernel) (by decide)) <|
  mm_at_cons (ok_putf (ci := 5) (k := 0) (idx := 28) rfl ct_in5 (by decide) ww_167 rfl ct_ty5 ct_tyok5 ct_nm5 rfl (by decide +kernel) rfl (by decide +kernel)) <|
  mm_at_cons (ok_aload_n (k := 0) (by decide +kernel) rfl) <|
  mm_at_cons (ok_getf (ci := 5) (k := 0) (idx := 28) rfl ct_in5 (by decide) ww_167 rfl rfl (by decide +kernel)) <|
  mm_at_cons (ok_if_le (off := 7) (by decide +kernel) (by decide)) <|
  mm_at_cons (ok_iconst (n := 1) (by decide +kernel) (by decide)) <|
  mm_at_cons (ok_goto (off := 4) (by decide +kernel) (by decide)) <|
  mm_at_cons (ok_iconst (n := 0) (by decide +kernel) (by decide)) <|
  mm_at_nil
theorem ro_Mo_throwing : mm_RtOk prog_7_method_3_code (some .boolean) rt_Mo_throwing :=
  mm_rt_cons (Or.inr (Or.inr ⟨rfl, rfl, by decide +kernel⟩)) <|
  mm_rt_nil
end
