section
variable {D : va_G} {ad : Nat → Nat} {cA : Nat → ClassId} {l : Launch} {d : Nat} {S : mm_S}
set_option maxRecDepth 100000 in
set_option maxHeartbeats 4000000 in
theorem po_Pl_keepWay (hS : mm_Sound ct_GW ct_NW D ct_cl (ct_tys cA) ad cA ct_K ct_kd ct_N l ct_T (mm_rm d) S) : ∀ pc f, mm_at pg_Pl_keepWay pc = some f → mm_Ok ct_GW ct_NW D ct_cl (ct_tys cA) ad cA ct_K ct_kd ct_N l (mm_rm (d + 1)) "CraneTurns$Planner" prog_4_method_7_code 3 S pc f :=
  mm_at_cons (ok_aload_n (k := 0) (by decide +kernel) rfl) <|
  mm_at_cons (ok_iload_n (k := 1) (by decide +kernel) rfl) <|
  mm_at_cons (ok_putf (ci := 2) (k := 7) (idx := 49) rfl ct_in2 (by decide) ww_44 rfl ct_ty2 ct_tyok2 ct_nm2 rfl (by decide +kernel) rfl (by decide +kernel)) <|
  mm_at_cons (ok_aload_n (k := 0) (by decide +kernel) rfl) <|
  mm_at_cons (ok_iload_n (k := 1) (by decide +kernel) rfl) <|
  mm_at_cons (ok_iconst (n := 1) (by decide +kernel) (by decide)) <|
  mm_at_cons (ok_isub (by decide +kernel)) <|
  mm_at_cons (ok_putf (ci := 2) (k := 8) (idx := 52) rfl ct_in2 (by decide) ww_45 rfl ct_ty2 ct_tyok2 ct_nm2 rfl (by decide +kernel) rfl (by decide +kernel)) <|
  mm_at_cons (ok_aload_n (k := 0) (by decide +kernel) rfl) <|
  mm_at_cons (ok_aload_n (k := 0) (by decide +kernel) rfl) <|
  mm_at_cons (ok_getf (ci := 2) (k := 5) (idx := 42) rfl ct_in2 (by decide) ww_42 rfl rfl (by decide +kernel)) <|
  mm_at_cons (ok_putf (ci := 2) (k := 6) (idx := 46) rfl ct_in2 (by decide) ww_43 rfl ct_ty2 ct_tyok2 ct_nm2 rfl (by decide +kernel) rfl (by decide +kernel)) <|
  mm_at_cons (ok_iconst (n := 0) (by decide +kernel) (by decide)) <|
  mm_at_cons (ok_istore_n (k := 2) (by decide +kernel) rfl) <|
  mm_at_cons (ok_iload_n (k := 2) (by decide +kernel) rfl) <|
  mm_at_cons (ok_aload_n (k := 0) (by decide +kernel) rfl) <|
  mm_at_cons (ok_getf (ci := 2) (k := 5) (idx := 42) rfl ct_in2 (by decide) ww_42 rfl rfl (by decide +kernel)) <|
  mm_at_cons (ok_icmp_ge (off := 31) (by decide +kernel) (by decide)) <|
  mm_at_cons (ok_aload_n (k := 0) (by decide +kernel) rfl) <|
  mm_at_cons (ok_getr (ck := 6) (off := 4) (ci := 2) (k := 4) (idx := 29) rfl ct_in2 (by decide) ww_50 rfl rfl (by decide +kernel)) <|
  mm_at_cons (ok_iload_n (k := 2) (by decide +kernel) rfl) <|
  mm_at_cons (ok_bipush (n := 10) (by decide +kernel) (by decide)) <|
  mm_at_cons (ok_aload_n (k := 0) (by decide +kernel) rfl) <|
  mm_at_cons (ok_getr (ck := 6) (off := 2) (ci := 2) (k := 2) (idx := 22) rfl ct_in2 (by decide) ww_67 rfl rfl (by decide +kernel)) <|
  mm_at_cons (ok_iload_n (k := 2) (by decide +kernel) rfl) <|
  mm_at_cons (ok_iald (t9 := 0) (by decide) rfl rfl (by decide +kernel)) <|
  mm_at_cons (ok_imul (by decide +kernel)) <|
  mm_at_cons (ok_aload_n (k := 0) (by decide +kernel) rfl) <|
  mm_at_cons (ok_getr (ck := 6) (off := 3) (ci := 2) (k := 3) (idx := 26) rfl ct_in2 (by decide) ww_68 rfl rfl (by decide +kernel)) <|
  mm_at_cons (ok_iload_n (k := 2) (by decide +kernel) rfl) <|
  mm_at_cons (ok_iald (t9 := 0) (by decide) rfl rfl (by decide +kernel)) <|
  mm_at_cons (ok_iadd (by decide +kernel)) <|
  mm_at_cons (ok_iast (t9 := 0) (by decide) rfl rfl (by decide +kernel)) <|
  mm_at_cons (ok_iinc (n := 1) (by decide +kernel) (by decide)) <|
  mm_at_cons (ok_goto (off := (-33)) (by decide +kernel) (by decide)) <|
  mm_at_nil
theorem ro_Pl_keepWay : mm_RtOk prog_4_method_7_code (none) rt_Pl_keepWay :=
  mm_rt_cons (Or.inl ⟨rfl, rfl, by decide +kernel⟩) <|
  mm_rt_nil
set_option maxRecDepth 100000 in
set_option maxHeartbeats 4000000 in
theorem po_Yd_hasTrack (hS : mm_Sound ct_GW ct_NW D ct_cl (ct_tys cA) ad cA ct_K ct_kd ct_N l ct_T (mm_rm d) S) : ∀ pc f, mm_at pg_Yd_hasTrack pc = some f → mm_Ok ct_GW ct_NW D ct_cl (ct_tys cA) ad cA ct_K ct_kd ct_N l (mm_rm (d + 1)) "CraneTurns$Yard" prog_5_method_2_code 1 S pc f :=
  mm_at_cons (ok_aload_n (k := 0) (by decide +kernel) rfl) <|
  mm_at_cons (ok_getf (ci := 3) (k := 0) (idx := 29) rfl ct_in3 (by decide) ww_86 rfl rfl (by decide +kernel)) <|
  mm_at_cons (ok_if_le (off := 7) (by decide +kernel) (by decide)) <|
  mm_at_cons (ok_iconst (n := 1) (by decide +kernel) (by decide)) <|
  mm_at_cons (ok_goto (off := 4) (by decide +kernel) (by decide)) <|
  mm_at_cons (ok_iconst (n := 0) (by decide +kernel) (by decide)) <|
  mm_at_nil
theorem ro_Yd_hasTrack : mm_RtOk prog_5_method_2_code (some .boolean) rt_Yd_hasTrack :=
  mm_rt_cons (Or.inr (Or.inr ⟨rfl, rfl, by decide +kernel⟩)) <|
  mm_rt_nil
set_option maxRecDepth 100000 in
set_option maxHeartbeats 4000000 in
theorem po_Yd_lay (hS : mm_Sound ct_GW ct_NW D ct_cl (ct_tys cA) ad cA ct_K ct_kd ct_N l ct_T (mm_rm d) S) : ∀ pc f, mm_at pg_Yd_lay pc = some f → mm_Ok ct_GW ct_NW D ct_cl (ct_tys cA) ad cA ct_K ct_kd ct_N l (mm_rm (d + 1)) "CraneTurns$Yard" prog_5_method_3_code 6 S pc f :=
  mm_at_cons (ok_aload_n (k := 0) (by decide +kernel) rfl) <|
  mm_at_cons (ok_iload_n (k := 1) (by decide +kernel) rfl) <|
  mm_at_cons (ok_putf (ci := 3) (k := 0) (idx := 29) rfl ct_in3 (by decide) ww_86 rfl ct_ty3 ct_tyok3 ct_nm3 rfl (by decide +kernel) rfl (by decide +kernel)) <|
  mm_at_cons (ok_aload_n (k := 0) (by decide +kernel) rfl) <|
  mm_at_cons (ok_iload_n (k := 2) (by decide +kernel) rfl) <|
  mm_at_cons (ok_putf (ci := 3) (k := 1) (idx := 32) rfl ct_in3 (by decide) ww_87 rfl ct_ty3 ct_tyok3 ct_nm3 rfl (by decide +kernel) rfl (by decide +kernel)) <|
  mm_at_cons (ok_aload_n (k := 0) (by decide +kernel) rfl) <|
  mm_at_cons (ok_iload_n (k := 3) (by decide +kernel) rfl) <|
  mm_at_cons (ok_putf (ci := 3) (k := 2) (idx := 35) rfl ct_in3 (by decide) ww_88 rfl ct_ty3 ct_tyok3 ct_nm3 rfl (by decide +kernel) rfl (by decide +kernel)) <|
  mm_at_cons (ok_aload_n (k := 0) (by decide +kernel) rfl) <|
  mm_at_cons (ok_iload (by decide +kernel)) <|
  mm_at_cons (ok_putf (ci := 3) (k := 3) (idx := 38) rfl ct_in3 (by decide) ww_89 rfl ct_ty3 ct_tyok3 ct_nm3 rfl (by decide +kernel) rfl (by decide +kernel)) <|
  mm_at_cons (ok_iconst (n := 0) (by decide +kernel) (by decide)) <|
  mm_at_cons (ok_istore (by decide +kernel)) <|
  mm_at_cons (ok_iload (by decide +kernel)) <|
  mm_at_cons (ok_aload_n (k := 0) (by decide +kernel) rfl) <|
  mm_at_cons (ok_getf (ci := 3) (k := 0) (idx := 29) rfl ct_in3 (by decide) ww_86 rfl rfl (by decide +kernel)) <|
  mm_at_cons (ok_icmp_ge (off := 30) (by decide +kernel) (by decide)) <|
  mm_at_cons (ok_aload_n (k := 0) (by decide +kernel) rfl) <|
  mm_at_cons (ok_getr (ck := 10) (off := 1) (ci := 3) (k := 9) (idx := 17) rfl ct_in3 (by decide) ww_90 rfl rfl (by decide +kernel)) <|
  mm_at_cons (ok_iload (by decide +kernel)) <|
  mm_at_cons (ok_aald (t9 := 2) (C := "CraneTurns$Crane") (by decide) rfl rfl (by decide +kernel)) <|
  mm_at_cons (ok_iload (by decide +kernel)) <|
  mm_at_cons (ok_aload_n (k := 0) (by decide +kernel) rfl) <|
  mm_at_cons (ok_getf (ci := 3) (k := 1) (idx := 32) rfl ct_in3 (by decide) ww_87 rfl rfl (by decide +kernel)) <|
  mm_at_cons (ok_imul (by decide +kernel)) <|
  mm_at_cons (ok_iconst (n := 0) (by decide +kernel) (by decide)) <|
  mm_at_cons (ok_sipush (n := 200) (by decide +kernel) (by decide)) <|
  mm_at_cons (ok_callV (z := 2) (ci := 0) (idx := 41) rfl hS ⟨rfl, rfl⟩ (mm_rmok (by decide)) rfl ct_good ww_13 (mm_4 ww_91 ww_16 ww_14 ww_17) (by decide +kernel) (by decide +kernel)) <|
  mm_at_cons (ok_iinc (n := 1) (by decide +kernel) (by decide)) <|
  mm_at_cons (ok_goto (off := (-33)) (by decide +kernel) (by decide)) <|
  mm_at_nil
theorem ro_Yd_lay : mm_RtOk prog_5_method_3_code (none) rt_Yd_lay :=
  mm_rt_cons (Or.inl ⟨rfl, rfl, by decide +kernel⟩) <|
  mm_rt_nil
set_option maxRecDepth 100000 in
set_option maxHeartbeats 4000000 in
theorem po_Yd_addJob (hS : mm_Sound ct_GW ct_NW D ct_cl (ct_tys cA) ad cA ct_K ct_kd ct_N l ct_T (mm_rm d) S) : ∀ pc f, mm_at pg_Yd_addJob pc = some f → mm_Ok ct_GW ct_NW D ct_cl (ct_tys cA) ad cA ct_K ct_kd ct_N l (mm_rm (d + 1)) "CraneTurns$Yard" prog_5_method_4_code 5 S pc f :=
  mm_at_cons (ok_aload_n (k := 0) (by decide +kernel) rfl) <|
  mm_at_cons (ok_getf (ci := 3) (k := 6) (idx := 45) rfl ct_in3 (by decide) ww_92 rfl rfl (by decide +kernel)) <|
  mm_at_cons (ok_istore (by decide +kernel)) <|
  mm_at_cons (ok_aload_n (k := 0) (by decide +kernel) rfl) <|
  mm_at_cons (ok_getr (ck := 11) (off := 2) (ci := 3) (k := 10) (idx := 23) rfl ct_in3 (by decide) ww_93 rfl rfl (by decide +kernel)) <|
  mm_at_cons (ok_iload (by decide +kernel)) <|
  mm_at_cons (ok_aald (t9 := 3) (C := "CraneTurns$Job") (by decide) rfl rfl (by decide +kernel)) <|
  mm_at_cons (ok_iload_n (k := 1) (by decide +kernel) rfl) <|
  mm_at_cons (ok_putf (ci := 1) (k := 0) (idx := 48) rfl ct_in1 (by decide) ww_94 rfl ct_ty1 ct_tyok1 ct_nm1 rfl (by decide +kernel) rfl (by decide +kernel)) <|
  mm_at_cons (ok_aload_n (k := 0) (by decide +kernel) rfl) <|
  mm_at_cons (ok_getr (ck := 11) (off := 2) (ci := 3) (k := 10) (idx := 23) rfl ct_in3 (by decide) ww_93 rfl rfl (by decide +kernel)) <|
  mm_at_cons (ok_iload (by decide +kernel)) <|
  mm_at_cons (ok_aald (t9 := 3) (C := "CraneTurns$Job") (by decide) rfl rfl (by decide +kernel)) <|
  mm_at_cons (ok_iload_n (k := 2) (by decide +kernel) rfl) <|
  mm_at_cons (ok_putf (ci := 1) (k := 1) (idx := 51) rfl ct_in1 (by decide) ww_95 rfl ct_ty1 ct_tyok1 ct_nm1 rfl (by decide +kernel) rfl (by decide +kernel)) <|
  mm_at_cons (ok_aload_n (k := 0) (by decide +kernel) rfl) <|
  mm_at_cons (ok_getr (ck := 11) (off := 2) (ci := 3) (k := 10) (idx := 23) rfl ct_in3 (by decide) ww_93 rfl rfl (by decide +kernel)) <|
  mm_at_cons (ok_iload (by decide +kernel)) <|
  mm_at_cons (ok_aald (t9 := 3) (C := "CraneTurns$Job") (by decide) rfl rfl (by decide +kernel)) <|
  mm_at_cons (ok_iload_n (k := 3) (by decide +kernel) rfl) <|
  mm_at_cons (ok_putf (ci := 1) (k := 2) (idx := 54) rfl ct_in1 (by decide) ww_96 rfl ct_ty1 ct_tyok1 ct_nm1 rfl (by decide +kernel) rfl (by decide +kernel)) <|
  mm_at_cons (ok_aload_n (k := 0) (by decide +kernel) rfl) <|
  mm_at_cons (ok_dup (by decide +kernel)) <|
  mm_at_cons (ok_getf (ci := 3) (k := 6) (idx := 45) rfl ct_in3 (by decide) ww_92 rfl rfl (by decide +kernel)) <|
  mm_at_cons (ok_iconst (n := 1) (by decide +kernel) (by decide)) <|
  mm_at_cons (ok_iadd (by decide +kernel)) <|
  mm_at_cons (ok_putf (ci := 3) (k := 6) (idx := 45) rfl ct_in3 (by decide) ww_92 rfl ct_ty3 ct_tyok3 ct_nm3 rfl (by decide +kernel) rfl (by decide +kernel)) <|
  mm_at_cons (ok_aload_n (k := 0) (by decide +kernel) rfl) <|
  mm_at_cons (ok_dup (by decide +kernel)) <|
  mm_at_cons (ok_getf (ci := 3) (k := 7) (idx := 57) rfl ct_in3 (by decide) ww_97 rfl rfl (by decide +kernel)) <|
  mm_at_cons (ok_iconst (n := 1) (by decide +kernel) (by decide)) <|
  mm_at_cons (ok_iadd (by decide +kernel)) <|
  mm_at_cons (ok_putf (ci := 3) (k := 7) (idx := 57) rfl ct_in3 (by decide) ww_97 rfl ct_ty3 ct_tyok3 ct_nm3 rfl (by decide +kernel) rfl (by decide +kernel)) <|
  mm_at_cons (ok_iload (by decide +kernel)) <|
  mm_at_nil
theorem ro_Yd_addJob : mm_RtOk prog_5_method_4_code (some .int) rt_Yd_addJob :=
  mm_rt_cons (Or.inr (Or.inl ⟨rfl, rfl, by decide +kernel⟩)) <|
  mm_rt_nil
set_option maxRecDepth 100000 in
set_option maxHeartbeats 4000000 in
theorem po_Yd_hand (hS : mm_Sound ct_GW ct_NW D ct_cl (ct_tys cA) ad cA ct_K ct_kd ct_N l ct_T (mm_rm d) S) : ∀ pc f, mm_at pg_Yd_hand pc = some f → mm_Ok ct_GW ct_NW D ct_cl (ct_tys cA) ad cA ct_K ct_kd ct_N l (mm_rm (d + 1)) "CraneTurns$Yard" prog_5_method_5_code 3 S pc f :=
  mm_at_cons (ok_aload_n (k := 0) (by decide +kernel) rfl) <|
  mm_at_cons (ok_getr (ck := 11) (off := 2) (ci := 3) (k := 10) (idx := 23) rfl ct_in3 (by decide) ww_93 rfl rfl (by decide +kernel)) <|
  mm_at_cons (ok_iload_n (k := 1) (by decide +kernel) rfl) <|
  mm_at_cons (ok_aald (t9 := 3) (C := "CraneTurns$Job") (by decide) rfl rfl (by decide +kernel)) <|
  mm_at_cons (ok_iconst (n := 1) (by decide +kernel) (by decide)) <|
  mm_at_cons (ok_putf (ci := 1) (k := 3) (idx := 60) rfl ct_in1 (by decide) ww_98 rfl ct_ty1 ct_tyok1 ct_nm1 rfl (by decide +kernel) rfl (by decide +kernel)) <|
  mm_at_cons (ok_aload_n (k := 0) (by decide +kernel) rfl) <|
  mm_at_cons (ok_getr (ck := 11) (off := 2) (ci := 3) (k := 10) (idx := 23) rfl ct_in3 (by decide) ww_93 rfl rfl (by decide +kernel)) <|
  mm_at_cons (ok_iload_n (k := 1) (by decide +kernel) rfl) <|
  mm_at_cons (ok_aald (t9 := 3) (C := "CraneTurns$Job") (by decide) rfl rfl (by decide +kernel)) <|
  mm_at_cons (ok_iload_n (k := 2) (by decide +kernel) rfl) <|
  mm_at_cons (ok_putf (ci := 1) (k := 4) (idx := 63) rfl ct_in1 (by decide) ww_99 rfl ct_ty1 ct_tyok1 ct_nm1 rfl (by decide +kernel) rfl (by decide +kernel)) <|
  mm_at_cons (ok_aload_n (k := 0) (by decide +kernel) rfl) <|
  mm_at_cons (ok_getr (ck := 10) (off := 1) (ci := 3) (k := 9) (idx := 17) rfl ct_in3 (by decide) ww_90 rfl rfl (by decide +kernel)) <|
  mm_at_cons (ok_iload_n (k := 2) (by decide +kernel) rfl) <|
  mm_at_cons (ok_aald (t9 := 2) (C := "CraneTurns$Crane") (by decide) rfl rfl (by decide +kernel)) <|
  mm_at_cons (ok_iload_n (k := 1) (by decide +kernel) rfl) <|
  mm_at_cons (ok_callV (z := 5) (ci := 0) (idx := 66) rfl hS ⟨rfl, rfl⟩ (mm_rmok (by decide)) rfl ct_good ww_100 (mm_4 ww_102 ww_103 ww_101 ww_17) (by decide +kernel) (by decide +kernel)) <|
  mm_at_cons (ok_aload_n (k := 0) (by decide +kernel) rfl) <|
  mm_at_cons (ok_iconst (n := 1) (by decide +kernel) (by decide)) <|
  mm_at_cons (ok_putz (ci := 3) (k := 8) (idx := 70) rfl ct_in3 (by decide) ww_104 rfl ct_ty3 ct_tyok3 ct_nm3 rfl (by decide +kernel) rfl (by decide +kernel)) <|
  mm_at_nil
theorem ro_Yd_hand : mm_RtOk prog_5_method_5_code (none) rt_Yd_hand :=
  mm_rt_cons (Or.inl ⟨rfl, rfl, by decide +kernel⟩) <|
  mm_rt_nil
set_option maxRecDepth 100000 in
set_option maxHeartbeats 4000000 in
theorem po_Yd_free (hS : mm_Sound ct_GW ct_NW D ct_cl (ct_tys cA) ad cA ct_K ct_kd ct_N l ct_T (mm_rm d) S) : ∀ pc f, mm_at pg_Yd_free pc = some f → mm_Ok ct_GW ct_NW D ct_cl (ct_tys cA) ad cA ct_K ct_kd ct_N l (mm_rm (d + 1)) "CraneTurns$Yard" prog_5_method_6_code 3 S pc f :=
  mm_at_cons (ok_aload_n (k := 0) (by decide +kernel) rfl) <|
  mm_at_cons (ok_getr (ck := 11) (off := 2) (ci := 3) (k := 10) (idx := 23) rfl ct_in3 (by decide) ww_93 rfl rfl (by decide +kernel)) <|
  mm_at_cons (ok_iload_n (k := 1) (by decide +kernel) rfl) <|
  mm_at_cons (ok_aald (t9 := 3) (C := "CraneTurns$Job") (by decide) rfl rfl (by decide +kernel)) <|
  mm_at_cons (ok_getf (ci := 1) (k := 4) (idx := 63) rfl ct_in1 (by decide) ww_99 rfl rfl (by decide +kernel)) <|
  mm_at_cons (ok_istore_n (k := 2) (by decide +kernel) rfl) <|
  mm_at_cons (ok_iload_n (k := 2) (by decide +kernel) rfl) <|
  mm_at_cons (ok_iconst (n := 0) (by decide +kernel) (by decide)) <|
  mm_at_cons (ok_aload_n (k := 0) (by decide +kernel) rfl) <|
  mm_at_cons (ok_getf (ci := 3) (k := 0) (idx := 29) rfl ct_in3 (by decide) ww_86 rfl rfl (by decide +kernel)) <|
  mm_at_cons (ok_iconst (n := 1) (by decide +kernel) (by decide)) <|
  mm_at_cons (ok_isub (by decide +kernel)) <|
  mm_at_cons (ok_callN (z := 1) (idx := 74) (host := "CraneTurns") hS ⟨rfl, rfl⟩ (mm_rmok (by decide)) ct_good ww_6 (mm_2 ww_7 ww_8) (by decide +kernel) (by decide +kernel) (by decide +kernel)) <|
  mm_at_cons (ok_if_eq (off := 13) (by decide +kernel) (by decide)) <|
  mm_at_cons (ok_aload_n (k := 0) (by decide +kernel) rfl) <|
  mm_at_cons (ok_getr (ck := 10) (off := 1) (ci := 3) (k := 9) (idx := 17) rfl ct_in3 (by decide) ww_90 rfl rfl (by decide +kernel)) <|
  mm_at_cons (ok_iload_n (k := 2) (by decide +kernel) rfl) <|
  mm_at_cons (ok_aald (t9 := 2) (C := "CraneTurns$Crane") (by decide) rfl rfl (by decide +kernel)) <|
  mm_at_cons (ok_iload_n (k := 1) (by decide +kernel) rfl) <|
  mm_at_cons (ok_callV (z := 6) (ci := 0) (idx := 78) rfl hS ⟨rfl, rfl⟩ (mm_rmok (by decide)) rfl ct_good ww_105 (mm_4 ww_107 ww_108 ww_106 ww_17) (by decide +kernel) (by decide +kernel)) <|
  mm_at_cons (ok_aload_n (k := 0) (by decide +kernel) rfl) <|
  mm_at_cons (ok_getr (ck := 11) (off := 2) (ci := 3) (k := 10) (idx := 23) rfl ct_in3 (by decide) ww_93 rfl rfl (by decide +kernel)) <|
  mm_at_cons (ok_iload_n (k := 1) (by decide +kernel) rfl) <|
  mm_at_cons (ok_aald (t9 := 3) (C := "CraneTurns$Job") (by decide) rfl rfl (by decide +kernel)) <|
  mm_at_cons (ok_iconst (n := 0) (by decide +kernel) (by decide)) <|
  mm_at_cons (ok_putf (ci := 1) (k := 3) (idx := 60) rfl ct_in1 (by decide) ww_98 rfl ct_ty1 ct_tyok1 ct_nm1 rfl (by decide +kernel) rfl (by decide +kernel)) <|
  mm_at_cons (ok_aload_n (k := 0) (by decide +kernel) rfl) <|
  mm_at_cons (ok_getr (ck := 11) (off := 2) (ci := 3) (k := 10) (idx := 23) rfl ct_in3 (by decide) ww_93 rfl rfl (by decide +kernel)) <|
  mm_at_cons (ok_iload_n (k := 1) (by decide +kernel) rfl) <|
  mm_at_cons (ok_aald (t9 := 3) (C := "CraneTurns$Job") (by decide) rfl rfl (by decide +kernel)) <|
  mm_at_cons (ok_iconst (n := (-1)) (by decide +kernel) (by decide)) <|
  mm_at_cons (ok_putf (ci := 1) (k := 4) (idx := 63) rfl ct_in1 (by decide) ww_99 rfl ct_ty1 ct_tyok1 ct_nm1 rfl (by decide +kernel) rfl (by decide +kernel)) <|
  mm_at_nil
theorem ro_Yd_free : mm_RtOk prog_5_method_6_code (none) rt_Yd_free :=
  mm_rt_cons (Or.inl ⟨rfl, rfl, by decide +kernel⟩) <|
  mm_rt_nil
set_option maxRecDepth 100000 in
set_option maxHeartbeats 4000000 in
theorem po_Yd_countFree (hS : mm_Sound ct_GW ct_NW D ct_cl (ct_tys cA) ad cA ct_K ct_kd ct_N l ct_T (mm_rm d) S) : ∀ pc f, mm_at pg_Yd_countFree pc = some f → mm_Ok ct_GW ct_NW D ct_cl (ct_tys cA) ad cA ct_K ct_kd ct_N l (mm_rm (d + 1)) "CraneTurns$Yard" prog_5_method_7_code 3 S pc f :=
  mm_at_cons (ok_iconst (n := 0) (by decide +kernel) (by decide)) <|
  mm_at_cons (ok_istore_n (k := 1) (by decide +kernel) rfl) <|
  mm_at_cons (ok_iconst (n := 0) (by decide +kernel) (by decide)) <|
  mm_at_cons (ok_istore_n (k := 2) (by decide +kernel) rfl) <|
  mm_at_cons (ok_iload_n (k := 2) (by decide +kernel) rfl) <|
  mm_at_cons (ok_aload_n (k := 0) (by decide +kernel) rfl) <|
  mm_at_cons (ok_getf (ci := 3) (k := 6) (idx := 45) rfl ct_in3 (by decide) ww_92 rfl rfl (by decide +kernel)) <|
  mm_at_cons (ok_icmp_ge (off := 24) (by decide +kernel) (by decide)) <|
  mm_at_cons (ok_aload_n (k := 0) (by decide +kernel) rfl) <|
  mm_at_cons (ok_getr (ck := 11) (off := 2) (ci := 3) (k := 10) (idx := 23) rfl ct_in3 (by decide) ww_93 rfl rfl (by decide +kernel)) <|
  mm_at_cons (ok_iload_n (k := 2) (by decide +kernel) rfl) <|
  mm_at_cons (ok_aald (t9 := 3) (C := "CraneTurns$Job") (by decide) rfl rfl (by decide +kernel)) <|
  mm_at_cons (ok_getf (ci := 1) (k := 3) (idx := 60) rfl ct_in1 (by decide) ww_98 rfl rfl (by decide +kernel)) <|
  mm_at_cons (ok_if_ne (off := 6) (by decide +kernel) (by decide)) <|
  mm_at_cons (ok_iinc (n := 1) (by decide +kernel) (by decide)) <|
  mm_at_cons (ok_iinc (n := 1) (by decide +kernel) (by decide)) <|
  mm_at_cons (ok_goto (off := (-26)) (by decide +kernel) (by decide)) <|
  mm_at_cons (ok_iload_n (k := 1) (by decide +kernel) rfl) <|
  mm_at_nil
theorem ro_Yd_countFree : mm_RtOk prog_5_method_7_code (some .int) rt_Yd_countFree :=
  mm_rt_cons (Or.inr (Or.inl ⟨rfl, rfl, by decide +kernel⟩)) <|
  mm_rt_nil
set_option maxRecDepth 100000 in
set_option maxHeartbeats 4000000 in
theorem po_Yd_floorOf (hS : mm_Sound ct_GW ct_NW D ct_cl (ct_tys cA) ad cA ct_K ct_kd ct_N l ct_T (mm_rm d) S) : ∀ pc f, mm_at pg_Yd_floorOf pc = some f → mm_Ok ct_GW ct_NW D ct_cl (ct_tys cA) ad cA ct_K ct_kd ct_N l (mm_rm (d + 1)) "CraneTurns$Yard" prog_5_method_8_code 2 S pc f :=
  mm_at_cons (ok_iload_n (k := 1) (by decide +kernel) rfl) <|
  mm_at_cons (ok_if_le (off := 22) (by decide +kernel) (by decide)) <|
  mm_at_cons (ok_aload_n (k := 0) (by decide +kernel) rfl) <|
  mm_at_cons (ok_getr (ck := 10) (off := 1) (ci := 3) (k := 9) (idx := 17) rfl ct_in3 (by decide) ww_90 rfl rfl (by decide +kernel)) <|
  mm_at_cons (ok_iload_n (k := 1) (by decide +kernel) rfl) <|
  mm_at_cons (ok_iconst (n := 1) (by decide +kernel) (by decide)) <|
  mm_at_cons (ok_isub (by decide +kernel)) <|
  mm_at_cons (ok_aald (t9 := 2) (C := "CraneTurns$Crane") (by decide) rfl rfl (by decide +kernel)) <|
  mm_at_cons (ok_getf (ci := 0) (k := 0) (idx := 81) rfl ct_in0 (by decide) ww_109 rfl rfl (by decide +kernel)) <|
  mm_at_cons (ok_aload_n (k := 0) (by decide +kernel) rfl) <|
  mm_at_cons (ok_getf (ci := 3) (k := 1) (idx := 32) rfl ct_in3 (by decide) ww_87 rfl rfl (by decide +kernel)) <|
  mm_at_cons (ok_iadd (by decide +kernel)) <|
  mm_at_cons (ok_goto (off := 4) (by decide +kernel) (by decide)) <|
  mm_at_cons (ok_iconst (n := 0) (by decide +kernel) (by decide)) <|
  mm_at_nil
theorem ro_Yd_floorOf : mm_RtOk prog_5_method_8_code (some .int) rt_Yd_floorOf :=
  mm_rt_cons (Or.inr (Or.inl ⟨rfl, rfl, by decide +kernel⟩)) <|
  mm_rt_nil
set_option maxRecDepth 100000 in
set_option maxHeartbeats 4000000 in
theorem po_Yd_ceilingOf (hS : mm_Sound ct_GW ct_NW D ct_cl (ct_tys cA) ad cA ct_K ct_kd ct_N l ct_T (mm_rm d) S) : ∀ pc f, mm_at pg_Yd_ceilingOf pc = some f → mm_Ok ct_GW ct_NW D ct_cl (ct_tys cA) ad cA ct_K ct_kd ct_N l (mm_rm (d + 1)) "CraneTurns$Yard" prog_5_method_9_code 2 S pc f :=
  mm_at_cons (ok_iload_n (k := 1) (by decide +kernel) rfl) <|
  mm_at_cons (ok_iconst (n := 1) (by decide +kernel) (by decide)) <|
  mm_at_cons (ok_iadd (by decide +kernel)) <|
  mm_at_cons (ok_aload_n (k := 0) (by decide +kernel) rfl) <|
  mm_at_cons (ok_getf (ci := 3) (k := 0) (idx := 29) rfl ct_in3 (by decide) ww_86 rfl rfl (by decide +kernel)) <|
  mm_at_cons (ok_icmp_ge (off := 22) (by decide +kernel) (by decide)) <|
  mm_at_cons (ok_aload_n (k := 0) (by decide +kernel) rfl) <|
  mm_at_cons (ok_getr (ck := 10) (off := 1) (ci := 3) (k := 9) (idx := 17) rfl ct_in3 (by decide) ww_90 rfl rfl (by decide +kernel)) <|
  mm_at_cons (ok_iload_n (k := 1) (by decide +kernel) rfl) <|
  mm_at_cons (ok_iconst (n := 1) (by decide +kernel) (by decide)) <|
  mm_at_cons (ok_iadd (by decide +kernel)) <|
  mm_at_cons (ok_aald (t9 := 2) (C := "CraneTurns$Crane") (by decide) rfl rfl (by decide +kernel)) <|
  mm_at_cons (ok_getf (ci := 0) (k := 0) (idx := 81) rfl ct_in0 (by decide) ww_109 rfl rfl (by decide +kernel)) <|
  mm_at_cons (ok_aload_n (k := 0) (by decide +kernel) rfl) <|
  mm_at_cons (ok_getf (ci := 3) (k := 1) (idx := 32) rfl ct_in3 (by decide) ww_87 rfl rfl (by decide +kernel)) <|
  mm_at_cons (ok_isub (by decide +kernel)) <|
  mm_at_cons (ok_goto (off := 6) (by decide +kernel) (by decide)) <|
  mm_at_cons (ok_sipush (n := 200) (by decide +kernel) (by decide)) <|
  mm_at_nil
theorem ro_Yd_ceilingOf : mm_RtOk prog_5_method_9_code (some .int) rt_Yd_ceilingOf :=
  mm_rt_cons (Or.inr (Or.inl ⟨rfl, rfl, by decide +kernel⟩)) <|
  mm_rt_nil
set_option maxRecDepth 100000 in
set_option maxHeartbeats 4000000 in
theorem po_Yd_hasRoom (hS : mm_Sound ct_GW ct_NW D ct_cl (ct_tys cA) ad cA ct_K ct_kd ct_N l ct_T (mm_rm d) S) : ∀ pc f, mm_at pg_Yd_hasRoom pc = some f → mm_Ok ct_GW ct_NW D ct_cl (ct_tys cA) ad cA ct_K ct_kd ct_N l (mm_rm (d + 1)) "CraneTurns$Yard" prog_5_method_10_code 3 S pc f :=
  mm_at_cons (ok_iload_n (k := 2) (by decide +kernel) rfl) <|
  mm_at_cons (ok_aload_n (k := 0) (by decide +kernel) rfl) <|
  mm_at_cons (ok_iload_n (k := 1) (by decide +kernel) rfl) <|
  mm_at_cons (ok_callV (z := 21) (ci := 3) (idx := 84) rfl hS ⟨rfl, rfl⟩ (mm_rmok (by decide)) rfl ct_good ww_110 (mm_4 ww_111 ww_112 sel_21 ww_37) (by decide +kernel) (by decide +kernel)) <|
  mm_at_cons (ok_aload_n (k := 0) (by decide +kernel) rfl) <|
  mm_at_cons (ok_iload_n (k := 1) (by decide +kernel) rfl) <|
  mm_at_cons (ok_callV (z := 22) (ci := 3) (idx := 88) rfl hS ⟨rfl, rfl⟩ (mm_rmok (by decide)) rfl ct_good ww_113 (mm_4 ww_114 ww_115 sel_22 ww_37) (by decide +kernel) (by decide +kernel)) <|
  mm_at_cons (ok_callN (z := 1) (idx := 74) (host := "CraneTurns") hS ⟨rfl, rfl⟩ (mm_rmok (by decide)) ct_good ww_6 (mm_2 ww_7 ww_8) (by decide +kernel) (by decide +kernel) (by decide +kernel)) <|
  mm_at_nil
theorem ro_Yd_hasRoom : mm_RtOk prog_5_method_10_code (some .boolean) rt_Yd_hasRoom :=
  mm_rt_cons (Or.inr (Or.inr ⟨rfl, rfl, by decide +kernel⟩)) <|
  mm_rt_nil
set_option maxRecDepth 100000 in
set_option maxHeartbeats 4000000 in
theorem po_Yd_passSecond (hS : mm_Sound ct_GW ct_NW D ct_cl (ct_tys cA) ad cA ct_K ct_kd ct_N l ct_T (mm_rm d) S) : ∀ pc f, mm_at pg_Yd_passSecond pc = some f → mm_Ok ct_GW ct_NW D ct_cl (ct_tys cA) ad cA ct_K ct_kd ct_N l (mm_rm (d + 1)) "CraneTurns$Yard" prog_5_method_11_code 2 S pc f :=
  mm_at_cons (ok_iconst (n := 0) (by decide +kernel) (by decide)) <|
  mm_at_cons (ok_istore_n (k := 1) (by decide +kernel) rfl) <|
  mm_at_cons (ok_iload_n (k := 1) (by decide +kernel) rfl) <|
  mm_at_cons (ok_aload_n (k := 0) (by decide +kernel) rfl) <|
  mm_at_cons (ok_getf (ci := 3) (k := 0) (idx := 29) rfl ct_in3 (by decide) ww_86 rfl rfl (by decide +kernel)) <|
  mm_at_cons (ok_icmp_ge (off := 28) (by decide +kernel) (by decide)) <|
  mm_at_cons (ok_aload_n (k := 0) (by decide +kernel) rfl) <|
  mm_at_cons (ok_getr (ck := 10) (off := 1) (ci := 3) (k := 9) (idx := 17) rfl ct_in3 (by decide) ww_90 rfl rfl (by decide +kernel)) <|
  mm_at_cons (ok_iload_n (k := 1) (by decide +kernel) rfl) <|
  mm_at_cons (ok_aald (t9 := 2) (C := "CraneTurns$Crane") (by decide) rfl rfl (by decide +kernel)) <|
  mm_at_cons (ok_getr (ck := 6) (off := 1) (ci := 0) (k := 8) (idx := 91) rfl ct_in0 (by decide) ww_116 rfl rfl (by decide +kernel)) <|
  mm_at_cons (ok_aload_n (k := 0) (by decide +kernel) rfl) <|
  mm_at_cons (ok_iload_n (k := 1) (by decide +kernel) rfl) <|
  mm_at_cons (ok_callV (z := 25) (ci := 3) (idx := 95) rfl hS ⟨rfl, rfl⟩ (mm_rmok (by decide)) rfl ct_good ww_117 (mm_4 ww_118 ww_119 sel_25 ww_37) (by decide +kernel) (by decide +kernel)) <|
  mm_at_cons (ok_dup2 (by decide +kernel)) <|
  mm_at_cons (ok_iald (t9 := 0) (by decide) rfl rfl (by decide +kernel)) <|
  mm_at_cons (ok_iconst (n := 1) (by decide +kernel) (by decide)) <|
  mm_at_cons (ok_iadd (by decide +kernel)) <|
  mm_at_cons (ok_iast (t9 := 0) (by decide) rfl rfl (by decide +kernel)) <|
  mm_at_cons (ok_iinc (n := 1) (by decide +kernel) (by decide)) <|
  mm_at_cons (ok_goto (off := (-30)) (by decide +kernel) (by decide)) <|
  mm_at_cons (ok_aload_n (k := 0) (by decide +kernel) rfl) <|
  mm_at_cons (ok_dup (by decide +kernel)) <|
  mm_at_cons (ok_getf (ci := 3) (k := 4) (idx := 98) rfl ct_in3 (by decide) ww_120 rfl rfl (by decide +kernel)) <|
  mm_at_cons (ok_iconst (n := 1) (by decide +kernel) (by decide)) <|
  mm_at_cons (ok_iadd (by decide +kernel)) <|
  mm_at_cons (ok_putf (ci := 3) (k := 4) (idx := 98) rfl ct_in3 (by decide) ww_120 rfl ct_ty3 ct_tyok3 ct_nm3 rfl (by decide +kernel) rfl (by decide +kernel)) <|
  mm_at_cons (ok_iconst (n := 1) (by decide +kernel) (by decide)) <|
  mm_at_cons (ok_istore_n (k := 1) (by decide +kernel) rfl) <|
  mm_at_cons (ok_iload_n (k := 1) (by decide +kernel) rfl) <|
  mm_at_cons (ok_aload_n (k := 0) (by decide +kernel) rfl) <|
  mm_at_cons (ok_getf (ci := 3) (k := 0) (idx := 29) rfl ct_in3 (by decide) ww_86 rfl rfl (by decide +kernel)) <|
  mm_at_cons (ok_icmp_ge (off := 41) (by decide +kernel) (by decide)) <|
  mm_at_cons (ok_aload_n (k := 0) (by decide +kernel) rfl) <|
  mm_at_cons (ok_aload_n (k := 0) (by decide +kernel) rfl) <|
  mm_at_cons (ok_getf (ci := 3) (k := 5) (idx := 9) rfl ct_in3 (by decide) ww_121 rfl rfl (by decide +kernel)) <|
  mm_at_cons (ok_aload_n (k := 0) (by decide +kernel) rfl) <|
  mm_at_cons (ok_getr (ck := 10) (off := 1) (ci := 3) (k := 9) (idx := 17) rfl ct_in3 (by decide) ww_90 rfl rfl (by decide +kernel)) <|
  mm_at_cons (ok_iload_n (k := 1) (by decide +kernel) rfl) <|
  mm_at_cons (ok_aald (t9 := 2) (C := "CraneTurns$Crane") (by decide) rfl rfl (by decide +kernel)) <|
  mm_at_cons (ok_getf (ci := 0) (k := 0) (idx := 81) rfl ct_in0 (by decide) ww_109 rfl rfl (by decide +kernel)) <|
  mm_at_cons (ok_aload_n (k := 0) (by decide +kernel) rfl) <|
  mm_at_cons (ok_getr (ck := 10) (off := 1) (ci := 3) (k := 9) (idx := 17) rfl ct_in3 (by decide) ww_90 rfl rfl (by decide +kernel)) <|
  mm_at_cons (ok_iload_n (k := 1) (by decide +kernel) rfl) <|
  mm_at_cons (ok_iconst (n := 1) (by decide +kernel) (by decide)) <|
  mm_at_cons (ok_isub (by decide +kernel)) <|
  mm_at_cons (ok_aald (t9 := 2) (C := "CraneTurns$Crane") (by decide) rfl rfl (by decide +kernel)) <|
  mm_at_cons (ok_getf (ci := 0) (k := 0) (idx := 81) rfl ct_in0 (by decide) ww_109 rfl rfl (by decide +kernel)) <|
  mm_at_cons (ok_isub (by decide +kernel)) <|
  mm_at_cons (ok_min (idx := 101) ww_122 ww_39 ww_40 ww_41 mm_rmR (by decide +kernel)) <|
  mm_at_cons (ok_putf (ci := 3) (k := 5) (idx := 9) rfl ct_in3 (by decide) ww_121 rfl ct_ty3 ct_tyok3 ct_nm3 rfl (by decide +kernel) rfl (by decide +kernel)) <|
  mm_at_cons (ok_iinc (n := 1) (by decide +kernel) (by decide)) <|
  mm_at_cons (ok_goto (off := (-43)) (by decide +kernel) (by decide)) <|
  mm_at_nil
theorem ro_Yd_passSecond : mm_RtOk prog_5_method_11_code (none) rt_Yd_passSecond :=
  mm_rt_cons (Or.inl ⟨rfl, rfl, by decide +kernel⟩) <|
  mm_rt_nil
set_option maxRecDepth 100000 in
set_option maxHeartbeats 4000000 in
theorem po_Yd_passSecondOf (hS : mm_Sound ct_GW ct_NW D ct_cl (ct_tys cA) ad cA ct_K ct_kd ct_N l ct_T (mm_rm d) S) : ∀ pc f, mm_at pg_Yd_passSecondOf pc = some f → mm_Ok ct_GW ct_NW D ct_cl (ct_tys cA) ad cA ct_K ct_kd ct_N l (mm_rm (d + 1)) "CraneTurns$Yard" prog_5_method_12_code 5 S pc f :=
  mm_at_cons (ok_aload_n (k := 0) (by decide +kernel) rfl) <|
  mm_at_cons (ok_getr (ck := 10) (off := 1) (ci := 3) (k := 9) (idx := 17) rfl ct_in3 (by decide) ww_90 rfl rfl (by decide +kernel)) <|
  mm_at_cons (ok_iload_n (k := 1) (by decide +kernel) rfl) <|
  mm_at_cons (ok_aald (t9 := 2) (C := "CraneTurns$Crane") (by decide) rfl rfl (by decide +kernel)) <|
  mm_at_cons (ok_astore_n (k := 2) (by decide +kernel) rfl) <|
  mm_at_cons (ok_aload_n (k := 2) (by decide +kernel) rfl) <|
  mm_at_cons (ok_getf (ci := 0) (k := 3) (idx := 107) rfl ct_in0 (by decide) ww_123 rfl rfl (by decide +kernel)) <|
  mm_at_cons (ok_if_eq (off := 5) (by decide +kernel) (by decide)) <|
  mm_at_cons (ok_iconst (n := 3) (by decide +kernel) (by decide)) <|
  mm_at_cons (ok_aload_n (k := 2) (by decide +kernel) rfl) <|
  mm_at_cons (ok_getf (ci := 0) (k := 4) (idx := 110) rfl ct_in0 (by decide) ww_124 rfl rfl (by decide +kernel)) <|
  mm_at_cons (ok_iconst (n := (-1)) (by decide +kernel) (by decide)) <|
  mm_at_cons (ok_icmp_ne (off := 8) (by decide +kernel) (by decide)) <|
  mm_at_cons (ok_aload_n (k := 0) (by decide +kernel) rfl) <|
  mm_at_cons (ok_aload_n (k := 2) (by decide +kernel) rfl) <|
  mm_at_cons (ok_callV (z := 26) (ci := 3) (idx := 113) rfl hS ⟨rfl, rfl⟩ (mm_rmok (by decide)) rfl ct_good ww_125 (mm_4 ww_126 ww_127 sel_26 ww_37) (by decide +kernel) (by decide +kernel)) <|
  mm_at_cons (ok_aload_n (k := 2) (by decide +kernel) rfl) <|
  mm_at_cons (ok_getf (ci := 0) (k := 4) (idx := 110) rfl ct_in0 (by decide) ww_124 rfl rfl (by decide +kernel)) <|
  mm_at_cons (ok_iconst (n := 0) (by decide +kernel) (by decide)) <|
  mm_at_cons (ok_aload_n (k := 0) (by decide +kernel) rfl) <|
  mm_at_cons (ok_getf (ci := 3) (k := 6) (idx := 45) rfl ct_in3 (by decide) ww_92 rfl rfl (by decide +kernel)) <|
  mm_at_cons (ok_iconst (n := 1) (by decide +kernel) (by decide)) <|
  mm_at_cons (ok_isub (by decide +kernel)) <|
  mm_at_cons (ok_callN (z := 1) (idx := 74) (host := "CraneTurns") hS ⟨rfl, rfl⟩ (mm_rmok (by decide)) ct_good ww_6 (mm_2 ww_7 ww_8) (by decide +kernel) (by decide +kernel) (by decide +kernel)) <|
  mm_at_cons (ok_if_ne (off := 15) (by decide +kernel) (by decide)) <|
  mm_at_cons (ok_aload_n (k := 0) (by decide +kernel) rfl) <|
  mm_at_cons (ok_iload_n (k := 1) (by decide +kernel) rfl) <|
  mm_at_cons (ok_aload_n (k := 0) (by decide +kernel) rfl) <|
  mm_at_cons (ok_iload_n (k := 1) (by decide +kernel) rfl) <|
  mm_at_cons (ok_callV (z := 30) (ci := 3) (idx := 117) rfl hS ⟨rfl, rfl⟩ (mm_rmok (by decide)) rfl ct_good ww_128 (mm_4 ww_129 ww_130 sel_30 ww_37) (by decide +kernel) (by decide +kernel)) <|
  mm_at_cons (ok_callV (z := 31) (ci := 3) (idx := 120) rfl hS ⟨rfl, rfl⟩ (mm_rmok (by decide)) rfl ct_good ww_131 (mm_4 ww_132 ww_133 sel_31 ww_37) (by decide +kernel) (by decide +kernel)) <|
  mm_at_cons (ok_iconst (n := 2) (by decide +kernel) (by decide)) <|
  mm_at_cons (ok_aload_n (k := 0) (by decide +kernel) rfl) <|
  mm_at_cons (ok_getr (ck := 11) (off := 2) (ci := 3) (k := 10) (idx := 23) rfl ct_in3 (by decide) ww_93 rfl rfl (by decide +kernel)) <|
  mm_at_cons (ok_aload_n (k := 2) (by decide +kernel) rfl) <|
  mm_at_cons (ok_getf (ci := 0) (k := 4) (idx := 110) rfl ct_in0 (by decide) ww_124 rfl rfl (by decide +kernel)) <|
  mm_at_cons (ok_aald (t9 := 3) (C := "CraneTurns$Job") (by decide) rfl rfl (by decide +kernel)) <|
  mm_at_cons (ok_astore_n (k := 3) (by decide +kernel) rfl) <|
  mm_at_cons (ok_aload_n (k := 2) (by decide +kernel) rfl) <|
  mm_at_cons (ok_getf (ci := 0) (k := 5) (idx := 124) rfl ct_in0 (by decide) ww_134 rfl rfl (by decide +kernel)) <|
  mm_at_cons (ok_iconst (n := 2) (by decide +kernel) (by decide)) <|
  mm_at_cons (ok_icmp_ne (off := 11) (by decide +kernel) (by decide)) <|
  mm_at_cons (ok_aload_n (k := 0) (by decide +kernel) rfl) <|
  mm_at_cons (ok_aload_n (k := 2) (by decide +kernel) rfl) <|
  mm_at_cons (ok_aload_n (k := 3) (by decide +kernel) rfl) <|
  mm_at_cons (ok_callV (z := 28) (ci := 3) (idx := 127) rfl hS ⟨rfl, rfl⟩ (mm_rmok (by decide)) rfl ct_good ww_135 (mm_4 ww_136 ww_137 sel_28 ww_37) (by decide +kernel) (by decide +kernel)) <|
  mm_at_cons (ok_iconst (n := 0) (by decide +kernel) (by decide)) <|
  mm_at_cons (ok_aload_n (k := 2) (by decide +kernel) rfl) <|
  mm_at_cons (ok_getf (ci := 0) (k := 5) (idx := 124) rfl ct_in0 (by decide) ww_134 rfl rfl (by decide +kernel)) <|
  mm_at_cons (ok_iconst (n := 4) (by decide +kernel) (by decide)) <|
  mm_at_cons (ok_icmp_ne (off := 11) (by decide +kernel) (by decide)) <|
  mm_at_cons (ok_aload_n (k := 0) (by decide +kernel) rfl) <|
  mm_at_cons (ok_aload_n (k := 2) (by decide +kernel) rfl) <|
  mm_at_cons (ok_aload_n (k := 3) (by decide +kernel) rfl) <|
  mm_at_cons (ok_callV (z := 29) (ci := 3) (idx := 131) rfl hS ⟨rfl, rfl⟩ (mm_rmok (by decide)) rfl ct_good ww_138 (mm_4 ww_139 ww_140 sel_29 ww_37) (by decide +kernel) (by decide +kernel)) <|
  mm_at_cons (ok_iconst (n := 0) (by decide +kernel) (by decide)) <|
  mm_at_cons (ok_aload_n (k := 2) (by decide +kernel) rfl) <|
  mm_at_cons (ok_getf (ci := 0) (k := 0) (idx := 81) rfl ct_in0 (by decide) ww_109 rfl rfl (by decide +kernel)) <|
  mm_at_cons (ok_istore (by decide +kernel)) <|
  mm_at_cons (ok_aload_n (k := 0) (by decide +kernel) rfl) <|
  mm_at_cons (ok_iload_n (k := 1) (by decide +kernel) rfl) <|
  mm_at_cons (ok_aload_n (k := 2) (by decide +kernel) rfl) <|
  mm_at_cons (ok_getf (ci := 0) (k := 6) (idx := 134) rfl ct_in0 (by decide) ww_141 rfl rfl (by decide +kernel)) <|
  mm_at_cons (ok_callV (z := 31) (ci := 3) (idx := 120) rfl hS ⟨rfl, rfl⟩ (mm_rmok (by decide)) rfl ct_good ww_131 (mm_4 ww_132 ww_133 sel_31 ww_37) (by decide +kernel) (by decide +kernel)) <|
  mm_at_cons (ok_aload_n (k := 0) (by decide +kernel) rfl) <|
  mm_at_cons (ok_aload_n (k := 2) (by decide +kernel) rfl) <|
  mm_at_cons (ok_callV (z := 27) (ci := 3) (idx := 137) rfl hS ⟨rfl, rfl⟩ (mm_rmok (by decide)) rfl ct_good ww_142 (mm_4 ww_143 ww_144 sel_27 ww_37) (by decide +kernel) (by decide +kernel)) <|
  mm_at_cons (ok_aload_n (k := 2) (by decide +kernel) rfl) <|
  mm_at_cons (ok_getf (ci := 0) (k := 0) (idx := 81) rfl ct_in0 (by decide) ww_109 rfl rfl (by decide +kernel)) <|
  mm_at_cons (ok_iload (by decide +kernel)) <|
  mm_at_cons (ok_icmp_ne (off := 7) (by decide +kernel) (by decide)) <|
  mm_at_cons (ok_iconst (n := 1) (by decide +kernel) (by decide)) <|
  mm_at_cons (ok_goto (off := 4) (by decide +kernel) (by decide)) <|
  mm_at_cons (ok_iconst (n := 0) (by decide +kernel) (by decide)) <|
  mm_at_nil
theorem ro_Yd_passSecondOf : mm_RtOk prog_5_method_12_code (some .int) rt_Yd_passSecondOf :=
  mm_rt_cons (Or.inr (Or.inl ⟨rfl, rfl, by decide +kernel⟩)) <|
  mm_rt_cons (Or.inr (Or.inl ⟨rfl, rfl, by decide +kernel⟩)) <|
  mm_rt_cons (Or.inr (Or.inl ⟨rfl, rfl, by decide +kernel⟩)) <|
  mm_rt_cons (Or.inr (Or.inl ⟨rfl, rfl, by decide +kernel⟩)) <|
  mm_rt_cons (Or.inr (Or.inl ⟨rfl, rfl, by decide +kernel⟩)) <|
  mm_rt_nil
end
