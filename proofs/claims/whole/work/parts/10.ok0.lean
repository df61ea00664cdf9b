section
variable {D : va_G} {ad : Nat → Nat} {cA : Nat → ClassId} {l : Launch} {d : Nat} {S : mm_S}
set_option maxRecDepth 100000 in
set_option maxHeartbeats 4000000 in
theorem po_Ct_near (hS : mm_Sound ct_GW ct_NW D ct_cl (ct_tys cA) ad cA ct_K ct_kd ct_N l ct_T (mm_rm d) S) : ∀ pc f, mm_at pg_Ct_near pc = some f → mm_Ok ct_GW ct_NW D ct_cl (ct_tys cA) ad cA ct_K ct_kd ct_N l (mm_rm (d + 1)) "CraneTurns" prog_1_method_11_code 1 S pc f :=
  mm_at_cons (ok_aload_n (k := 0) (by decide +kernel) rfl) <|
  mm_at_cons (ok_getr (ck := 3) (off := 8) (ci := 4) (k := 0) (idx := 10) rfl ct_in4 (by decide) ww_0 rfl rfl (by decide +kernel)) <|
  mm_at_cons (ok_getf (ci := 3) (k := 5) (idx := 165) rfl ct_in3 (by decide) ww_1 rfl rfl (by decide +kernel)) <|
  mm_at_nil
theorem ro_Ct_near : mm_RtOk prog_1_method_11_code (some .int) rt_Ct_near :=
  mm_rt_cons (Or.inr (Or.inl ⟨rfl, rfl, by decide +kernel⟩)) <|
  mm_rt_nil
set_option maxRecDepth 100000 in
set_option maxHeartbeats 4000000 in
theorem po_Ct_within (hS : mm_Sound ct_GW ct_NW D ct_cl (ct_tys cA) ad cA ct_K ct_kd ct_N l ct_T (mm_rm d) S) : ∀ pc f, mm_at pg_Ct_within pc = some f → mm_Ok ct_GW ct_NW D ct_cl (ct_tys cA) ad cA ct_K ct_kd ct_N l (mm_rm (d + 1)) "CraneTurns" prog_1_method_14_code 3 S pc f :=
  mm_at_cons (ok_iload_n (k := 0) (by decide +kernel) rfl) <|
  mm_at_cons (ok_iload_n (k := 1) (by decide +kernel) rfl) <|
  mm_at_cons (ok_icmp_lt (off := 12) (by decide +kernel) (by decide)) <|
  mm_at_cons (ok_iload_n (k := 0) (by decide +kernel) rfl) <|
  mm_at_cons (ok_iload_n (k := 2) (by decide +kernel) rfl) <|
  mm_at_cons (ok_icmp_gt (off := 7) (by decide +kernel) (by decide)) <|
  mm_at_cons (ok_iconst (n := 1) (by decide +kernel) (by decide)) <|
  mm_at_cons (ok_goto (off := 4) (by decide +kernel) (by decide)) <|
  mm_at_cons (ok_iconst (n := 0) (by decide +kernel) (by decide)) <|
  mm_at_nil
theorem ro_Ct_within : mm_RtOk prog_1_method_14_code (some .boolean) rt_Ct_within :=
  mm_rt_cons (Or.inr (Or.inr ⟨rfl, rfl, by decide +kernel⟩)) <|
  mm_rt_nil
set_option maxRecDepth 100000 in
set_option maxHeartbeats 4000000 in
theorem po_Cr_stand (hS : mm_Sound ct_GW ct_NW D ct_cl (ct_tys cA) ad cA ct_K ct_kd ct_N l ct_T (mm_rm d) S) : ∀ pc f, mm_at pg_Cr_stand pc = some f → mm_Ok ct_GW ct_NW D ct_cl (ct_tys cA) ad cA ct_K ct_kd ct_N l (mm_rm (d + 1)) "CraneTurns$Crane" prog_2_method_2_code 4 S pc f :=
  mm_at_cons (ok_aload_n (k := 0) (by decide +kernel) rfl) <|
  mm_at_cons (ok_iload_n (k := 1) (by decide +kernel) rfl) <|
  mm_at_cons (ok_putf (ci := 0) (k := 0) (idx := 25) rfl ct_in0 (by decide) ww_2 rfl ct_ty0 ct_tyok0 ct_nm0 rfl (by decide +kernel) rfl (by decide +kernel)) <|
  mm_at_cons (ok_aload_n (k := 0) (by decide +kernel) rfl) <|
  mm_at_cons (ok_iload_n (k := 2) (by decide +kernel) rfl) <|
  mm_at_cons (ok_putf (ci := 0) (k := 1) (idx := 28) rfl ct_in0 (by decide) ww_3 rfl ct_ty0 ct_tyok0 ct_nm0 rfl (by decide +kernel) rfl (by decide +kernel)) <|
  mm_at_cons (ok_aload_n (k := 0) (by decide +kernel) rfl) <|
  mm_at_cons (ok_iload_n (k := 3) (by decide +kernel) rfl) <|
  mm_at_cons (ok_putf (ci := 0) (k := 2) (idx := 31) rfl ct_in0 (by decide) ww_4 rfl ct_ty0 ct_tyok0 ct_nm0 rfl (by decide +kernel) rfl (by decide +kernel)) <|
  mm_at_nil
theorem ro_Cr_stand : mm_RtOk prog_2_method_2_code (none) rt_Cr_stand :=
  mm_rt_cons (Or.inl ⟨rfl, rfl, by decide +kernel⟩) <|
  mm_rt_nil
set_option maxRecDepth 100000 in
set_option maxHeartbeats 4000000 in
theorem po_Cr_reaches (hS : mm_Sound ct_GW ct_NW D ct_cl (ct_tys cA) ad cA ct_K ct_kd ct_N l ct_T (mm_rm d) S) : ∀ pc f, mm_at pg_Cr_reaches pc = some f → mm_Ok ct_GW ct_NW D ct_cl (ct_tys cA) ad cA ct_K ct_kd ct_N l (mm_rm (d + 1)) "CraneTurns$Crane" prog_2_method_3_code 2 S pc f :=
  mm_at_cons (ok_aload_n (k := 1) (by decide +kernel) rfl) <|
  mm_at_cons (ok_getf (ci := 1) (k := 0) (idx := 34) rfl ct_in1 (by decide) ww_5 rfl rfl (by decide +kernel)) <|
  mm_at_cons (ok_aload_n (k := 0) (by decide +kernel) rfl) <|
  mm_at_cons (ok_getf (ci := 0) (k := 1) (idx := 28) rfl ct_in0 (by decide) ww_3 rfl rfl (by decide +kernel)) <|
  mm_at_cons (ok_aload_n (k := 0) (by decide +kernel) rfl) <|
  mm_at_cons (ok_getf (ci := 0) (k := 2) (idx := 31) rfl ct_in0 (by decide) ww_4 rfl rfl (by decide +kernel)) <|
  mm_at_cons (ok_callN (z := 1) (idx := 39) (host := "CraneTurns") hS ⟨rfl, rfl⟩ (mm_rmok (by decide)) ct_good ww_6 (mm_2 ww_7 ww_8) (by decide +kernel) (by decide +kernel) (by decide +kernel)) <|
  mm_at_cons (ok_if_eq (off := 25) (by decide +kernel) (by decide)) <|
  mm_at_cons (ok_aload_n (k := 1) (by decide +kernel) rfl) <|
  mm_at_cons (ok_getf (ci := 1) (k := 1) (idx := 43) rfl ct_in1 (by decide) ww_9 rfl rfl (by decide +kernel)) <|
  mm_at_cons (ok_aload_n (k := 0) (by decide +kernel) rfl) <|
  mm_at_cons (ok_getf (ci := 0) (k := 1) (idx := 28) rfl ct_in0 (by decide) ww_3 rfl rfl (by decide +kernel)) <|
  mm_at_cons (ok_aload_n (k := 0) (by decide +kernel) rfl) <|
  mm_at_cons (ok_getf (ci := 0) (k := 2) (idx := 31) rfl ct_in0 (by decide) ww_4 rfl rfl (by decide +kernel)) <|
  mm_at_cons (ok_callN (z := 1) (idx := 39) (host := "CraneTurns") hS ⟨rfl, rfl⟩ (mm_rmok (by decide)) ct_good ww_6 (mm_2 ww_7 ww_8) (by decide +kernel) (by decide +kernel) (by decide +kernel)) <|
  mm_at_cons (ok_if_eq (off := 7) (by decide +kernel) (by decide)) <|
  mm_at_cons (ok_iconst (n := 1) (by decide +kernel) (by decide)) <|
  mm_at_cons (ok_goto (off := 4) (by decide +kernel) (by decide)) <|
  mm_at_cons (ok_iconst (n := 0) (by decide +kernel) (by decide)) <|
  mm_at_nil
theorem ro_Cr_reaches : mm_RtOk prog_2_method_3_code (some .boolean) rt_Cr_reaches :=
  mm_rt_cons (Or.inr (Or.inr ⟨rfl, rfl, by decide +kernel⟩)) <|
  mm_rt_nil
set_option maxRecDepth 100000 in
set_option maxHeartbeats 4000000 in
theorem po_Cr_hasGoal (hS : mm_Sound ct_GW ct_NW D ct_cl (ct_tys cA) ad cA ct_K ct_kd ct_N l ct_T (mm_rm d) S) : ∀ pc f, mm_at pg_Cr_hasGoal pc = some f → mm_Ok ct_GW ct_NW D ct_cl (ct_tys cA) ad cA ct_K ct_kd ct_N l (mm_rm (d + 1)) "CraneTurns$Crane" prog_2_method_4_code 1 S pc f :=
  mm_at_cons (ok_aload_n (k := 0) (by decide +kernel) rfl) <|
  mm_at_cons (ok_getf (ci := 0) (k := 5) (idx := 15) rfl ct_in0 (by decide) ww_10 rfl rfl (by decide +kernel)) <|
  mm_at_cons (ok_iconst (n := 1) (by decide +kernel) (by decide)) <|
  mm_at_cons (ok_icmp_eq (off := 11) (by decide +kernel) (by decide)) <|
  mm_at_cons (ok_aload_n (k := 0) (by decide +kernel) rfl) <|
  mm_at_cons (ok_getf (ci := 0) (k := 5) (idx := 15) rfl ct_in0 (by decide) ww_10 rfl rfl (by decide +kernel)) <|
  mm_at_cons (ok_iconst (n := 3) (by decide +kernel) (by decide)) <|
  mm_at_cons (ok_icmp_ne (off := 7) (by decide +kernel) (by decide)) <|
  mm_at_cons (ok_iconst (n := 1) (by decide +kernel) (by decide)) <|
  mm_at_cons (ok_goto (off := 4) (by decide +kernel) (by decide)) <|
  mm_at_cons (ok_iconst (n := 0) (by decide +kernel) (by decide)) <|
  mm_at_nil
theorem ro_Cr_hasGoal : mm_RtOk prog_2_method_4_code (some .boolean) rt_Cr_hasGoal :=
  mm_rt_cons (Or.inr (Or.inr ⟨rfl, rfl, by decide +kernel⟩)) <|
  mm_rt_nil
set_option maxRecDepth 100000 in
set_option maxHeartbeats 4000000 in
theorem po_Cr_queue (hS : mm_Sound ct_GW ct_NW D ct_cl (ct_tys cA) ad cA ct_K ct_kd ct_N l ct_T (mm_rm d) S) : ∀ pc f, mm_at pg_Cr_queue pc = some f → mm_Ok ct_GW ct_NW D ct_cl (ct_tys cA) ad cA ct_K ct_kd ct_N l (mm_rm (d + 1)) "CraneTurns$Crane" prog_2_method_5_code 2 S pc f :=
  mm_at_cons (ok_aload_n (k := 0) (by decide +kernel) rfl) <|
  mm_at_cons (ok_getf (ci := 0) (k := 10) (idx := 46) rfl ct_in0 (by decide) ww_11 rfl rfl (by decide +kernel)) <|
  mm_at_cons (ok_bipush (n := 8) (by decide +kernel) (by decide)) <|
  mm_at_cons (ok_icmp_ge (off := 23) (by decide +kernel) (by decide)) <|
  mm_at_cons (ok_aload_n (k := 0) (by decide +kernel) rfl) <|
  mm_at_cons (ok_getr (ck := 7) (off := 2) (ci := 0) (k := 9) (idx := 22) rfl ct_in0 (by decide) ww_12 rfl rfl (by decide +kernel)) <|
  mm_at_cons (ok_aload_n (k := 0) (by decide +kernel) rfl) <|
  mm_at_cons (ok_getf (ci := 0) (k := 10) (idx := 46) rfl ct_in0 (by decide) ww_11 rfl rfl (by decide +kernel)) <|
  mm_at_cons (ok_iload_n (k := 1) (by decide +kernel) rfl) <|
  mm_at_cons (ok_iast (t9 := 0) (by decide) rfl rfl (by decide +kernel)) <|
  mm_at_cons (ok_aload_n (k := 0) (by decide +kernel) rfl) <|
  mm_at_cons (ok_dup (by decide +kernel)) <|
  mm_at_cons (ok_getf (ci := 0) (k := 10) (idx := 46) rfl ct_in0 (by decide) ww_11 rfl rfl (by decide +kernel)) <|
  mm_at_cons (ok_iconst (n := 1) (by decide +kernel) (by decide)) <|
  mm_at_cons (ok_iadd (by decide +kernel)) <|
  mm_at_cons (ok_putf (ci := 0) (k := 10) (idx := 46) rfl ct_in0 (by decide) ww_11 rfl ct_ty0 ct_tyok0 ct_nm0 rfl (by decide +kernel) rfl (by decide +kernel)) <|
  mm_at_nil
theorem ro_Cr_queue : mm_RtOk prog_2_method_5_code (none) rt_Cr_queue :=
  mm_rt_cons (Or.inl ⟨rfl, rfl, by decide +kernel⟩) <|
  mm_rt_nil
set_option maxRecDepth 100000 in
set_option maxHeartbeats 4000000 in
theorem po_Cr_unqueue (hS : mm_Sound ct_GW ct_NW D ct_cl (ct_tys cA) ad cA ct_K ct_kd ct_N l ct_T (mm_rm d) S) : ∀ pc f, mm_at pg_Cr_unqueue pc = some f → mm_Ok ct_GW ct_NW D ct_cl (ct_tys cA) ad cA ct_K ct_kd ct_N l (mm_rm (d + 1)) "CraneTurns$Crane" prog_2_method_6_code 4 S pc f :=
  mm_at_cons (ok_iconst (n := 0) (by decide +kernel) (by decide)) <|
  mm_at_cons (ok_istore_n (k := 2) (by decide +kernel) rfl) <|
  mm_at_cons (ok_iconst (n := 0) (by decide +kernel) (by decide)) <|
  mm_at_cons (ok_istore_n (k := 3) (by decide +kernel) rfl) <|
  mm_at_cons (ok_iload_n (k := 3) (by decide +kernel) rfl) <|
  mm_at_cons (ok_aload_n (k := 0) (by decide +kernel) rfl) <|
  mm_at_cons (ok_getf (ci := 0) (k := 10) (idx := 46) rfl ct_in0 (by decide) ww_11 rfl rfl (by decide +kernel)) <|
  mm_at_cons (ok_icmp_ge (off := 34) (by decide +kernel) (by decide)) <|
  mm_at_cons (ok_aload_n (k := 0) (by decide +kernel) rfl) <|
  mm_at_cons (ok_getr (ck := 7) (off := 2) (ci := 0) (k := 9) (idx := 22) rfl ct_in0 (by decide) ww_12 rfl rfl (by decide +kernel)) <|
  mm_at_cons (ok_iload_n (k := 3) (by decide +kernel) rfl) <|
  mm_at_cons (ok_iald (t9 := 0) (by decide) rfl rfl (by decide +kernel)) <|
  mm_at_cons (ok_iload_n (k := 1) (by decide +kernel) rfl) <|
  mm_at_cons (ok_icmp_eq (off := 18) (by decide +kernel) (by decide)) <|
  mm_at_cons (ok_aload_n (k := 0) (by decide +kernel) rfl) <|
  mm_at_cons (ok_getr (ck := 7) (off := 2) (ci := 0) (k := 9) (idx := 22) rfl ct_in0 (by decide) ww_12 rfl rfl (by decide +kernel)) <|
  mm_at_cons (ok_iload_n (k := 2) (by decide +kernel) rfl) <|
  mm_at_cons (ok_aload_n (k := 0) (by decide +kernel) rfl) <|
  mm_at_cons (ok_getr (ck := 7) (off := 2) (ci := 0) (k := 9) (idx := 22) rfl ct_in0 (by decide) ww_12 rfl rfl (by decide +kernel)) <|
  mm_at_cons (ok_iload_n (k := 3) (by decide +kernel) rfl) <|
  mm_at_cons (ok_iald (t9 := 0) (by decide) rfl rfl (by decide +kernel)) <|
  mm_at_cons (ok_iast (t9 := 0) (by decide) rfl rfl (by decide +kernel)) <|
  mm_at_cons (ok_iinc (n := 1) (by decide +kernel) (by decide)) <|
  mm_at_cons (ok_iinc (n := 1) (by decide +kernel) (by decide)) <|
  mm_at_cons (ok_goto (off := (-36)) (by decide +kernel) (by decide)) <|
  mm_at_cons (ok_aload_n (k := 0) (by decide +kernel) rfl) <|
  mm_at_cons (ok_iload_n (k := 2) (by decide +kernel) rfl) <|
  mm_at_cons (ok_putf (ci := 0) (k := 10) (idx := 46) rfl ct_in0 (by decide) ww_11 rfl ct_ty0 ct_tyok0 ct_nm0 rfl (by decide +kernel) rfl (by decide +kernel)) <|
  mm_at_nil
theorem ro_Cr_unqueue : mm_RtOk prog_2_method_6_code (none) rt_Cr_unqueue :=
  mm_rt_cons (Or.inl ⟨rfl, rfl, by decide +kernel⟩) <|
  mm_rt_nil
set_option maxRecDepth 100000 in
set_option maxHeartbeats 4000000 in
theorem po_Cr_copyOf (hS : mm_Sound ct_GW ct_NW D ct_cl (ct_tys cA) ad cA ct_K ct_kd ct_N l ct_T (mm_rm d) S) : ∀ pc f, mm_at pg_Cr_copyOf pc = some f → mm_Ok ct_GW ct_NW D ct_cl (ct_tys cA) ad cA ct_K ct_kd ct_N l (mm_rm (d + 1)) "CraneTurns$Crane" prog_2_method_7_code 2 S pc f :=
  mm_at_cons (ok_aload_n (k := 0) (by decide +kernel) rfl) <|
  mm_at_cons (ok_aload_n (k := 1) (by decide +kernel) rfl) <|
  mm_at_cons (ok_getf (ci := 0) (k := 0) (idx := 25) rfl ct_in0 (by decide) ww_2 rfl rfl (by decide +kernel)) <|
  mm_at_cons (ok_aload_n (k := 1) (by decide +kernel) rfl) <|
  mm_at_cons (ok_getf (ci := 0) (k := 1) (idx := 28) rfl ct_in0 (by decide) ww_3 rfl rfl (by decide +kernel)) <|
  mm_at_cons (ok_aload_n (k := 1) (by decide +kernel) rfl) <|
  mm_at_cons (ok_getf (ci := 0) (k := 2) (idx := 31) rfl ct_in0 (by decide) ww_4 rfl rfl (by decide +kernel)) <|
  mm_at_cons (ok_callV (z := 2) (ci := 0) (idx := 49) rfl hS ⟨rfl, rfl⟩ (mm_rmok (by decide)) rfl ct_good ww_13 (mm_4 ww_15 ww_16 ww_14 ww_17) (by decide +kernel) (by decide +kernel)) <|
  mm_at_cons (ok_aload_n (k := 0) (by decide +kernel) rfl) <|
  mm_at_cons (ok_aload_n (k := 1) (by decide +kernel) rfl) <|
  mm_at_cons (ok_getf (ci := 0) (k := 3) (idx := 53) rfl ct_in0 (by decide) ww_18 rfl rfl (by decide +kernel)) <|
  mm_at_cons (ok_putz (ci := 0) (k := 3) (idx := 53) rfl ct_in0 (by decide) ww_18 rfl ct_ty0 ct_tyok0 ct_nm0 rfl (by decide +kernel) rfl (by decide +kernel)) <|
  mm_at_cons (ok_aload_n (k := 0) (by decide +kernel) rfl) <|
  mm_at_cons (ok_aload_n (k := 1) (by decide +kernel) rfl) <|
  mm_at_cons (ok_getf (ci := 0) (k := 4) (idx := 9) rfl ct_in0 (by decide) ww_19 rfl rfl (by decide +kernel)) <|
  mm_at_cons (ok_putf (ci := 0) (k := 4) (idx := 9) rfl ct_in0 (by decide) ww_19 rfl ct_ty0 ct_tyok0 ct_nm0 rfl (by decide +kernel) rfl (by decide +kernel)) <|
  mm_at_cons (ok_aload_n (k := 0) (by decide +kernel) rfl) <|
  mm_at_cons (ok_aload_n (k := 1) (by decide +kernel) rfl) <|
  mm_at_cons (ok_getf (ci := 0) (k := 5) (idx := 15) rfl ct_in0 (by decide) ww_10 rfl rfl (by decide +kernel)) <|
  mm_at_cons (ok_putf (ci := 0) (k := 5) (idx := 15) rfl ct_in0 (by decide) ww_10 rfl ct_ty0 ct_tyok0 ct_nm0 rfl (by decide +kernel) rfl (by decide +kernel)) <|
  mm_at_cons (ok_aload_n (k := 0) (by decide +kernel) rfl) <|
  mm_at_cons (ok_aload_n (k := 1) (by decide +kernel) rfl) <|
  mm_at_cons (ok_getf (ci := 0) (k := 6) (idx := 57) rfl ct_in0 (by decide) ww_20 rfl rfl (by decide +kernel)) <|
  mm_at_cons (ok_putf (ci := 0) (k := 6) (idx := 57) rfl ct_in0 (by decide) ww_20 rfl ct_ty0 ct_tyok0 ct_nm0 rfl (by decide +kernel) rfl (by decide +kernel)) <|
  mm_at_cons (ok_aload_n (k := 0) (by decide +kernel) rfl) <|
  mm_at_cons (ok_aload_n (k := 1) (by decide +kernel) rfl) <|
  mm_at_cons (ok_getf (ci := 0) (k := 7) (idx := 60) rfl ct_in0 (by decide) ww_21 rfl rfl (by decide +kernel)) <|
  mm_at_cons (ok_putf (ci := 0) (k := 7) (idx := 60) rfl ct_in0 (by decide) ww_21 rfl ct_ty0 ct_tyok0 ct_nm0 rfl (by decide +kernel) rfl (by decide +kernel)) <|
  mm_at_cons (ok_aload_n (k := 0) (by decide +kernel) rfl) <|
  mm_at_cons (ok_aload_n (k := 1) (by decide +kernel) rfl) <|
  mm_at_cons (ok_getf (ci := 0) (k := 10) (idx := 46) rfl ct_in0 (by decide) ww_11 rfl rfl (by decide +kernel)) <|
  mm_at_cons (ok_putf (ci := 0) (k := 10) (idx := 46) rfl ct_in0 (by decide) ww_11 rfl ct_ty0 ct_tyok0 ct_nm0 rfl (by decide +kernel) rfl (by decide +kernel)) <|
  mm_at_cons (ok_aload_n (k := 1) (by decide +kernel) rfl) <|
  mm_at_cons (ok_getr (ck := 6) (off := 1) (ci := 0) (k := 8) (idx := 18) rfl ct_in0 (by decide) ww_22 rfl rfl (by decide +kernel)) <|
  mm_at_cons (ok_iconst (n := 0) (by decide +kernel) (by decide)) <|
  mm_at_cons (ok_aload_n (k := 0) (by decide +kernel) rfl) <|
  mm_at_cons (ok_getr (ck := 6) (off := 1) (ci := 0) (k := 8) (idx := 18) rfl ct_in0 (by decide) ww_22 rfl rfl (by decide +kernel)) <|
  mm_at_cons (ok_iconst (n := 0) (by decide +kernel) (by decide)) <|
  mm_at_cons (ok_iconst (n := 4) (by decide +kernel) (by decide)) <|
  mm_at_cons (ok_copy (idx := 63) (t9 := 0) (by decide) rfl rfl ww_23 ww_24 ww_25 ww_26 mm_rmR (by decide +kernel)) <|
  mm_at_cons (ok_aload_n (k := 1) (by decide +kernel) rfl) <|
  mm_at_cons (ok_getr (ck := 7) (off := 2) (ci := 0) (k := 9) (idx := 22) rfl ct_in0 (by decide) ww_12 rfl rfl (by decide +kernel)) <|
  mm_at_cons (ok_iconst (n := 0) (by decide +kernel) (by decide)) <|
  mm_at_cons (ok_aload_n (k := 0) (by decide +kernel) rfl) <|
  mm_at_cons (ok_getr (ck := 7) (off := 2) (ci := 0) (k := 9) (idx := 22) rfl ct_in0 (by decide) ww_12 rfl rfl (by decide +kernel)) <|
  mm_at_cons (ok_iconst (n := 0) (by decide +kernel) (by decide)) <|
  mm_at_cons (ok_bipush (n := 8) (by decide +kernel) (by decide)) <|
  mm_at_cons (ok_copy (idx := 63) (t9 := 0) (by decide) rfl rfl ww_23 ww_24 ww_25 ww_26 mm_rmR (by decide +kernel)) <|
  mm_at_nil
theorem ro_Cr_copyOf : mm_RtOk prog_2_method_7_code (none) rt_Cr_copyOf :=
  mm_rt_cons (Or.inl ⟨rfl, rfl, by decide +kernel⟩) <|
  mm_rt_nil
set_option maxRecDepth 100000 in
set_option maxHeartbeats 4000000 in
theorem po_Jb_copyOf (hS : mm_Sound ct_GW ct_NW D ct_cl (ct_tys cA) ad cA ct_K ct_kd ct_N l ct_T (mm_rm d) S) : ∀ pc f, mm_at pg_Jb_copyOf pc = some f → mm_Ok ct_GW ct_NW D ct_cl (ct_tys cA) ad cA ct_K ct_kd ct_N l (mm_rm (d + 1)) "CraneTurns$Job" prog_3_method_2_code 2 S pc f :=
  mm_at_cons (ok_aload_n (k := 0) (by decide +kernel) rfl) <|
  mm_at_cons (ok_aload_n (k := 1) (by decide +kernel) rfl) <|
  mm_at_cons (ok_getf (ci := 1) (k := 0) (idx := 21) rfl ct_in1 (by decide) ww_27 rfl rfl (by decide +kernel)) <|
  mm_at_cons (ok_putf (ci := 1) (k := 0) (idx := 21) rfl ct_in1 (by decide) ww_27 rfl ct_ty1 ct_tyok1 ct_nm1 rfl (by decide +kernel) rfl (by decide +kernel)) <|
  mm_at_cons (ok_aload_n (k := 0) (by decide +kernel) rfl) <|
  mm_at_cons (ok_aload_n (k := 1) (by decide +kernel) rfl) <|
  mm_at_cons (ok_getf (ci := 1) (k := 1) (idx := 24) rfl ct_in1 (by decide) ww_28 rfl rfl (by decide +kernel)) <|
  mm_at_cons (ok_putf (ci := 1) (k := 1) (idx := 24) rfl ct_in1 (by decide) ww_28 rfl ct_ty1 ct_tyok1 ct_nm1 rfl (by decide +kernel) rfl (by decide +kernel)) <|
  mm_at_cons (ok_aload_n (k := 0) (by decide +kernel) rfl) <|
  mm_at_cons (ok_aload_n (k := 1) (by decide +kernel) rfl) <|
  mm_at_cons (ok_getf (ci := 1) (k := 2) (idx := 27) rfl ct_in1 (by decide) ww_29 rfl rfl (by decide +kernel)) <|
  mm_at_cons (ok_putf (ci := 1) (k := 2) (idx := 27) rfl ct_in1 (by decide) ww_29 rfl ct_ty1 ct_tyok1 ct_nm1 rfl (by decide +kernel) rfl (by decide +kernel)) <|
  mm_at_cons (ok_aload_n (k := 0) (by decide +kernel) rfl) <|
  mm_at_cons (ok_aload_n (k := 1) (by decide +kernel) rfl) <|
  mm_at_cons (ok_getf (ci := 1) (k := 3) (idx := 9) rfl ct_in1 (by decide) ww_30 rfl rfl (by decide +kernel)) <|
  mm_at_cons (ok_putf (ci := 1) (k := 3) (idx := 9) rfl ct_in1 (by decide) ww_30 rfl ct_ty1 ct_tyok1 ct_nm1 rfl (by decide +kernel) rfl (by decide +kernel)) <|
  mm_at_cons (ok_aload_n (k := 0) (by decide +kernel) rfl) <|
  mm_at_cons (ok_aload_n (k := 1) (by decide +kernel) rfl) <|
  mm_at_cons (ok_getf (ci := 1) (k := 4) (idx := 15) rfl ct_in1 (by decide) ww_31 rfl rfl (by decide +kernel)) <|
  mm_at_cons (ok_putf (ci := 1) (k := 4) (idx := 15) rfl ct_in1 (by decide) ww_31 rfl ct_ty1 ct_tyok1 ct_nm1 rfl (by decide +kernel) rfl (by decide +kernel)) <|
  mm_at_cons (ok_aload_n (k := 0) (by decide +kernel) rfl) <|
  mm_at_cons (ok_aload_n (k := 1) (by decide +kernel) rfl) <|
  mm_at_cons (ok_getf (ci := 1) (k := 5) (idx := 18) rfl ct_in1 (by decide) ww_32 rfl rfl (by decide +kernel)) <|
  mm_at_cons (ok_putf (ci := 1) (k := 5) (idx := 18) rfl ct_in1 (by decide) ww_32 rfl ct_ty1 ct_tyok1 ct_nm1 rfl (by decide +kernel) rfl (by decide +kernel)) <|
  mm_at_nil
theorem ro_Jb_copyOf : mm_RtOk prog_3_method_2_code (none) rt_Jb_copyOf :=
  mm_rt_cons (Or.inl ⟨rfl, rfl, by decide +kernel⟩) <|
  mm_rt_nil
set_option maxRecDepth 100000 in
set_option maxHeartbeats 4000000 in
theorem po_Pl_search (hS : mm_Sound ct_GW ct_NW D ct_cl (ct_tys cA) ad cA ct_K ct_kd ct_N l ct_T (mm_rm d) S) : ∀ pc f, mm_at pg_Pl_search pc = some f → mm_Ok ct_GW ct_NW D ct_cl (ct_tys cA) ad cA ct_K ct_kd ct_N l (mm_rm (d + 1)) "CraneTurns$Planner" prog_4_method_2_code 3 S pc f :=
  mm_at_cons (ok_aload_n (k := 0) (by decide +kernel) rfl) <|
  mm_at_cons (ok_aload_n (k := 1) (by decide +kernel) rfl) <|
  mm_at_cons (ok_callV (z := 20) (ci := 3) (idx := 32) rfl hS ⟨rfl, rfl⟩ (mm_rmok (by decide)) rfl ct_good ww_33 (mm_4 ww_35 ww_36 ww_34 ww_37) (by decide +kernel) (by decide +kernel)) <|
  mm_at_cons (ok_iconst (n := 4) (by decide +kernel) (by decide)) <|
  mm_at_cons (ok_min (idx := 36) ww_38 ww_39 ww_40 ww_41 mm_rmR (by decide +kernel)) <|
  mm_at_cons (ok_putf (ci := 2) (k := 5) (idx := 42) rfl ct_in2 (by decide) ww_42 rfl ct_ty2 ct_tyok2 ct_nm2 rfl (by decide +kernel) rfl (by decide +kernel)) <|
  mm_at_cons (ok_aload_n (k := 0) (by decide +kernel) rfl) <|
  mm_at_cons (ok_iconst (n := 0) (by decide +kernel) (by decide)) <|
  mm_at_cons (ok_putf (ci := 2) (k := 6) (idx := 46) rfl ct_in2 (by decide) ww_43 rfl ct_ty2 ct_tyok2 ct_nm2 rfl (by decide +kernel) rfl (by decide +kernel)) <|
  mm_at_cons (ok_aload_n (k := 0) (by decide +kernel) rfl) <|
  mm_at_cons (ok_iconst (n := (-1)) (by decide +kernel) (by decide)) <|
  mm_at_cons (ok_putf (ci := 2) (k := 7) (idx := 49) rfl ct_in2 (by decide) ww_44 rfl ct_ty2 ct_tyok2 ct_nm2 rfl (by decide +kernel) rfl (by decide +kernel)) <|
  mm_at_cons (ok_aload_n (k := 0) (by decide +kernel) rfl) <|
  mm_at_cons (ok_iload_n (k := 2) (by decide +kernel) rfl) <|
  mm_at_cons (ok_putf (ci := 2) (k := 8) (idx := 52) rfl ct_in2 (by decide) ww_45 rfl ct_ty2 ct_tyok2 ct_nm2 rfl (by decide +kernel) rfl (by decide +kernel)) <|
  mm_at_cons (ok_aload_n (k := 0) (by decide +kernel) rfl) <|
  mm_at_cons (ok_aload_n (k := 1) (by decide +kernel) rfl) <|
  mm_at_cons (ok_iconst (n := 0) (by decide +kernel) (by decide)) <|
  mm_at_cons (ok_callV (z := 11) (ci := 2) (idx := 55) rfl hS ⟨rfl, rfl⟩ (mm_rmok (by decide)) rfl ct_good ww_46 (mm_4 ww_47 ww_48 sel_11 ww_49) (by decide +kernel) (by decide +kernel)) <|
  mm_at_cons (ok_aload_n (k := 0) (by decide +kernel) rfl) <|
  mm_at_cons (ok_getf (ci := 2) (k := 7) (idx := 49) rfl ct_in2 (by decide) ww_44 rfl rfl (by decide +kernel)) <|
  mm_at_nil
theorem ro_Pl_search : mm_RtOk prog_4_method_2_code (some .int) rt_Pl_search :=
  mm_rt_cons (Or.inr (Or.inl ⟨rfl, rfl, by decide +kernel⟩)) <|
  mm_rt_nil
set_option maxRecDepth 100000 in
set_option maxHeartbeats 4000000 in
theorem po_Pl_bestGiving (hS : mm_Sound ct_GW ct_NW D ct_cl (ct_tys cA) ad cA ct_K ct_kd ct_N l ct_T (mm_rm d) S) : ∀ pc f, mm_at pg_Pl_bestGiving pc = some f → mm_Ok ct_GW ct_NW D ct_cl (ct_tys cA) ad cA ct_K ct_kd ct_N l (mm_rm (d + 1)) "CraneTurns$Planner" prog_4_method_3_code 2 S pc f :=
  mm_at_cons (ok_iload_n (k := 1) (by decide +kernel) rfl) <|
  mm_at_cons (ok_iconst (n := 0) (by decide +kernel) (by decide)) <|
  mm_at_cons (ok_aload_n (k := 0) (by decide +kernel) rfl) <|
  mm_at_cons (ok_getf (ci := 2) (k := 6) (idx := 46) rfl ct_in2 (by decide) ww_43 rfl rfl (by decide +kernel)) <|
  mm_at_cons (ok_iconst (n := 1) (by decide +kernel) (by decide)) <|
  mm_at_cons (ok_isub (by decide +kernel)) <|
  mm_at_cons (ok_callN (z := 1) (idx := 59) (host := "CraneTurns") hS ⟨rfl, rfl⟩ (mm_rmok (by decide)) ct_good ww_6 (mm_2 ww_7 ww_8) (by decide +kernel) (by decide +kernel) (by decide +kernel)) <|
  mm_at_cons (ok_if_eq (off := 12) (by decide +kernel) (by decide)) <|
  mm_at_cons (ok_aload_n (k := 0) (by decide +kernel) rfl) <|
  mm_at_cons (ok_getr (ck := 6) (off := 4) (ci := 2) (k := 4) (idx := 29) rfl ct_in2 (by decide) ww_50 rfl rfl (by decide +kernel)) <|
  mm_at_cons (ok_iload_n (k := 1) (by decide +kernel) rfl) <|
  mm_at_cons (ok_iald (t9 := 0) (by decide) rfl rfl (by decide +kernel)) <|
  mm_at_cons (ok_goto (off := 4) (by decide +kernel) (by decide)) <|
  mm_at_cons (ok_iconst (n := (-1)) (by decide +kernel) (by decide)) <|
  mm_at_nil
theorem ro_Pl_bestGiving : mm_RtOk prog_4_method_3_code (some .int) rt_Pl_bestGiving :=
  mm_rt_cons (Or.inr (Or.inl ⟨rfl, rfl, by decide +kernel⟩)) <|
  mm_rt_nil
set_option maxRecDepth 100000 in
set_option maxHeartbeats 4000000 in
theorem po_Pl_extendWay (hS : mm_Sound ct_GW ct_NW D ct_cl (ct_tys cA) ad cA ct_K ct_kd ct_N l ct_T (mm_rm d) S) : ∀ pc f, mm_at pg_Pl_extendWay pc = some f → mm_Ok ct_GW ct_NW D ct_cl (ct_tys cA) ad cA ct_K ct_kd ct_N l (mm_rm (d + 1)) "CraneTurns$Planner" prog_4_method_4_code 5 S pc f :=
  mm_at_cons (ok_iload_n (k := 2) (by decide +kernel) rfl) <|
  mm_at_cons (ok_aload_n (k := 0) (by decide +kernel) rfl) <|
  mm_at_cons (ok_getf (ci := 2) (k := 5) (idx := 42) rfl ct_in2 (by decide) ww_42 rfl rfl (by decide +kernel)) <|
  mm_at_cons (ok_icmp_lt (off := 9) (by decide +kernel) (by decide)) <|
  mm_at_cons (ok_aload_n (k := 0) (by decide +kernel) rfl) <|
  mm_at_cons (ok_aload_n (k := 1) (by decide +kernel) rfl) <|
  mm_at_cons (ok_callV (z := 13) (ci := 2) (idx := 63) rfl hS ⟨rfl, rfl⟩ (mm_rmok (by decide)) rfl ct_good ww_51 (mm_4 ww_52 ww_53 sel_13 ww_49) (by decide +kernel) (by decide +kernel)) <|
  mm_at_cons (ok_iconst (n := 0) (by decide +kernel) (by decide)) <|
  mm_at_cons (ok_istore_n (k := 3) (by decide +kernel) rfl) <|
  mm_at_cons (ok_iload_n (k := 3) (by decide +kernel) rfl) <|
  mm_at_cons (ok_aload_n (k := 1) (by decide +kernel) rfl) <|
  mm_at_cons (ok_getf (ci := 3) (k := 6) (idx := 67) rfl ct_in3 (by decide) ww_54 rfl rfl (by decide +kernel)) <|
  mm_at_cons (ok_icmp_ge (off := 118) (by decide +kernel) (by decide)) <|
  mm_at_cons (ok_aload_n (k := 1) (by decide +kernel) rfl) <|
  mm_at_cons (ok_getr (ck := 11) (off := 2) (ci := 3) (k := 10) (idx := 70) rfl ct_in3 (by decide) ww_55 rfl rfl (by decide +kernel)) <|
  mm_at_cons (ok_iload_n (k := 3) (by decide +kernel) rfl) <|
  mm_at_cons (ok_aald (t9 := 3) (C := "CraneTurns$Job") (by decide) rfl rfl (by decide +kernel)) <|
  mm_at_cons (ok_getf (ci := 1) (k := 3) (idx := 74) rfl ct_in1 (by decide) ww_56 rfl rfl (by decide +kernel)) <|
  mm_at_cons (ok_if_ne (off := 100) (by decide +kernel) (by decide)) <|
  mm_at_cons (ok_aload_n (k := 0) (by decide +kernel) rfl) <|
  mm_at_cons (ok_getr (ck := 8) (off := 1) (ci := 2) (k := 1) (idx := 18) rfl ct_in2 (by decide) ww_57 rfl rfl (by decide +kernel)) <|
  mm_at_cons (ok_iload_n (k := 3) (by decide +kernel) rfl) <|
  mm_at_cons (ok_zald (t9 := 1) (by decide) rfl rfl (by decide +kernel)) <|
  mm_at_cons (ok_if_eq (off := 6) (by decide +kernel) (by decide)) <|
  mm_at_cons (ok_goto (off := 88) (by decide +kernel) (by decide)) <|
  mm_at_cons (ok_aload_n (k := 0) (by decide +kernel) rfl) <|
  mm_at_cons (ok_getr (ck := 8) (off := 1) (ci := 2) (k := 1) (idx := 18) rfl ct_in2 (by decide) ww_57 rfl rfl (by decide +kernel)) <|
  mm_at_cons (ok_iload_n (k := 3) (by decide +kernel) rfl) <|
  mm_at_cons (ok_iconst (n := 1) (by decide +kernel) (by decide)) <|
  mm_at_cons (ok_zast (t9 := 1) (by decide) rfl rfl (by decide +kernel)) <|
  mm_at_cons (ok_iconst (n := 0) (by decide +kernel) (by decide)) <|
  mm_at_cons (ok_istore (by decide +kernel)) <|
  mm_at_cons (ok_iload (by decide +kernel)) <|
  mm_at_cons (ok_aload_n (k := 1) (by decide +kernel) rfl) <|
  mm_at_cons (ok_getf (ci := 3) (k := 0) (idx := 79) rfl ct_in3 (by decide) ww_58 rfl rfl (by decide +kernel)) <|
  mm_at_cons (ok_icmp_ge (off := 62) (by decide +kernel) (by decide)) <|
  mm_at_cons (ok_aload_n (k := 1) (by decide +kernel) rfl) <|
  mm_at_cons (ok_getr (ck := 10) (off := 1) (ci := 3) (k := 9) (idx := 82) rfl ct_in3 (by decide) ww_59 rfl rfl (by decide +kernel)) <|
  mm_at_cons (ok_iload (by decide +kernel)) <|
  mm_at_cons (ok_aald (t9 := 2) (C := "CraneTurns$Crane") (by decide) rfl rfl (by decide +kernel)) <|
  mm_at_cons (ok_aload_n (k := 1) (by decide +kernel) rfl) <|
  mm_at_cons (ok_getr (ck := 11) (off := 2) (ci := 3) (k := 10) (idx := 70) rfl ct_in3 (by decide) ww_55 rfl rfl (by decide +kernel)) <|
  mm_at_cons (ok_iload_n (k := 3) (by decide +kernel) rfl) <|
  mm_at_cons (ok_aald (t9 := 3) (C := "CraneTurns$Job") (by decide) rfl rfl (by decide +kernel)) <|
  mm_at_cons (ok_callV (z := 3) (ci := 0) (idx := 86) rfl hS ⟨rfl, rfl⟩ (mm_rmok (by decide)) rfl ct_good ww_60 (mm_4 ww_62 ww_63 ww_61 ww_17) (by decide +kernel) (by decide +kernel)) <|
  mm_at_cons (ok_if_eq (off := 37) (by decide +kernel) (by decide)) <|
  mm_at_cons (ok_aload_n (k := 0) (by decide +kernel) rfl) <|
  mm_at_cons (ok_iload_n (k := 2) (by decide +kernel) rfl) <|
  mm_at_cons (ok_iload_n (k := 3) (by decide +kernel) rfl) <|
  mm_at_cons (ok_iload (by decide +kernel)) <|
  mm_at_cons (ok_callV (z := 12) (ci := 2) (idx := 92) rfl hS ⟨rfl, rfl⟩ (mm_rmok (by decide)) rfl ct_good ww_64 (mm_4 ww_65 ww_66 sel_12 ww_49) (by decide +kernel) (by decide +kernel)) <|
  mm_at_cons (ok_if_ne (off := 26) (by decide +kernel) (by decide)) <|
  mm_at_cons (ok_aload_n (k := 0) (by decide +kernel) rfl) <|
  mm_at_cons (ok_getr (ck := 6) (off := 2) (ci := 2) (k := 2) (idx := 22) rfl ct_in2 (by decide) ww_67 rfl rfl (by decide +kernel)) <|
  mm_at_cons (ok_iload_n (k := 2) (by decide +kernel) rfl) <|
  mm_at_cons (ok_iload_n (k := 3) (by decide +kernel) rfl) <|
  mm_at_cons (ok_iast (t9 := 0) (by decide) rfl rfl (by decide +kernel)) <|
  mm_at_cons (ok_aload_n (k := 0) (by decide +kernel) rfl) <|
  mm_at_cons (ok_getr (ck := 6) (off := 3) (ci := 2) (k := 3) (idx := 26) rfl ct_in2 (by decide) ww_68 rfl rfl (by decide +kernel)) <|
  mm_at_cons (ok_iload_n (k := 2) (by decide +kernel) rfl) <|
  mm_at_cons (ok_iload (by decide +kernel)) <|
  mm_at_cons (ok_iast (t9 := 0) (by decide) rfl rfl (by decide +kernel)) <|
  mm_at_cons (ok_aload_n (k := 0) (by decide +kernel) rfl) <|
  mm_at_cons (ok_aload_n (k := 1) (by decide +kernel) rfl) <|
  mm_at_cons (ok_iload_n (k := 2) (by decide +kernel) rfl) <|
  mm_at_cons (ok_iconst (n := 1) (by decide +kernel) (by decide)) <|
  mm_at_cons (ok_iadd (by decide +kernel)) <|
  mm_at_cons (ok_callV (z := 11) (ci := 2) (idx := 55) rfl hS ⟨rfl, rfl⟩ (mm_rmok (by decide)) rfl ct_good ww_46 (mm_4 ww_47 ww_48 sel_11 ww_49) (by decide +kernel) (by decide +kernel)) <|
  mm_at_cons (ok_iinc (n := 1) (by decide +kernel) (by decide)) <|
  mm_at_cons (ok_goto (off := (-65)) (by decide +kernel) (by decide)) <|
  mm_at_cons (ok_aload_n (k := 0) (by decide +kernel) rfl) <|
  mm_at_cons (ok_getr (ck := 8) (off := 1) (ci := 2) (k := 1) (idx := 18) rfl ct_in2 (by decide) ww_57 rfl rfl (by decide +kernel)) <|
  mm_at_cons (ok_iload_n (k := 3) (by decide +kernel) rfl) <|
  mm_at_cons (ok_iconst (n := 0) (by decide +kernel) (by decide)) <|
  mm_at_cons (ok_zast (t9 := 1) (by decide) rfl rfl (by decide +kernel)) <|
  mm_at_cons (ok_iinc (n := 1) (by decide +kernel) (by decide)) <|
  mm_at_cons (ok_goto (off := (-120)) (by decide +kernel) (by decide)) <|
  mm_at_nil
theorem ro_Pl_extendWay : mm_RtOk prog_4_method_4_code (none) rt_Pl_extendWay :=
  mm_rt_cons (Or.inl ⟨rfl, rfl, by decide +kernel⟩) <|
  mm_rt_cons (Or.inl ⟨rfl, rfl, by decide +kernel⟩) <|
  mm_rt_nil
set_option maxRecDepth 100000 in
set_option maxHeartbeats 4000000 in
theorem po_Pl_isTriedAlready (hS : mm_Sound ct_GW ct_NW D ct_cl (ct_tys cA) ad cA ct_K ct_kd ct_N l ct_T (mm_rm d) S) : ∀ pc f, mm_at pg_Pl_isTriedAlready pc = some f → mm_Ok ct_GW ct_NW D ct_cl (ct_tys cA) ad cA ct_K ct_kd ct_N l (mm_rm (d + 1)) "CraneTurns$Planner" prog_4_method_5_code 4 S pc f :=
  mm_at_cons (ok_iload_n (k := 1) (by decide +kernel) rfl) <|
  mm_at_cons (ok_if_le (off := 31) (by decide +kernel) (by decide)) <|
  mm_at_cons (ok_aload_n (k := 0) (by decide +kernel) rfl) <|
  mm_at_cons (ok_getr (ck := 6) (off := 3) (ci := 2) (k := 3) (idx := 26) rfl ct_in2 (by decide) ww_68 rfl rfl (by decide +kernel)) <|
  mm_at_cons (ok_iload_n (k := 1) (by decide +kernel) rfl) <|
  mm_at_cons (ok_iconst (n := 1) (by decide +kernel) (by decide)) <|
  mm_at_cons (ok_isub (by decide +kernel)) <|
  mm_at_cons (ok_iald (t9 := 0) (by decide) rfl rfl (by decide +kernel)) <|
  mm_at_cons (ok_iload_n (k := 3) (by decide +kernel) rfl) <|
  mm_at_cons (ok_icmp_eq (off := 19) (by decide +kernel) (by decide)) <|
  mm_at_cons (ok_aload_n (k := 0) (by decide +kernel) rfl) <|
  mm_at_cons (ok_getr (ck := 6) (off := 2) (ci := 2) (k := 2) (idx := 22) rfl ct_in2 (by decide) ww_67 rfl rfl (by decide +kernel)) <|
  mm_at_cons (ok_iload_n (k := 1) (by decide +kernel) rfl) <|
  mm_at_cons (ok_iconst (n := 1) (by decide +kernel) (by decide)) <|
  mm_at_cons (ok_isub (by decide +kernel)) <|
  mm_at_cons (ok_iald (t9 := 0) (by decide) rfl rfl (by decide +kernel)) <|
  mm_at_cons (ok_iload_n (k := 2) (by decide +kernel) rfl) <|
  mm_at_cons (ok_icmp_le (off := 7) (by decide +kernel) (by decide)) <|
  mm_at_cons (ok_iconst (n := 1) (by decide +kernel) (by decide)) <|
  mm_at_cons (ok_goto (off := 4) (by decide +kernel) (by decide)) <|
  mm_at_cons (ok_iconst (n := 0) (by decide +kernel) (by decide)) <|
  mm_at_nil
theorem ro_Pl_isTriedAlready : mm_RtOk prog_4_method_5_code (some .boolean) rt_Pl_isTriedAlready :=
  mm_rt_cons (Or.inr (Or.inr ⟨rfl, rfl, by decide +kernel⟩)) <|
  mm_rt_nil
set_option maxRecDepth 100000 in
set_option maxHeartbeats 4000000 in
theorem po_Pl_tryWay (hS : mm_Sound ct_GW ct_NW D ct_cl (ct_tys cA) ad cA ct_K ct_kd ct_N l ct_T (mm_rm d) S) : ∀ pc f, mm_at pg_Pl_tryWay pc = some f → mm_Ok ct_GW ct_NW D ct_cl (ct_tys cA) ad cA ct_K ct_kd ct_N l (mm_rm (d + 1)) "CraneTurns$Planner" prog_4_method_6_code 3 S pc f :=
  mm_at_cons (ok_aload_n (k := 0) (by decide +kernel) rfl) <|
  mm_at_cons (ok_getr (ck := 3) (off := 15) (ci := 2) (k := 0) (idx := 12) rfl ct_in2 (by decide) ww_69 rfl rfl (by decide +kernel)) <|
  mm_at_cons (ok_aload_n (k := 1) (by decide +kernel) rfl) <|
  mm_at_cons (ok_callV (z := 32) (ci := 3) (idx := 95) rfl hS ⟨rfl, rfl⟩ (mm_rmok (by decide)) rfl ct_good ww_70 (mm_4 ww_72 ww_73 ww_71 ww_37) (by decide +kernel) (by decide +kernel)) <|
  mm_at_cons (ok_iconst (n := 0) (by decide +kernel) (by decide)) <|
  mm_at_cons (ok_istore_n (k := 2) (by decide +kernel) rfl) <|
  mm_at_cons (ok_iload_n (k := 2) (by decide +kernel) rfl) <|
  mm_at_cons (ok_aload_n (k := 0) (by decide +kernel) rfl) <|
  mm_at_cons (ok_getf (ci := 2) (k := 5) (idx := 42) rfl ct_in2 (by decide) ww_42 rfl rfl (by decide +kernel)) <|
  mm_at_cons (ok_icmp_ge (off := 28) (by decide +kernel) (by decide)) <|
  mm_at_cons (ok_aload_n (k := 0) (by decide +kernel) rfl) <|
  mm_at_cons (ok_getr (ck := 3) (off := 15) (ci := 2) (k := 0) (idx := 12) rfl ct_in2 (by decide) ww_69 rfl rfl (by decide +kernel)) <|
  mm_at_cons (ok_aload_n (k := 0) (by decide +kernel) rfl) <|
  mm_at_cons (ok_getr (ck := 6) (off := 2) (ci := 2) (k := 2) (idx := 22) rfl ct_in2 (by decide) ww_67 rfl rfl (by decide +kernel)) <|
  mm_at_cons (ok_iload_n (k := 2) (by decide +kernel) rfl) <|
  mm_at_cons (ok_iald (t9 := 0) (by decide) rfl rfl (by decide +kernel)) <|
  mm_at_cons (ok_aload_n (k := 0) (by decide +kernel) rfl) <|
  mm_at_cons (ok_getr (ck := 6) (off := 3) (ci := 2) (k := 3) (idx := 26) rfl ct_in2 (by decide) ww_68 rfl rfl (by decide +kernel)) <|
  mm_at_cons (ok_iload_n (k := 2) (by decide +kernel) rfl) <|
  mm_at_cons (ok_iald (t9 := 0) (by decide) rfl rfl (by decide +kernel)) <|
  mm_at_cons (ok_callV (z := 18) (ci := 3) (idx := 98) rfl hS ⟨rfl, rfl⟩ (mm_rmok (by decide)) rfl ct_good ww_74 (mm_4 ww_76 ww_77 ww_75 ww_37) (by decide +kernel) (by decide +kernel)) <|
  mm_at_cons (ok_iinc (n := 1) (by decide +kernel) (by decide)) <|
  mm_at_cons (ok_goto (off := (-30)) (by decide +kernel) (by decide)) <|
  mm_at_cons (ok_iconst (n := 0) (by decide +kernel) (by decide)) <|
  mm_at_cons (ok_istore_n (k := 2) (by decide +kernel) rfl) <|
  mm_at_cons (ok_aload_n (k := 0) (by decide +kernel) rfl) <|
  mm_at_cons (ok_getr (ck := 3) (off := 15) (ci := 2) (k := 0) (idx := 12) rfl ct_in2 (by decide) ww_69 rfl rfl (by decide +kernel)) <|
  mm_at_cons (ok_getf (ci := 3) (k := 7) (idx := 102) rfl ct_in3 (by decide) ww_78 rfl rfl (by decide +kernel)) <|
  mm_at_cons (ok_if_le (off := 24) (by decide +kernel) (by decide)) <|
  mm_at_cons (ok_iload_n (k := 2) (by decide +kernel) rfl) <|
  mm_at_cons (ok_aload_n (k := 0) (by decide +kernel) rfl) <|
  mm_at_cons (ok_getf (ci := 2) (k := 8) (idx := 52) rfl ct_in2 (by decide) ww_45 rfl rfl (by decide +kernel)) <|
  mm_at_cons (ok_icmp_ge (off := 16) (by decide +kernel) (by decide)) <|
  mm_at_cons (ok_aload_n (k := 0) (by decide +kernel) rfl) <|
  mm_at_cons (ok_getr (ck := 3) (off := 15) (ci := 2) (k := 0) (idx := 12) rfl ct_in2 (by decide) ww_69 rfl rfl (by decide +kernel)) <|
  mm_at_cons (ok_callV (z := 24) (ci := 3) (idx := 105) rfl hS ⟨rfl, rfl⟩ (mm_rmok (by decide)) rfl ct_good ww_79 (mm_4 ww_81 ww_82 ww_80 ww_37) (by decide +kernel) (by decide +kernel)) <|
  mm_at_cons (ok_iinc (n := 1) (by decide +kernel) (by decide)) <|
  mm_at_cons (ok_goto (off := (-28)) (by decide +kernel) (by decide)) <|
  mm_at_cons (ok_aload_n (k := 0) (by decide +kernel) rfl) <|
  mm_at_cons (ok_getr (ck := 3) (off := 15) (ci := 2) (k := 0) (idx := 12) rfl ct_in2 (by decide) ww_69 rfl rfl (by decide +kernel)) <|
  mm_at_cons (ok_getf (ci := 3) (k := 7) (idx := 102) rfl ct_in3 (by decide) ww_78 rfl rfl (by decide +kernel)) <|
  mm_at_cons (ok_if_ne (off := 16) (by decide +kernel) (by decide)) <|
  mm_at_cons (ok_iload_n (k := 2) (by decide +kernel) rfl) <|
  mm_at_cons (ok_aload_n (k := 0) (by decide +kernel) rfl) <|
  mm_at_cons (ok_getf (ci := 2) (k := 8) (idx := 52) rfl ct_in2 (by decide) ww_45 rfl rfl (by decide +kernel)) <|
  mm_at_cons (ok_icmp_gt (off := 8) (by decide +kernel) (by decide)) <|
  mm_at_cons (ok_aload_n (k := 0) (by decide +kernel) rfl) <|
  mm_at_cons (ok_iload_n (k := 2) (by decide +kernel) rfl) <|
  mm_at_cons (ok_callV (z := 14) (ci := 2) (idx := 108) rfl hS ⟨rfl, rfl⟩ (mm_rmok (by decide)) rfl ct_good ww_83 (mm_4 ww_84 ww_85 sel_14 ww_49) (by decide +kernel) (by decide +kernel)) <|
  mm_at_nil
theorem ro_Pl_tryWay : mm_RtOk prog_4_method_6_code (none) rt_Pl_tryWay :=
  mm_rt_cons (Or.inl ⟨rfl, rfl, by decide +kernel⟩) <|
  mm_rt_nil
end
