section
variable {D : va_G} {ad : Nat → Nat} {cA : Nat → ClassId} {l : Launch} {d : Nat} {S : mm_S}
set_option maxRecDepth 100000 in
set_option maxHeartbeats 4000000 in
theorem po_Mo_in (hS : mm_Sound ct_GW ct_NW D ct_cl (ct_tys cA) ad cA ct_K ct_kd ct_N l ct_T (mm_rm d) S) : ∀ pc f, mm_at pg_Mo_in pc = some f → mm_Ok ct_GW ct_NW D ct_cl (ct_tys cA) ad cA ct_K ct_kd ct_N l (mm_rm (d + 1)) "CraneTurnsModel" prog_7_method_4_code 3 S pc f :=
  mm_at_cons (ok_iload_n (k := 0) (by decide +kernel) rfl) <|
  mm_at_cons (ok_iload_n (k := 1) (by decide +kernel) rfl) <|
  mm_at_cons (ok_icmp_lt (off := 12) (by decide +kernel) (by decide)) <|
  mm_at_cons (ok_iload_n (k := 0) (by decide +kernel) rfl) <|
  mm_at_cons (ok_iload_n (k := 2) (by decide +kernel) rfl) <|
  mm_at_cons (ok_icmp_gt (off := 7) (by decide +kernel) (by decide)) <|
  mm_at_cons (ok_iconst (n := 1) (by decide +kernel) (by decide)) <|
  mm_at_cons (ok_goto (off := 4) (by decide +kernel) (by decide)) <|
  mm_at_cons (ok_iconst (n := 0) (by decide +kernel) (by decide)) <|
  mm_at_nil
theorem ro_Mo_in : mm_RtOk prog_7_method_4_code (some .boolean) rt_Mo_in :=
  mm_rt_cons (Or.inr (Or.inr ⟨rfl, rfl, by decide +kernel⟩)) <|
  mm_rt_nil
set_option maxRecDepth 100000 in
set_option maxHeartbeats 4000000 in
theorem po_Mo_isCrane (hS : mm_Sound ct_GW ct_NW D ct_cl (ct_tys cA) ad cA ct_K ct_kd ct_N l ct_T (mm_rm d) S) : ∀ pc f, mm_at pg_Mo_isCrane pc = some f → mm_Ok ct_GW ct_NW D ct_cl (ct_tys cA) ad cA ct_K ct_kd ct_N l (mm_rm (d + 1)) "CraneTurnsModel" prog_7_method_5_code 2 S pc f :=
  mm_at_cons (ok_iload_n (k := 1) (by decide +kernel) rfl) <|
  mm_at_cons (ok_iconst (n := 0) (by decide +kernel) (by decide)) <|
  mm_at_cons (ok_aload_n (k := 0) (by decide +kernel) rfl) <|
  mm_at_cons (ok_getf (ci := 5) (k := 1) (idx := 32) rfl ct_in5 (by decide) ww_168 rfl rfl (by decide +kernel)) <|
  mm_at_cons (ok_iconst (n := 1) (by decide +kernel) (by decide)) <|
  mm_at_cons (ok_isub (by decide +kernel)) <|
  mm_at_cons (ok_callS (z := 35) (idx := 35) hS ⟨rfl, rfl⟩ (mm_rmok (by decide)) ct_good ww_169 (mm_3 ww_170 ww_171 ww_172) (by decide +kernel) (by decide +kernel)) <|
  mm_at_nil
theorem ro_Mo_isCrane : mm_RtOk prog_7_method_5_code (some .boolean) rt_Mo_isCrane :=
  mm_rt_cons (Or.inr (Or.inr ⟨rfl, rfl, by decide +kernel⟩)) <|
  mm_rt_nil
set_option maxRecDepth 100000 in
set_option maxHeartbeats 4000000 in
theorem po_Mo_isJob (hS : mm_Sound ct_GW ct_NW D ct_cl (ct_tys cA) ad cA ct_K ct_kd ct_N l ct_T (mm_rm d) S) : ∀ pc f, mm_at pg_Mo_isJob pc = some f → mm_Ok ct_GW ct_NW D ct_cl (ct_tys cA) ad cA ct_K ct_kd ct_N l (mm_rm (d + 1)) "CraneTurnsModel" prog_7_method_6_code 2 S pc f :=
  mm_at_cons (ok_iload_n (k := 1) (by decide +kernel) rfl) <|
  mm_at_cons (ok_iconst (n := 0) (by decide +kernel) (by decide)) <|
  mm_at_cons (ok_aload_n (k := 0) (by decide +kernel) rfl) <|
  mm_at_cons (ok_getf (ci := 5) (k := 5) (idx := 39) rfl ct_in5 (by decide) ww_173 rfl rfl (by decide +kernel)) <|
  mm_at_cons (ok_iconst (n := 1) (by decide +kernel) (by decide)) <|
  mm_at_cons (ok_isub (by decide +kernel)) <|
  mm_at_cons (ok_callS (z := 35) (idx := 35) hS ⟨rfl, rfl⟩ (mm_rmok (by decide)) ct_good ww_169 (mm_3 ww_170 ww_171 ww_172) (by decide +kernel) (by decide +kernel)) <|
  mm_at_nil
theorem ro_Mo_isJob : mm_RtOk prog_7_method_6_code (some .boolean) rt_Mo_isJob :=
  mm_rt_cons (Or.inr (Or.inr ⟨rfl, rfl, by decide +kernel⟩)) <|
  mm_rt_nil
set_option maxRecDepth 100000 in
set_option maxHeartbeats 4000000 in
theorem po_Mo_ofCrane (hS : mm_Sound ct_GW ct_NW D ct_cl (ct_tys cA) ad cA ct_K ct_kd ct_N l ct_T (mm_rm d) S) : ∀ pc f, mm_at pg_Mo_ofCrane pc = some f → mm_Ok ct_GW ct_NW D ct_cl (ct_tys cA) ad cA ct_K ct_kd ct_N l (mm_rm (d + 1)) "CraneTurnsModel" prog_7_method_7_code 3 S pc f :=
  mm_at_cons (ok_aload_n (k := 0) (by decide +kernel) rfl) <|
  mm_at_cons (ok_getr (ck := 13) (off := 3) (ci := 5) (k := 8) (idx := 16) rfl ct_in5 (by decide) ww_174 rfl rfl (by decide +kernel)) <|
  mm_at_cons (ok_bipush (n := 10) (by decide +kernel) (by decide)) <|
  mm_at_cons (ok_bipush (n := 10) (by decide +kernel) (by decide)) <|
  mm_at_cons (ok_iload_n (k := 1) (by decide +kernel) rfl) <|
  mm_at_cons (ok_imul (by decide +kernel)) <|
  mm_at_cons (ok_iadd (by decide +kernel)) <|
  mm_at_cons (ok_iload_n (k := 2) (by decide +kernel) rfl) <|
  mm_at_cons (ok_iadd (by decide +kernel)) <|
  mm_at_cons (ok_iald (t9 := 0) (by decide) rfl rfl (by decide +kernel)) <|
  mm_at_nil
theorem ro_Mo_ofCrane : mm_RtOk prog_7_method_7_code (some .int) rt_Mo_ofCrane :=
  mm_rt_cons (Or.inr (Or.inl ⟨rfl, rfl, by decide +kernel⟩)) <|
  mm_rt_nil
set_option maxRecDepth 100000 in
set_option maxHeartbeats 4000000 in
theorem po_Mo_setCrane (hS : mm_Sound ct_GW ct_NW D ct_cl (ct_tys cA) ad cA ct_K ct_kd ct_N l ct_T (mm_rm d) S) : ∀ pc f, mm_at pg_Mo_setCrane pc = some f → mm_Ok ct_GW ct_NW D ct_cl (ct_tys cA) ad cA ct_K ct_kd ct_N l (mm_rm (d + 1)) "CraneTurnsModel" prog_7_method_8_code 4 S pc f :=
  mm_at_cons (ok_aload_n (k := 0) (by decide +kernel) rfl) <|
  mm_at_cons (ok_getr (ck := 13) (off := 3) (ci := 5) (k := 8) (idx := 16) rfl ct_in5 (by decide) ww_174 rfl rfl (by decide +kernel)) <|
  mm_at_cons (ok_bipush (n := 10) (by decide +kernel) (by decide)) <|
  mm_at_cons (ok_bipush (n := 10) (by decide +kernel) (by decide)) <|
  mm_at_cons (ok_iload_n (k := 1) (by decide +kernel) rfl) <|
  mm_at_cons (ok_imul (by decide +kernel)) <|
  mm_at_cons (ok_iadd (by decide +kernel)) <|
  mm_at_cons (ok_iload_n (k := 2) (by decide +kernel) rfl) <|
  mm_at_cons (ok_iadd (by decide +kernel)) <|
  mm_at_cons (ok_iload_n (k := 3) (by decide +kernel) rfl) <|
  mm_at_cons (ok_iast (t9 := 0) (by decide) rfl rfl (by decide +kernel)) <|
  mm_at_nil
theorem ro_Mo_setCrane : mm_RtOk prog_7_method_8_code (none) rt_Mo_setCrane :=
  mm_rt_cons (Or.inl ⟨rfl, rfl, by decide +kernel⟩) <|
  mm_rt_nil
set_option maxRecDepth 100000 in
set_option maxHeartbeats 4000000 in
theorem po_Mo_ofJob (hS : mm_Sound ct_GW ct_NW D ct_cl (ct_tys cA) ad cA ct_K ct_kd ct_N l ct_T (mm_rm d) S) : ∀ pc f, mm_at pg_Mo_ofJob pc = some f → mm_Ok ct_GW ct_NW D ct_cl (ct_tys cA) ad cA ct_K ct_kd ct_N l (mm_rm (d + 1)) "CraneTurnsModel" prog_7_method_9_code 3 S pc f :=
  mm_at_cons (ok_aload_n (k := 0) (by decide +kernel) rfl) <|
  mm_at_cons (ok_getr (ck := 13) (off := 3) (ci := 5) (k := 8) (idx := 16) rfl ct_in5 (by decide) ww_174 rfl rfl (by decide +kernel)) <|
  mm_at_cons (ok_bipush (n := 50) (by decide +kernel) (by decide)) <|
  mm_at_cons (ok_bipush (n := 7) (by decide +kernel) (by decide)) <|
  mm_at_cons (ok_iload_n (k := 1) (by decide +kernel) rfl) <|
  mm_at_cons (ok_imul (by decide +kernel)) <|
  mm_at_cons (ok_iadd (by decide +kernel)) <|
  mm_at_cons (ok_iload_n (k := 2) (by decide +kernel) rfl) <|
  mm_at_cons (ok_iadd (by decide +kernel)) <|
  mm_at_cons (ok_iald (t9 := 0) (by decide) rfl rfl (by decide +kernel)) <|
  mm_at_nil
theorem ro_Mo_ofJob : mm_RtOk prog_7_method_9_code (some .int) rt_Mo_ofJob :=
  mm_rt_cons (Or.inr (Or.inl ⟨rfl, rfl, by decide +kernel⟩)) <|
  mm_rt_nil
set_option maxRecDepth 100000 in
set_option maxHeartbeats 4000000 in
theorem po_Mo_setJob (hS : mm_Sound ct_GW ct_NW D ct_cl (ct_tys cA) ad cA ct_K ct_kd ct_N l ct_T (mm_rm d) S) : ∀ pc f, mm_at pg_Mo_setJob pc = some f → mm_Ok ct_GW ct_NW D ct_cl (ct_tys cA) ad cA ct_K ct_kd ct_N l (mm_rm (d + 1)) "CraneTurnsModel" prog_7_method_10_code 4 S pc f :=
  mm_at_cons (ok_aload_n (k := 0) (by decide +kernel) rfl) <|
  mm_at_cons (ok_getr (ck := 13) (off := 3) (ci := 5) (k := 8) (idx := 16) rfl ct_in5 (by decide) ww_174 rfl rfl (by decide +kernel)) <|
  mm_at_cons (ok_bipush (n := 50) (by decide +kernel) (by decide)) <|
  mm_at_cons (ok_bipush (n := 7) (by decide +kernel) (by decide)) <|
  mm_at_cons (ok_iload_n (k := 1) (by decide +kernel) rfl) <|
  mm_at_cons (ok_imul (by decide +kernel)) <|
  mm_at_cons (ok_iadd (by decide +kernel)) <|
  mm_at_cons (ok_iload_n (k := 2) (by decide +kernel) rfl) <|
  mm_at_cons (ok_iadd (by decide +kernel)) <|
  mm_at_cons (ok_iload_n (k := 3) (by decide +kernel) rfl) <|
  mm_at_cons (ok_iast (t9 := 0) (by decide) rfl rfl (by decide +kernel)) <|
  mm_at_nil
theorem ro_Mo_setJob : mm_RtOk prog_7_method_10_code (none) rt_Mo_setJob :=
  mm_rt_cons (Or.inl ⟨rfl, rfl, by decide +kernel⟩) <|
  mm_rt_nil
set_option maxRecDepth 100000 in
set_option maxHeartbeats 4000000 in
theorem po_Mo_track (hS : mm_Sound ct_GW ct_NW D ct_cl (ct_tys cA) ad cA ct_K ct_kd ct_N l ct_T (mm_rm d) S) : ∀ pc f, mm_at pg_Mo_track pc = some f → mm_Ok ct_GW ct_NW D ct_cl (ct_tys cA) ad cA ct_K ct_kd ct_N l (mm_rm (d + 1)) "CraneTurnsModel" prog_7_method_11_code 7 S pc f :=
  mm_at_cons (ok_iload_n (k := 1) (by decide +kernel) rfl) <|
  mm_at_cons (ok_iconst (n := 1) (by decide +kernel) (by decide)) <|
  mm_at_cons (ok_iconst (n := 3) (by decide +kernel) (by decide)) <|
  mm_at_cons (ok_callS (z := 35) (idx := 35) hS ⟨rfl, rfl⟩ (mm_rmok (by decide)) ct_good ww_169 (mm_3 ww_170 ww_171 ww_172) (by decide +kernel) (by decide +kernel)) <|
  mm_at_cons (ok_if_eq (off := 38) (by decide +kernel) (by decide)) <|
  mm_at_cons (ok_iload_n (k := 2) (by decide +kernel) rfl) <|
  mm_at_cons (ok_iconst (n := 1) (by decide +kernel) (by decide)) <|
  mm_at_cons (ok_bipush (n := 30) (by decide +kernel) (by decide)) <|
  mm_at_cons (ok_callS (z := 35) (idx := 35) hS ⟨rfl, rfl⟩ (mm_rmok (by decide)) ct_good ww_169 (mm_3 ww_170 ww_171 ww_172) (by decide +kernel) (by decide +kernel)) <|
  mm_at_cons (ok_if_eq (off := 28) (by decide +kernel) (by decide)) <|
  mm_at_cons (ok_iload_n (k := 3) (by decide +kernel) rfl) <|
  mm_at_cons (ok_iconst (n := 1) (by decide +kernel) (by decide)) <|
  mm_at_cons (ok_bipush (n := 20) (by decide +kernel) (by decide)) <|
  mm_at_cons (ok_callS (z := 35) (idx := 35) hS ⟨rfl, rfl⟩ (mm_rmok (by decide)) ct_good ww_169 (mm_3 ww_170 ww_171 ww_172) (by decide +kernel) (by decide +kernel)) <|
  mm_at_cons (ok_if_eq (off := 18) (by decide +kernel) (by decide)) <|
  mm_at_cons (ok_iload (by decide +kernel)) <|
  mm_at_cons (ok_iconst (n := 1) (by decide +kernel) (by decide)) <|
  mm_at_cons (ok_bipush (n := 30) (by decide +kernel) (by decide)) <|
  mm_at_cons (ok_callS (z := 35) (idx := 35) hS ⟨rfl, rfl⟩ (mm_rmok (by decide)) ct_good ww_169 (mm_3 ww_170 ww_171 ww_172) (by decide +kernel) (by decide +kernel)) <|
  mm_at_cons (ok_if_eq (off := 7) (by decide +kernel) (by decide)) <|
  mm_at_cons (ok_iconst (n := 1) (by decide +kernel) (by decide)) <|
  mm_at_cons (ok_goto (off := 4) (by decide +kernel) (by decide)) <|
  mm_at_cons (ok_iconst (n := 0) (by decide +kernel) (by decide)) <|
  mm_at_cons (ok_istore (by decide +kernel)) <|
  mm_at_cons (ok_aload_n (k := 0) (by decide +kernel) rfl) <|
  mm_at_cons (ok_aload_n (k := 0) (by decide +kernel) rfl) <|
  mm_at_cons (ok_getf (ci := 5) (k := 1) (idx := 32) rfl ct_in5 (by decide) ww_168 rfl rfl (by decide +kernel)) <|
  mm_at_cons (ok_if_le (off := 7) (by decide +kernel) (by decide)) <|
  mm_at_cons (ok_iconst (n := 1) (by decide +kernel) (by decide)) <|
  mm_at_cons (ok_goto (off := 4) (by decide +kernel) (by decide)) <|
  mm_at_cons (ok_iconst (n := 0) (by decide +kernel) (by decide)) <|
  mm_at_cons (ok_iload (by decide +kernel)) <|
  mm_at_cons (ok_if_ne (off := 7) (by decide +kernel) (by decide)) <|
  mm_at_cons (ok_iconst (n := 1) (by decide +kernel) (by decide)) <|
  mm_at_cons (ok_goto (off := 4) (by decide +kernel) (by decide)) <|
  mm_at_cons (ok_iconst (n := 0) (by decide +kernel) (by decide)) <|
  mm_at_cons (ok_iconst (n := 0) (by decide +kernel) (by decide)) <|
  mm_at_cons (ok_iconst (n := 0) (by decide +kernel) (by decide)) <|
  mm_at_cons (ok_callV (z := 34) (ci := 5) (idx := 42) rfl hS ⟨rfl, rfl⟩ (mm_rmok (by decide)) rfl ct_good ww_175 (mm_4 ww_176 ww_177 sel_34 ww_172) (by decide +kernel) (by decide +kernel)) <|
  mm_at_cons (ok_if_eq (off := 4) (by decide +kernel) (by decide)) <|
  mm_at_cons (ok_aload_n (k := 0) (by decide +kernel) rfl) <|
  mm_at_cons (ok_iload_n (k := 1) (by decide +kernel) rfl) <|
  mm_at_cons (ok_putf (ci := 5) (k := 1) (idx := 32) rfl ct_in5 (by decide) ww_168 rfl ct_ty5 ct_tyok5 ct_nm5 rfl (by decide +kernel) rfl (by decide +kernel)) <|
  mm_at_cons (ok_aload_n (k := 0) (by decide +kernel) rfl) <|
  mm_at_cons (ok_iload_n (k := 2) (by decide +kernel) rfl) <|
  mm_at_cons (ok_putf (ci := 5) (k := 2) (idx := 46) rfl ct_in5 (by decide) ww_178 rfl ct_ty5 ct_tyok5 ct_nm5 rfl (by decide +kernel) rfl (by decide +kernel)) <|
  mm_at_cons (ok_aload_n (k := 0) (by decide +kernel) rfl) <|
  mm_at_cons (ok_iload_n (k := 3) (by decide +kernel) rfl) <|
  mm_at_cons (ok_putf (ci := 5) (k := 3) (idx := 49) rfl ct_in5 (by decide) ww_179 rfl ct_ty5 ct_tyok5 ct_nm5 rfl (by decide +kernel) rfl (by decide +kernel)) <|
  mm_at_cons (ok_aload_n (k := 0) (by decide +kernel) rfl) <|
  mm_at_cons (ok_iload (by decide +kernel)) <|
  mm_at_cons (ok_putf (ci := 5) (k := 4) (idx := 52) rfl ct_in5 (by decide) ww_180 rfl ct_ty5 ct_tyok5 ct_nm5 rfl (by decide +kernel) rfl (by decide +kernel)) <|
  mm_at_cons (ok_iconst (n := 0) (by decide +kernel) (by decide)) <|
  mm_at_cons (ok_istore (by decide +kernel)) <|
  mm_at_cons (ok_iload (by decide +kernel)) <|
  mm_at_cons (ok_iload_n (k := 1) (by decide +kernel) rfl) <|
  mm_at_cons (ok_icmp_ge (off := 38) (by decide +kernel) (by decide)) <|
  mm_at_cons (ok_aload_n (k := 0) (by decide +kernel) rfl) <|
  mm_at_cons (ok_iload (by decide +kernel)) <|
  mm_at_cons (ok_iconst (n := 0) (by decide +kernel) (by decide)) <|
  mm_at_cons (ok_iload (by decide +kernel)) <|
  mm_at_cons (ok_iload_n (k := 2) (by decide +kernel) rfl) <|
  mm_at_cons (ok_imul (by decide +kernel)) <|
  mm_at_cons (ok_callV (z := 39) (ci := 5) (idx := 55) rfl hS ⟨rfl, rfl⟩ (mm_rmok (by decide)) rfl ct_good ww_181 (mm_4 ww_182 ww_183 sel_39 ww_172) (by decide +kernel) (by decide +kernel)) <|
  mm_at_cons (ok_aload_n (k := 0) (by decide +kernel) rfl) <|
  mm_at_cons (ok_iload (by decide +kernel)) <|
  mm_at_cons (ok_iconst (n := 2) (by decide +kernel) (by decide)) <|
  mm_at_cons (ok_iconst (n := (-1)) (by decide +kernel) (by decide)) <|
  mm_at_cons (ok_callV (z := 39) (ci := 5) (idx := 55) rfl hS ⟨rfl, rfl⟩ (mm_rmok (by decide)) rfl ct_good ww_181 (mm_4 ww_182 ww_183 sel_39 ww_172) (by decide +kernel) (by decide +kernel)) <|
  mm_at_cons (ok_aload_n (k := 0) (by decide +kernel) rfl) <|
  mm_at_cons (ok_getr (ck := 12) (off := 2) (ci := 5) (k := 7) (idx := 13) rfl ct_in5 (by decide) ww_184 rfl rfl (by decide +kernel)) <|
  mm_at_cons (ok_iload (by decide +kernel)) <|
  mm_at_cons (ok_sipush (n := 200) (by decide +kernel) (by decide)) <|
  mm_at_cons (ok_iast (t9 := 0) (by decide) rfl rfl (by decide +kernel)) <|
  mm_at_cons (ok_iinc (n := 1) (by decide +kernel) (by decide)) <|
  mm_at_cons (ok_goto (off := (-38)) (by decide +kernel) (by decide)) <|
  mm_at_nil
theorem ro_Mo_track : mm_RtOk prog_7_method_11_code (none) rt_Mo_track :=
  mm_rt_cons (Or.inl ⟨rfl, rfl, by decide +kernel⟩) <|
  mm_rt_cons (Or.inl ⟨rfl, rfl, by decide +kernel⟩) <|
  mm_rt_nil
set_option maxRecDepth 100000 in
set_option maxHeartbeats 4000000 in
theorem po_Mo_crane (hS : mm_Sound ct_GW ct_NW D ct_cl (ct_tys cA) ad cA ct_K ct_kd ct_N l ct_T (mm_rm d) S) : ∀ pc f, mm_at pg_Mo_crane pc = some f → mm_Ok ct_GW ct_NW D ct_cl (ct_tys cA) ad cA ct_K ct_kd ct_N l (mm_rm (d + 1)) "CraneTurnsModel" prog_7_method_12_code 8 S pc f :=
  mm_at_cons (ok_aload_n (k := 0) (by decide +kernel) rfl) <|
  mm_at_cons (ok_iload_n (k := 1) (by decide +kernel) rfl) <|
  mm_at_cons (ok_callV (z := 36) (ci := 5) (idx := 59) rfl hS ⟨rfl, rfl⟩ (mm_rmok (by decide)) rfl ct_good ww_185 (mm_4 ww_186 ww_187 sel_36 ww_172) (by decide +kernel) (by decide +kernel)) <|
  mm_at_cons (ok_if_ne (off := 7) (by decide +kernel) (by decide)) <|
  mm_at_cons (ok_iconst (n := 1) (by decide +kernel) (by decide)) <|
  mm_at_cons (ok_goto (off := 4) (by decide +kernel) (by decide)) <|
  mm_at_cons (ok_iconst (n := 0) (by decide +kernel) (by decide)) <|
  mm_at_cons (ok_istore (by decide +kernel)) <|
  mm_at_cons (ok_iload_n (k := 3) (by decide +kernel) rfl) <|
  mm_at_cons (ok_iconst (n := 0) (by decide +kernel) (by decide)) <|
  mm_at_cons (ok_sipush (n := 200) (by decide +kernel) (by decide)) <|
  mm_at_cons (ok_callS (z := 35) (idx := 35) hS ⟨rfl, rfl⟩ (mm_rmok (by decide)) ct_good ww_169 (mm_3 ww_170 ww_171 ww_172) (by decide +kernel) (by decide +kernel)) <|
  mm_at_cons (ok_if_eq (off := 25) (by decide +kernel) (by decide)) <|
  mm_at_cons (ok_iload (by decide +kernel)) <|
  mm_at_cons (ok_iconst (n := 0) (by decide +kernel) (by decide)) <|
  mm_at_cons (ok_sipush (n := 200) (by decide +kernel) (by decide)) <|
  mm_at_cons (ok_callS (z := 35) (idx := 35) hS ⟨rfl, rfl⟩ (mm_rmok (by decide)) ct_good ww_169 (mm_3 ww_170 ww_171 ww_172) (by decide +kernel) (by decide +kernel)) <|
  mm_at_cons (ok_if_eq (off := 13) (by decide +kernel) (by decide)) <|
  mm_at_cons (ok_iload_n (k := 2) (by decide +kernel) rfl) <|
  mm_at_cons (ok_iload_n (k := 3) (by decide +kernel) rfl) <|
  mm_at_cons (ok_iload (by decide +kernel)) <|
  mm_at_cons (ok_callS (z := 35) (idx := 35) hS ⟨rfl, rfl⟩ (mm_rmok (by decide)) ct_good ww_169 (mm_3 ww_170 ww_171 ww_172) (by decide +kernel) (by decide +kernel)) <|
  mm_at_cons (ok_if_ne (off := 7) (by decide +kernel) (by decide)) <|
  mm_at_cons (ok_iconst (n := 1) (by decide +kernel) (by decide)) <|
  mm_at_cons (ok_goto (off := 4) (by decide +kernel) (by decide)) <|
  mm_at_cons (ok_iconst (n := 0) (by decide +kernel) (by decide)) <|
  mm_at_cons (ok_istore (by decide +kernel)) <|
  mm_at_cons (ok_iload (by decide +kernel)) <|
  mm_at_cons (ok_if_ne (off := 55) (by decide +kernel) (by decide)) <|
  mm_at_cons (ok_iload_n (k := 1) (by decide +kernel) rfl) <|
  mm_at_cons (ok_if_le (off := 20) (by decide +kernel) (by decide)) <|
  mm_at_cons (ok_iload_n (k := 2) (by decide +kernel) rfl) <|
  mm_at_cons (ok_aload_n (k := 0) (by decide +kernel) rfl) <|
  mm_at_cons (ok_iload_n (k := 1) (by decide +kernel) rfl) <|
  mm_at_cons (ok_iconst (n := 1) (by decide +kernel) (by decide)) <|
  mm_at_cons (ok_isub (by decide +kernel)) <|
  mm_at_cons (ok_iconst (n := 0) (by decide +kernel) (by decide)) <|
  mm_at_cons (ok_callV (z := 38) (ci := 5) (idx := 63) rfl hS ⟨rfl, rfl⟩ (mm_rmok (by decide)) rfl ct_good ww_188 (mm_4 ww_189 ww_190 sel_38 ww_172) (by decide +kernel) (by decide +kernel)) <|
  mm_at_cons (ok_isub (by decide +kernel)) <|
  mm_at_cons (ok_aload_n (k := 0) (by decide +kernel) rfl) <|
  mm_at_cons (ok_getf (ci := 5) (k := 2) (idx := 46) rfl ct_in5 (by decide) ww_178 rfl rfl (by decide +kernel)) <|
  mm_at_cons (ok_icmp_lt (off := 30) (by decide +kernel) (by decide)) <|
  mm_at_cons (ok_iload_n (k := 1) (by decide +kernel) rfl) <|
  mm_at_cons (ok_iconst (n := 1) (by decide +kernel) (by decide)) <|
  mm_at_cons (ok_iadd (by decide +kernel)) <|
  mm_at_cons (ok_aload_n (k := 0) (by decide +kernel) rfl) <|
  mm_at_cons (ok_getf (ci := 5) (k := 1) (idx := 32) rfl ct_in5 (by decide) ww_168 rfl rfl (by decide +kernel)) <|
  mm_at_cons (ok_icmp_ge (off := 24) (by decide +kernel) (by decide)) <|
  mm_at_cons (ok_aload_n (k := 0) (by decide +kernel) rfl) <|
  mm_at_cons (ok_iload_n (k := 1) (by decide +kernel) rfl) <|
  mm_at_cons (ok_iconst (n := 1) (by decide +kernel) (by decide)) <|
  mm_at_cons (ok_iadd (by decide +kernel)) <|
  mm_at_cons (ok_iconst (n := 0) (by decide +kernel) (by decide)) <|
  mm_at_cons (ok_callV (z := 38) (ci := 5) (idx := 63) rfl hS ⟨rfl, rfl⟩ (mm_rmok (by decide)) rfl ct_good ww_188 (mm_4 ww_189 ww_190 sel_38 ww_172) (by decide +kernel) (by decide +kernel)) <|
  mm_at_cons (ok_iload_n (k := 2) (by decide +kernel) rfl) <|
  mm_at_cons (ok_isub (by decide +kernel)) <|
  mm_at_cons (ok_aload_n (k := 0) (by decide +kernel) rfl) <|
  mm_at_cons (ok_getf (ci := 5) (k := 2) (idx := 46) rfl ct_in5 (by decide) ww_178 rfl rfl (by decide +kernel)) <|
  mm_at_cons (ok_icmp_ge (off := 7) (by decide +kernel) (by decide)) <|
  mm_at_cons (ok_iconst (n := 1) (by decide +kernel) (by decide)) <|
  mm_at_cons (ok_goto (off := 4) (by decide +kernel) (by decide)) <|
  mm_at_cons (ok_iconst (n := 0) (by decide +kernel) (by decide)) <|
  mm_at_cons (ok_istore (by decide +kernel)) <|
  mm_at_cons (ok_aload_n (k := 0) (by decide +kernel) rfl) <|
  mm_at_cons (ok_iload (by decide +kernel)) <|
  mm_at_cons (ok_aload_n (k := 0) (by decide +kernel) rfl) <|
  mm_at_cons (ok_getr (ck := 13) (off := 3) (ci := 5) (k := 8) (idx := 16) rfl ct_in5 (by decide) ww_174 rfl rfl (by decide +kernel)) <|
  mm_at_cons (ok_iconst (n := 0) (by decide +kernel) (by decide)) <|
  mm_at_cons (ok_iald (t9 := 0) (by decide) rfl rfl (by decide +kernel)) <|
  mm_at_cons (ok_if_gt (off := 12) (by decide +kernel) (by decide)) <|
  mm_at_cons (ok_aload_n (k := 0) (by decide +kernel) rfl) <|
  mm_at_cons (ok_getr (ck := 13) (off := 3) (ci := 5) (k := 8) (idx := 16) rfl ct_in5 (by decide) ww_174 rfl rfl (by decide +kernel)) <|
  mm_at_cons (ok_iconst (n := 2) (by decide +kernel) (by decide)) <|
  mm_at_cons (ok_iald (t9 := 0) (by decide) rfl rfl (by decide +kernel)) <|
  mm_at_cons (ok_if_le (off := 7) (by decide +kernel) (by decide)) <|
  mm_at_cons (ok_iconst (n := 1) (by decide +kernel) (by decide)) <|
  mm_at_cons (ok_goto (off := 4) (by decide +kernel) (by decide)) <|
  mm_at_cons (ok_iconst (n := 0) (by decide +kernel) (by decide)) <|
  mm_at_cons (ok_iload (by decide +kernel)) <|
  mm_at_cons (ok_iload (by decide +kernel)) <|
  mm_at_cons (ok_callV (z := 34) (ci := 5) (idx := 42) rfl hS ⟨rfl, rfl⟩ (mm_rmok (by decide)) rfl ct_good ww_175 (mm_4 ww_176 ww_177 sel_34 ww_172) (by decide +kernel) (by decide +kernel)) <|
  mm_at_cons (ok_if_eq (off := 4) (by decide +kernel) (by decide)) <|
  mm_at_cons (ok_aload_n (k := 0) (by decide +kernel) rfl) <|
  mm_at_cons (ok_iload_n (k := 1) (by decide +kernel) rfl) <|
  mm_at_cons (ok_iconst (n := 0) (by decide +kernel) (by decide)) <|
  mm_at_cons (ok_iload_n (k := 2) (by decide +kernel) rfl) <|
  mm_at_cons (ok_callV (z := 39) (ci := 5) (idx := 55) rfl hS ⟨rfl, rfl⟩ (mm_rmok (by decide)) rfl ct_good ww_181 (mm_4 ww_182 ww_183 sel_39 ww_172) (by decide +kernel) (by decide +kernel)) <|
  mm_at_cons (ok_aload_n (k := 0) (by decide +kernel) rfl) <|
  mm_at_cons (ok_getr (ck := 12) (off := 1) (ci := 5) (k := 6) (idx := 7) rfl ct_in5 (by decide) ww_191 rfl rfl (by decide +kernel)) <|
  mm_at_cons (ok_iload_n (k := 1) (by decide +kernel) rfl) <|
  mm_at_cons (ok_iload_n (k := 3) (by decide +kernel) rfl) <|
  mm_at_cons (ok_iast (t9 := 0) (by decide) rfl rfl (by decide +kernel)) <|
  mm_at_cons (ok_aload_n (k := 0) (by decide +kernel) rfl) <|
  mm_at_cons (ok_getr (ck := 12) (off := 2) (ci := 5) (k := 7) (idx := 13) rfl ct_in5 (by decide) ww_184 rfl rfl (by decide +kernel)) <|
  mm_at_cons (ok_iload_n (k := 1) (by decide +kernel) rfl) <|
  mm_at_cons (ok_iload (by decide +kernel)) <|
  mm_at_cons (ok_iast (t9 := 0) (by decide) rfl rfl (by decide +kernel)) <|
  mm_at_nil
theorem ro_Mo_crane : mm_RtOk prog_7_method_12_code (none) rt_Mo_crane :=
  mm_rt_cons (Or.inl ⟨rfl, rfl, by decide +kernel⟩) <|
  mm_rt_cons (Or.inl ⟨rfl, rfl, by decide +kernel⟩) <|
  mm_rt_nil
set_option maxRecDepth 100000 in
set_option maxHeartbeats 4000000 in
theorem po_Mo_job (hS : mm_Sound ct_GW ct_NW D ct_cl (ct_tys cA) ad cA ct_K ct_kd ct_N l ct_T (mm_rm d) S) : ∀ pc f, mm_at pg_Mo_job pc = some f → mm_Ok ct_GW ct_NW D ct_cl (ct_tys cA) ad cA ct_K ct_kd ct_N l (mm_rm (d + 1)) "CraneTurnsModel" prog_7_method_13_code 5 S pc f :=
  mm_at_cons (ok_iload_n (k := 1) (by decide +kernel) rfl) <|
  mm_at_cons (ok_iconst (n := 0) (by decide +kernel) (by decide)) <|
  mm_at_cons (ok_sipush (n := 200) (by decide +kernel) (by decide)) <|
  mm_at_cons (ok_callS (z := 35) (idx := 35) hS ⟨rfl, rfl⟩ (mm_rmok (by decide)) ct_good ww_169 (mm_3 ww_170 ww_171 ww_172) (by decide +kernel) (by decide +kernel)) <|
  mm_at_cons (ok_if_eq (off := 29) (by decide +kernel) (by decide)) <|
  mm_at_cons (ok_iload_n (k := 2) (by decide +kernel) rfl) <|
  mm_at_cons (ok_iconst (n := 0) (by decide +kernel) (by decide)) <|
  mm_at_cons (ok_sipush (n := 200) (by decide +kernel) (by decide)) <|
  mm_at_cons (ok_callS (z := 35) (idx := 35) hS ⟨rfl, rfl⟩ (mm_rmok (by decide)) ct_good ww_169 (mm_3 ww_170 ww_171 ww_172) (by decide +kernel) (by decide +kernel)) <|
  mm_at_cons (ok_if_eq (off := 18) (by decide +kernel) (by decide)) <|
  mm_at_cons (ok_iload_n (k := 3) (by decide +kernel) rfl) <|
  mm_at_cons (ok_iconst (n := 0) (by decide +kernel) (by decide)) <|
  mm_at_cons (ok_sipush (n := 5000) (by decide +kernel) (by decide)) <|
  mm_at_cons (ok_callS (z := 35) (idx := 35) hS ⟨rfl, rfl⟩ (mm_rmok (by decide)) ct_good ww_169 (mm_3 ww_170 ww_171 ww_172) (by decide +kernel) (by decide +kernel)) <|
  mm_at_cons (ok_if_eq (off := 7) (by decide +kernel) (by decide)) <|
  mm_at_cons (ok_iconst (n := 1) (by decide +kernel) (by decide)) <|
  mm_at_cons (ok_goto (off := 4) (by decide +kernel) (by decide)) <|
  mm_at_cons (ok_iconst (n := 0) (by decide +kernel) (by decide)) <|
  mm_at_cons (ok_istore (by decide +kernel)) <|
  mm_at_cons (ok_aload_n (k := 0) (by decide +kernel) rfl) <|
  mm_at_cons (ok_aload_n (k := 0) (by decide +kernel) rfl) <|
  mm_at_cons (ok_getf (ci := 5) (k := 1) (idx := 32) rfl ct_in5 (by decide) ww_168 rfl rfl (by decide +kernel)) <|
  mm_at_cons (ok_if_ne (off := 7) (by decide +kernel) (by decide)) <|
  mm_at_cons (ok_iconst (n := 1) (by decide +kernel) (by decide)) <|
  mm_at_cons (ok_goto (off := 4) (by decide +kernel) (by decide)) <|
  mm_at_cons (ok_iconst (n := 0) (by decide +kernel) (by decide)) <|
  mm_at_cons (ok_iload (by decide +kernel)) <|
  mm_at_cons (ok_if_ne (off := 7) (by decide +kernel) (by decide)) <|
  mm_at_cons (ok_iconst (n := 1) (by decide +kernel) (by decide)) <|
  mm_at_cons (ok_goto (off := 4) (by decide +kernel) (by decide)) <|
  mm_at_cons (ok_iconst (n := 0) (by decide +kernel) (by decide)) <|
  mm_at_cons (ok_aload_n (k := 0) (by decide +kernel) rfl) <|
  mm_at_cons (ok_getf (ci := 5) (k := 5) (idx := 39) rfl ct_in5 (by decide) ww_173 rfl rfl (by decide +kernel)) <|
  mm_at_cons (ok_bipush (n := 8) (by decide +kernel) (by decide)) <|
  mm_at_cons (ok_icmp_ne (off := 7) (by decide +kernel) (by decide)) <|
  mm_at_cons (ok_iconst (n := 1) (by decide +kernel) (by decide)) <|
  mm_at_cons (ok_goto (off := 4) (by decide +kernel) (by decide)) <|
  mm_at_cons (ok_iconst (n := 0) (by decide +kernel) (by decide)) <|
  mm_at_cons (ok_iconst (n := 0) (by decide +kernel) (by decide)) <|
  mm_at_cons (ok_callV (z := 34) (ci := 5) (idx := 42) rfl hS ⟨rfl, rfl⟩ (mm_rmok (by decide)) rfl ct_good ww_175 (mm_4 ww_176 ww_177 sel_34 ww_172) (by decide +kernel) (by decide +kernel)) <|
  mm_at_cons (ok_if_eq (off := 5) (by decide +kernel) (by decide)) <|
  mm_at_cons (ok_iconst (n := 0) (by decide +kernel) (by decide)) <|
  mm_at_cons (ok_aload_n (k := 0) (by decide +kernel) rfl) <|
  mm_at_cons (ok_aload_n (k := 0) (by decide +kernel) rfl) <|
  mm_at_cons (ok_getf (ci := 5) (k := 5) (idx := 39) rfl ct_in5 (by decide) ww_173 rfl rfl (by decide +kernel)) <|
  mm_at_cons (ok_iconst (n := 0) (by decide +kernel) (by decide)) <|
  mm_at_cons (ok_iload_n (k := 1) (by decide +kernel) rfl) <|
  mm_at_cons (ok_callV (z := 41) (ci := 5) (idx := 67) rfl hS ⟨rfl, rfl⟩ (mm_rmok (by decide)) rfl ct_good ww_192 (mm_4 ww_193 ww_194 sel_41 ww_172) (by decide +kernel) (by decide +kernel)) <|
  mm_at_cons (ok_aload_n (k := 0) (by decide +kernel) rfl) <|
  mm_at_cons (ok_aload_n (k := 0) (by decide +kernel) rfl) <|
  mm_at_cons (ok_getf (ci := 5) (k := 5) (idx := 39) rfl ct_in5 (by decide) ww_173 rfl rfl (by decide +kernel)) <|
  mm_at_cons (ok_iconst (n := 1) (by decide +kernel) (by decide)) <|
  mm_at_cons (ok_iload_n (k := 2) (by decide +kernel) rfl) <|
  mm_at_cons (ok_callV (z := 41) (ci := 5) (idx := 67) rfl hS ⟨rfl, rfl⟩ (mm_rmok (by decide)) rfl ct_good ww_192 (mm_4 ww_193 ww_194 sel_41 ww_172) (by decide +kernel) (by decide +kernel)) <|
  mm_at_cons (ok_aload_n (k := 0) (by decide +kernel) rfl) <|
  mm_at_cons (ok_aload_n (k := 0) (by decide +kernel) rfl) <|
  mm_at_cons (ok_getf (ci := 5) (k := 5) (idx := 39) rfl ct_in5 (by decide) ww_173 rfl rfl (by decide +kernel)) <|
  mm_at_cons (ok_iconst (n := 2) (by decide +kernel) (by decide)) <|
  mm_at_cons (ok_iload_n (k := 3) (by decide +kernel) rfl) <|
  mm_at_cons (ok_callV (z := 41) (ci := 5) (idx := 67) rfl hS ⟨rfl, rfl⟩ (mm_rmok (by decide)) rfl ct_good ww_192 (mm_4 ww_193 ww_194 sel_41 ww_172) (by decide +kernel) (by decide +kernel)) <|
  mm_at_cons (ok_aload_n (k := 0) (by decide +kernel) rfl) <|
  mm_at_cons (ok_aload_n (k := 0) (by decide +kernel) rfl) <|
  mm_at_cons (ok_getf (ci := 5) (k := 5) (idx := 39) rfl ct_in5 (by decide) ww_173 rfl rfl (by decide +kernel)) <|
  mm_at_cons (ok_iconst (n := 3) (by decide +kernel) (by decide)) <|
  mm_at_cons (ok_iconst (n := 0) (by decide +kernel) (by decide)) <|
  mm_at_cons (ok_callV (z := 41) (ci := 5) (idx := 67) rfl hS ⟨rfl, rfl⟩ (mm_rmok (by decide)) rfl ct_good ww_192 (mm_4 ww_193 ww_194 sel_41 ww_172) (by decide +kernel) (by decide +kernel)) <|
  mm_at_cons (ok_aload_n (k := 0) (by decide +kernel) rfl) <|
  mm_at_cons (ok_aload_n (k := 0) (by decide +kernel) rfl) <|
  mm_at_cons (ok_getf (ci := 5) (k := 5) (idx := 39) rfl ct_in5 (by decide) ww_173 rfl rfl (by decide +kernel)) <|
  mm_at_cons (ok_iconst (n := 4) (by decide +kernel) (by decide)) <|
  mm_at_cons (ok_iconst (n := (-1)) (by decide +kernel) (by decide)) <|
  mm_at_cons (ok_callV (z := 41) (ci := 5) (idx := 67) rfl hS ⟨rfl, rfl⟩ (mm_rmok (by decide)) rfl ct_good ww_192 (mm_4 ww_193 ww_194 sel_41 ww_172) (by decide +kernel) (by decide +kernel)) <|
  mm_at_cons (ok_aload_n (k := 0) (by decide +kernel) rfl) <|
  mm_at_cons (ok_aload_n (k := 0) (by decide +kernel) rfl) <|
  mm_at_cons (ok_getf (ci := 5) (k := 5) (idx := 39) rfl ct_in5 (by decide) ww_173 rfl rfl (by decide +kernel)) <|
  mm_at_cons (ok_iconst (n := 5) (by decide +kernel) (by decide)) <|
  mm_at_cons (ok_iconst (n := (-1)) (by decide +kernel) (by decide)) <|
  mm_at_cons (ok_callV (z := 41) (ci := 5) (idx := 67) rfl hS ⟨rfl, rfl⟩ (mm_rmok (by decide)) rfl ct_good ww_192 (mm_4 ww_193 ww_194 sel_41 ww_172) (by decide +kernel) (by decide +kernel)) <|
  mm_at_cons (ok_aload_n (k := 0) (by decide +kernel) rfl) <|
  mm_at_cons (ok_dup (by decide +kernel)) <|
  mm_at_cons (ok_getf (ci := 5) (k := 5) (idx := 39) rfl ct_in5 (by decide) ww_173 rfl rfl (by decide +kernel)) <|
  mm_at_cons (ok_iconst (n := 1) (by decide +kernel) (by decide)) <|
  mm_at_cons (ok_iadd (by decide +kernel)) <|
  mm_at_cons (ok_putf (ci := 5) (k := 5) (idx := 39) rfl ct_in5 (by decide) ww_173 rfl ct_ty5 ct_tyok5 ct_nm5 rfl (by decide +kernel) rfl (by decide +kernel)) <|
  mm_at_cons (ok_aload_n (k := 0) (by decide +kernel) rfl) <|
  mm_at_cons (ok_getf (ci := 5) (k := 5) (idx := 39) rfl ct_in5 (by decide) ww_173 rfl rfl (by decide +kernel)) <|
  mm_at_cons (ok_iconst (n := 1) (by decide +kernel) (by decide)) <|
  mm_at_cons (ok_isub (by decide +kernel)) <|
  mm_at_nil
theorem ro_Mo_job : mm_RtOk prog_7_method_13_code (some .int) rt_Mo_job :=
  mm_rt_cons (Or.inr (Or.inl ⟨rfl, rfl, by decide +kernel⟩)) <|
  mm_rt_cons (Or.inr (Or.inl ⟨rfl, rfl, by decide +kernel⟩)) <|
  mm_rt_nil
set_option maxRecDepth 100000 in
set_option maxHeartbeats 4000000 in
theorem po_Mo_reaches (hS : mm_Sound ct_GW ct_NW D ct_cl (ct_tys cA) ad cA ct_K ct_kd ct_N l ct_T (mm_rm d) S) : ∀ pc f, mm_at pg_Mo_reaches pc = some f → mm_Ok ct_GW ct_NW D ct_cl (ct_tys cA) ad cA ct_K ct_kd ct_N l (mm_rm (d + 1)) "CraneTurnsModel" prog_7_method_14_code 3 S pc f :=
  mm_at_cons (ok_aload_n (k := 0) (by decide +kernel) rfl) <|
  mm_at_cons (ok_iload_n (k := 2) (by decide +kernel) rfl) <|
  mm_at_cons (ok_iconst (n := 0) (by decide +kernel) (by decide)) <|
  mm_at_cons (ok_callV (z := 40) (ci := 5) (idx := 70) rfl hS ⟨rfl, rfl⟩ (mm_rmok (by decide)) rfl ct_good ww_195 (mm_4 ww_196 ww_197 sel_40 ww_172) (by decide +kernel) (by decide +kernel)) <|
  mm_at_cons (ok_aload_n (k := 0) (by decide +kernel) rfl) <|
  mm_at_cons (ok_getr (ck := 12) (off := 1) (ci := 5) (k := 6) (idx := 7) rfl ct_in5 (by decide) ww_191 rfl rfl (by decide +kernel)) <|
  mm_at_cons (ok_iload_n (k := 1) (by decide +kernel) rfl) <|
  mm_at_cons (ok_iald (t9 := 0) (by decide) rfl rfl (by decide +kernel)) <|
  mm_at_cons (ok_aload_n (k := 0) (by decide +kernel) rfl) <|
  mm_at_cons (ok_getr (ck := 12) (off := 2) (ci := 5) (k := 7) (idx := 13) rfl ct_in5 (by decide) ww_184 rfl rfl (by decide +kernel)) <|
  mm_at_cons (ok_iload_n (k := 1) (by decide +kernel) rfl) <|
  mm_at_cons (ok_iald (t9 := 0) (by decide) rfl rfl (by decide +kernel)) <|
  mm_at_cons (ok_callS (z := 35) (idx := 35) hS ⟨rfl, rfl⟩ (mm_rmok (by decide)) ct_good ww_169 (mm_3 ww_170 ww_171 ww_172) (by decide +kernel) (by decide +kernel)) <|
  mm_at_cons (ok_if_eq (off := 31) (by decide +kernel) (by decide)) <|
  mm_at_cons (ok_aload_n (k := 0) (by decide +kernel) rfl) <|
  mm_at_cons (ok_iload_n (k := 2) (by decide +kernel) rfl) <|
  mm_at_cons (ok_iconst (n := 1) (by decide +kernel) (by decide)) <|
  mm_at_cons (ok_callV (z := 40) (ci := 5) (idx := 70) rfl hS ⟨rfl, rfl⟩ (mm_rmok (by decide)) rfl ct_good ww_195 (mm_4 ww_196 ww_197 sel_40 ww_172) (by decide +kernel) (by decide +kernel)) <|
  mm_at_cons (ok_aload_n (k := 0) (by decide +kernel) rfl) <|
  mm_at_cons (ok_getr (ck := 12) (off := 1) (ci := 5) (k := 6) (idx := 7) rfl ct_in5 (by decide) ww_191 rfl rfl (by decide +kernel)) <|
  mm_at_cons (ok_iload_n (k := 1) (by decide +kernel) rfl) <|
  mm_at_cons (ok_iald (t9 := 0) (by decide) rfl rfl (by decide +kernel)) <|
  mm_at_cons (ok_aload_n (k := 0) (by decide +kernel) rfl) <|
  mm_at_cons (ok_getr (ck := 12) (off := 2) (ci := 5) (k := 7) (idx := 13) rfl ct_in5 (by decide) ww_184 rfl rfl (by decide +kernel)) <|
  mm_at_cons (ok_iload_n (k := 1) (by decide +kernel) rfl) <|
  mm_at_cons (ok_iald (t9 := 0) (by decide) rfl rfl (by decide +kernel)) <|
  mm_at_cons (ok_callS (z := 35) (idx := 35) hS ⟨rfl, rfl⟩ (mm_rmok (by decide)) ct_good ww_169 (mm_3 ww_170 ww_171 ww_172) (by decide +kernel) (by decide +kernel)) <|
  mm_at_cons (ok_if_eq (off := 7) (by decide +kernel) (by decide)) <|
  mm_at_cons (ok_iconst (n := 1) (by decide +kernel) (by decide)) <|
  mm_at_cons (ok_goto (off := 4) (by decide +kernel) (by decide)) <|
  mm_at_cons (ok_iconst (n := 0) (by decide +kernel) (by decide)) <|
  mm_at_nil
theorem ro_Mo_reaches : mm_RtOk prog_7_method_14_code (some .boolean) rt_Mo_reaches :=
  mm_rt_cons (Or.inr (Or.inr ⟨rfl, rfl, by decide +kernel⟩)) <|
  mm_rt_nil
end
