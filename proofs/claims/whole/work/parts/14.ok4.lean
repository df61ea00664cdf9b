section
variable {D : va_G} {ad : Nat → Nat} {cA : Nat → ClassId} {l : Launch} {d : Nat} {S : mm_S}
set_option maxRecDepth 100000 in
set_option maxHeartbeats 4000000 in
theorem po_Mo_giveTo (hS : mm_Sound ct_GW ct_NW D ct_cl (ct_tys cA) ad cA ct_K ct_kd ct_N l ct_T (mm_rm d) S) : ∀ pc f, mm_at pg_Mo_giveTo pc = some f → mm_Ok ct_GW ct_NW D ct_cl (ct_tys cA) ad cA ct_K ct_kd ct_N l (mm_rm (d + 1)) "CraneTurnsModel" prog_7_method_15_code 3 S pc f :=
  mm_at_cons (ok_aload_n (k := 0) (by decide +kernel) rfl) <|
  mm_at_cons (ok_iload_n (k := 1) (by decide +kernel) rfl) <|
  mm_at_cons (ok_iconst (n := 3) (by decide +kernel) (by decide)) <|
  mm_at_cons (ok_iconst (n := 1) (by decide +kernel) (by decide)) <|
  mm_at_cons (ok_callV (z := 41) (ci := 5) (idx := 67) rfl hS ⟨rfl, rfl⟩ (mm_rmok (by decide)) rfl ct_good ww_192 (mm_4 ww_193 ww_194 sel_41 ww_172) (by decide +kernel) (by decide +kernel)) <|
  mm_at_cons (ok_aload_n (k := 0) (by decide +kernel) rfl) <|
  mm_at_cons (ok_iload_n (k := 1) (by decide +kernel) rfl) <|
  mm_at_cons (ok_iconst (n := 4) (by decide +kernel) (by decide)) <|
  mm_at_cons (ok_iload_n (k := 2) (by decide +kernel) rfl) <|
  mm_at_cons (ok_callV (z := 41) (ci := 5) (idx := 67) rfl hS ⟨rfl, rfl⟩ (mm_rmok (by decide)) rfl ct_good ww_192 (mm_4 ww_193 ww_194 sel_41 ww_172) (by decide +kernel) (by decide +kernel)) <|
  mm_at_cons (ok_aload_n (k := 0) (by decide +kernel) rfl) <|
  mm_at_cons (ok_iload_n (k := 1) (by decide +kernel) rfl) <|
  mm_at_cons (ok_bipush (n := 6) (by decide +kernel) (by decide)) <|
  mm_at_cons (ok_aload_n (k := 0) (by decide +kernel) rfl) <|
  mm_at_cons (ok_getr (ck := 13) (off := 3) (ci := 5) (k := 8) (idx := 16) rfl ct_in5 (by decide) ww_174 rfl rfl (by decide +kernel)) <|
  mm_at_cons (ok_iconst (n := 2) (by decide +kernel) (by decide)) <|
  mm_at_cons (ok_iald (t9 := 0) (by decide) rfl rfl (by decide +kernel)) <|
  mm_at_cons (ok_callV (z := 41) (ci := 5) (idx := 67) rfl hS ⟨rfl, rfl⟩ (mm_rmok (by decide)) rfl ct_good ww_192 (mm_4 ww_193 ww_194 sel_41 ww_172) (by decide +kernel) (by decide +kernel)) <|
  mm_at_cons (ok_aload_n (k := 0) (by decide +kernel) rfl) <|
  mm_at_cons (ok_getr (ck := 13) (off := 3) (ci := 5) (k := 8) (idx := 16) rfl ct_in5 (by decide) ww_174 rfl rfl (by decide +kernel)) <|
  mm_at_cons (ok_iconst (n := 2) (by decide +kernel) (by decide)) <|
  mm_at_cons (ok_dup2 (by decide +kernel)) <|
  mm_at_cons (ok_iald (t9 := 0) (by decide) rfl rfl (by decide +kernel)) <|
  mm_at_cons (ok_iconst (n := 1) (by decide +kernel) (by decide)) <|
  mm_at_cons (ok_iadd (by decide +kernel)) <|
  mm_at_cons (ok_iast (t9 := 0) (by decide) rfl rfl (by decide +kernel)) <|
  mm_at_nil
theorem ro_Mo_giveTo : mm_RtOk prog_7_method_15_code (none) rt_Mo_giveTo :=
  mm_rt_cons (Or.inl ⟨rfl, rfl, by decide +kernel⟩) <|
  mm_rt_nil
set_option maxRecDepth 100000 in
set_option maxHeartbeats 4000000 in
theorem po_Mo_give (hS : mm_Sound ct_GW ct_NW D ct_cl (ct_tys cA) ad cA ct_K ct_kd ct_N l ct_T (mm_rm d) S) : ∀ pc f, mm_at pg_Mo_give pc = some f → mm_Ok ct_GW ct_NW D ct_cl (ct_tys cA) ad cA ct_K ct_kd ct_N l (mm_rm (d + 1)) "CraneTurnsModel" prog_7_method_16_code 4 S pc f :=
  mm_at_cons (ok_aload_n (k := 0) (by decide +kernel) rfl) <|
  mm_at_cons (ok_iload_n (k := 1) (by decide +kernel) rfl) <|
  mm_at_cons (ok_callV (z := 37) (ci := 5) (idx := 73) rfl hS ⟨rfl, rfl⟩ (mm_rmok (by decide)) rfl ct_good ww_198 (mm_4 ww_199 ww_200 sel_37 ww_172) (by decide +kernel) (by decide +kernel)) <|
  mm_at_cons (ok_if_eq (off := 11) (by decide +kernel) (by decide)) <|
  mm_at_cons (ok_aload_n (k := 0) (by decide +kernel) rfl) <|
  mm_at_cons (ok_iload_n (k := 2) (by decide +kernel) rfl) <|
  mm_at_cons (ok_callV (z := 36) (ci := 5) (idx := 59) rfl hS ⟨rfl, rfl⟩ (mm_rmok (by decide)) rfl ct_good ww_185 (mm_4 ww_186 ww_187 sel_36 ww_172) (by decide +kernel) (by decide +kernel)) <|
  mm_at_cons (ok_if_ne (off := 7) (by decide +kernel) (by decide)) <|
  mm_at_cons (ok_iconst (n := 1) (by decide +kernel) (by decide)) <|
  mm_at_cons (ok_goto (off := 4) (by decide +kernel) (by decide)) <|
  mm_at_cons (ok_iconst (n := 0) (by decide +kernel) (by decide)) <|
  mm_at_cons (ok_istore_n (k := 3) (by decide +kernel) rfl) <|
  mm_at_cons (ok_aload_n (k := 0) (by decide +kernel) rfl) <|
  mm_at_cons (ok_iload_n (k := 3) (by decide +kernel) rfl) <|
  mm_at_cons (ok_iload_n (k := 3) (by decide +kernel) rfl) <|
  mm_at_cons (ok_if_ne (off := 16) (by decide +kernel) (by decide)) <|
  mm_at_cons (ok_aload_n (k := 0) (by decide +kernel) rfl) <|
  mm_at_cons (ok_iload_n (k := 1) (by decide +kernel) rfl) <|
  mm_at_cons (ok_iconst (n := 3) (by decide +kernel) (by decide)) <|
  mm_at_cons (ok_callV (z := 40) (ci := 5) (idx := 70) rfl hS ⟨rfl, rfl⟩ (mm_rmok (by decide)) rfl ct_good ww_195 (mm_4 ww_196 ww_197 sel_40 ww_172) (by decide +kernel) (by decide +kernel)) <|
  mm_at_cons (ok_if_le (off := 7) (by decide +kernel) (by decide)) <|
  mm_at_cons (ok_iconst (n := 1) (by decide +kernel) (by decide)) <|
  mm_at_cons (ok_goto (off := 4) (by decide +kernel) (by decide)) <|
  mm_at_cons (ok_iconst (n := 0) (by decide +kernel) (by decide)) <|
  mm_at_cons (ok_iload_n (k := 3) (by decide +kernel) rfl) <|
  mm_at_cons (ok_if_ne (off := 16) (by decide +kernel) (by decide)) <|
  mm_at_cons (ok_aload_n (k := 0) (by decide +kernel) rfl) <|
  mm_at_cons (ok_iload_n (k := 2) (by decide +kernel) rfl) <|
  mm_at_cons (ok_iload_n (k := 1) (by decide +kernel) rfl) <|
  mm_at_cons (ok_callV (z := 45) (ci := 5) (idx := 76) rfl hS ⟨rfl, rfl⟩ (mm_rmok (by decide)) rfl ct_good ww_201 (mm_4 ww_202 ww_203 sel_45 ww_172) (by decide +kernel) (by decide +kernel)) <|
  mm_at_cons (ok_if_ne (off := 7) (by decide +kernel) (by decide)) <|
  mm_at_cons (ok_iconst (n := 1) (by decide +kernel) (by decide)) <|
  mm_at_cons (ok_goto (off := 4) (by decide +kernel) (by decide)) <|
  mm_at_cons (ok_iconst (n := 0) (by decide +kernel) (by decide)) <|
  mm_at_cons (ok_iconst (n := 0) (by decide +kernel) (by decide)) <|
  mm_at_cons (ok_callV (z := 34) (ci := 5) (idx := 42) rfl hS ⟨rfl, rfl⟩ (mm_rmok (by decide)) rfl ct_good ww_175 (mm_4 ww_176 ww_177 sel_34 ww_172) (by decide +kernel) (by decide +kernel)) <|
  mm_at_cons (ok_if_eq (off := 4) (by decide +kernel) (by decide)) <|
  mm_at_cons (ok_aload_n (k := 0) (by decide +kernel) rfl) <|
  mm_at_cons (ok_iload_n (k := 1) (by decide +kernel) rfl) <|
  mm_at_cons (ok_iload_n (k := 2) (by decide +kernel) rfl) <|
  mm_at_cons (ok_callV (z := 46) (ci := 5) (idx := 80) rfl hS ⟨rfl, rfl⟩ (mm_rmok (by decide)) rfl ct_good ww_204 (mm_4 ww_205 ww_206 sel_46 ww_172) (by decide +kernel) (by decide +kernel)) <|
  mm_at_nil
theorem ro_Mo_give : mm_RtOk prog_7_method_16_code (none) rt_Mo_give :=
  mm_rt_cons (Or.inl ⟨rfl, rfl, by decide +kernel⟩) <|
  mm_rt_cons (Or.inl ⟨rfl, rfl, by decide +kernel⟩) <|
  mm_rt_nil
set_option maxRecDepth 100000 in
set_option maxHeartbeats 4000000 in
theorem po_Mo_take (hS : mm_Sound ct_GW ct_NW D ct_cl (ct_tys cA) ad cA ct_K ct_kd ct_N l ct_T (mm_rm d) S) : ∀ pc f, mm_at pg_Mo_take pc = some f → mm_Ok ct_GW ct_NW D ct_cl (ct_tys cA) ad cA ct_K ct_kd ct_N l (mm_rm (d + 1)) "CraneTurnsModel" prog_7_method_17_code 3 S pc f :=
  mm_at_cons (ok_aload_n (k := 0) (by decide +kernel) rfl) <|
  mm_at_cons (ok_iload_n (k := 1) (by decide +kernel) rfl) <|
  mm_at_cons (ok_callV (z := 37) (ci := 5) (idx := 73) rfl hS ⟨rfl, rfl⟩ (mm_rmok (by decide)) rfl ct_good ww_198 (mm_4 ww_199 ww_200 sel_37 ww_172) (by decide +kernel) (by decide +kernel)) <|
  mm_at_cons (ok_if_ne (off := 7) (by decide +kernel) (by decide)) <|
  mm_at_cons (ok_iconst (n := 1) (by decide +kernel) (by decide)) <|
  mm_at_cons (ok_goto (off := 4) (by decide +kernel) (by decide)) <|
  mm_at_cons (ok_iconst (n := 0) (by decide +kernel) (by decide)) <|
  mm_at_cons (ok_istore_n (k := 2) (by decide +kernel) rfl) <|
  mm_at_cons (ok_aload_n (k := 0) (by decide +kernel) rfl) <|
  mm_at_cons (ok_iload_n (k := 2) (by decide +kernel) rfl) <|
  mm_at_cons (ok_iload_n (k := 2) (by decide +kernel) rfl) <|
  mm_at_cons (ok_if_ne (off := 17) (by decide +kernel) (by decide)) <|
  mm_at_cons (ok_aload_n (k := 0) (by decide +kernel) rfl) <|
  mm_at_cons (ok_iload_n (k := 1) (by decide +kernel) rfl) <|
  mm_at_cons (ok_iconst (n := 3) (by decide +kernel) (by decide)) <|
  mm_at_cons (ok_callV (z := 40) (ci := 5) (idx := 70) rfl hS ⟨rfl, rfl⟩ (mm_rmok (by decide)) rfl ct_good ww_195 (mm_4 ww_196 ww_197 sel_40 ww_172) (by decide +kernel) (by decide +kernel)) <|
  mm_at_cons (ok_iconst (n := 1) (by decide +kernel) (by decide)) <|
  mm_at_cons (ok_icmp_eq (off := 7) (by decide +kernel) (by decide)) <|
  mm_at_cons (ok_iconst (n := 1) (by decide +kernel) (by decide)) <|
  mm_at_cons (ok_goto (off := 4) (by decide +kernel) (by decide)) <|
  mm_at_cons (ok_iconst (n := 0) (by decide +kernel) (by decide)) <|
  mm_at_cons (ok_iconst (n := 0) (by decide +kernel) (by decide)) <|
  mm_at_cons (ok_iconst (n := 0) (by decide +kernel) (by decide)) <|
  mm_at_cons (ok_callV (z := 34) (ci := 5) (idx := 42) rfl hS ⟨rfl, rfl⟩ (mm_rmok (by decide)) rfl ct_good ww_175 (mm_4 ww_176 ww_177 sel_34 ww_172) (by decide +kernel) (by decide +kernel)) <|
  mm_at_cons (ok_if_eq (off := 4) (by decide +kernel) (by decide)) <|
  mm_at_cons (ok_aload_n (k := 0) (by decide +kernel) rfl) <|
  mm_at_cons (ok_iload_n (k := 1) (by decide +kernel) rfl) <|
  mm_at_cons (ok_iconst (n := 3) (by decide +kernel) (by decide)) <|
  mm_at_cons (ok_iconst (n := 0) (by decide +kernel) (by decide)) <|
  mm_at_cons (ok_callV (z := 41) (ci := 5) (idx := 67) rfl hS ⟨rfl, rfl⟩ (mm_rmok (by decide)) rfl ct_good ww_192 (mm_4 ww_193 ww_194 sel_41 ww_172) (by decide +kernel) (by decide +kernel)) <|
  mm_at_cons (ok_aload_n (k := 0) (by decide +kernel) rfl) <|
  mm_at_cons (ok_iload_n (k := 1) (by decide +kernel) rfl) <|
  mm_at_cons (ok_iconst (n := 4) (by decide +kernel) (by decide)) <|
  mm_at_cons (ok_iconst (n := (-1)) (by decide +kernel) (by decide)) <|
  mm_at_cons (ok_callV (z := 41) (ci := 5) (idx := 67) rfl hS ⟨rfl, rfl⟩ (mm_rmok (by decide)) rfl ct_good ww_192 (mm_4 ww_193 ww_194 sel_41 ww_172) (by decide +kernel) (by decide +kernel)) <|
  mm_at_nil
theorem ro_Mo_take : mm_RtOk prog_7_method_17_code (none) rt_Mo_take :=
  mm_rt_cons (Or.inl ⟨rfl, rfl, by decide +kernel⟩) <|
  mm_rt_cons (Or.inl ⟨rfl, rfl, by decide +kernel⟩) <|
  mm_rt_nil
set_option maxRecDepth 100000 in
set_option maxHeartbeats 4000000 in
theorem po_Mo_broken (hS : mm_Sound ct_GW ct_NW D ct_cl (ct_tys cA) ad cA ct_K ct_kd ct_N l ct_T (mm_rm d) S) : ∀ pc f, mm_at pg_Mo_broken pc = some f → mm_Ok ct_GW ct_NW D ct_cl (ct_tys cA) ad cA ct_K ct_kd ct_N l (mm_rm (d + 1)) "CraneTurnsModel" prog_7_method_18_code 4 S pc f :=
  mm_at_cons (ok_aload_n (k := 0) (by decide +kernel) rfl) <|
  mm_at_cons (ok_iload_n (k := 1) (by decide +kernel) rfl) <|
  mm_at_cons (ok_callV (z := 36) (ci := 5) (idx := 59) rfl hS ⟨rfl, rfl⟩ (mm_rmok (by decide)) rfl ct_good ww_185 (mm_4 ww_186 ww_187 sel_36 ww_172) (by decide +kernel) (by decide +kernel)) <|
  mm_at_cons (ok_if_ne (off := 7) (by decide +kernel) (by decide)) <|
  mm_at_cons (ok_iconst (n := 1) (by decide +kernel) (by decide)) <|
  mm_at_cons (ok_goto (off := 4) (by decide +kernel) (by decide)) <|
  mm_at_cons (ok_iconst (n := 0) (by decide +kernel) (by decide)) <|
  mm_at_cons (ok_istore_n (k := 3) (by decide +kernel) rfl) <|
  mm_at_cons (ok_aload_n (k := 0) (by decide +kernel) rfl) <|
  mm_at_cons (ok_iload_n (k := 3) (by decide +kernel) rfl) <|
  mm_at_cons (ok_iload_n (k := 3) (by decide +kernel) rfl) <|
  mm_at_cons (ok_if_ne (off := 26) (by decide +kernel) (by decide)) <|
  mm_at_cons (ok_aload_n (k := 0) (by decide +kernel) rfl) <|
  mm_at_cons (ok_iload_n (k := 1) (by decide +kernel) rfl) <|
  mm_at_cons (ok_bipush (n := 8) (by decide +kernel) (by decide)) <|
  mm_at_cons (ok_callV (z := 38) (ci := 5) (idx := 63) rfl hS ⟨rfl, rfl⟩ (mm_rmok (by decide)) rfl ct_good ww_188 (mm_4 ww_189 ww_190 sel_38 ww_172) (by decide +kernel) (by decide +kernel)) <|
  mm_at_cons (ok_iload_n (k := 2) (by decide +kernel) rfl) <|
  mm_at_cons (ok_if_eq (off := 7) (by decide +kernel) (by decide)) <|
  mm_at_cons (ok_iconst (n := 1) (by decide +kernel) (by decide)) <|
  mm_at_cons (ok_goto (off := 4) (by decide +kernel) (by decide)) <|
  mm_at_cons (ok_iconst (n := 0) (by decide +kernel) (by decide)) <|
  mm_at_cons (ok_icmp_ne (off := 7) (by decide +kernel) (by decide)) <|
  mm_at_cons (ok_iconst (n := 1) (by decide +kernel) (by decide)) <|
  mm_at_cons (ok_goto (off := 4) (by decide +kernel) (by decide)) <|
  mm_at_cons (ok_iconst (n := 0) (by decide +kernel) (by decide)) <|
  mm_at_cons (ok_iconst (n := 0) (by decide +kernel) (by decide)) <|
  mm_at_cons (ok_iconst (n := 0) (by decide +kernel) (by decide)) <|
  mm_at_cons (ok_callV (z := 34) (ci := 5) (idx := 42) rfl hS ⟨rfl, rfl⟩ (mm_rmok (by decide)) rfl ct_good ww_175 (mm_4 ww_176 ww_177 sel_34 ww_172) (by decide +kernel) (by decide +kernel)) <|
  mm_at_cons (ok_if_eq (off := 4) (by decide +kernel) (by decide)) <|
  mm_at_cons (ok_aload_n (k := 0) (by decide +kernel) rfl) <|
  mm_at_cons (ok_iload_n (k := 1) (by decide +kernel) rfl) <|
  mm_at_cons (ok_bipush (n := 8) (by decide +kernel) (by decide)) <|
  mm_at_cons (ok_iload_n (k := 2) (by decide +kernel) rfl) <|
  mm_at_cons (ok_if_eq (off := 7) (by decide +kernel) (by decide)) <|
  mm_at_cons (ok_iconst (n := 1) (by decide +kernel) (by decide)) <|
  mm_at_cons (ok_goto (off := 4) (by decide +kernel) (by decide)) <|
  mm_at_cons (ok_iconst (n := 0) (by decide +kernel) (by decide)) <|
  mm_at_cons (ok_callV (z := 39) (ci := 5) (idx := 55) rfl hS ⟨rfl, rfl⟩ (mm_rmok (by decide)) rfl ct_good ww_181 (mm_4 ww_182 ww_183 sel_39 ww_172) (by decide +kernel) (by decide +kernel)) <|
  mm_at_nil
theorem ro_Mo_broken : mm_RtOk prog_7_method_18_code (none) rt_Mo_broken :=
  mm_rt_cons (Or.inl ⟨rfl, rfl, by decide +kernel⟩) <|
  mm_rt_cons (Or.inl ⟨rfl, rfl, by decide +kernel⟩) <|
  mm_rt_nil
set_option maxRecDepth 100000 in
set_option maxHeartbeats 4000000 in
theorem po_Mo_firstOf (hS : mm_Sound ct_GW ct_NW D ct_cl (ct_tys cA) ad cA ct_K ct_kd ct_N l ct_T (mm_rm d) S) : ∀ pc f, mm_at pg_Mo_firstOf pc = some f → mm_Ok ct_GW ct_NW D ct_cl (ct_tys cA) ad cA ct_K ct_kd ct_N l (mm_rm (d + 1)) "CraneTurnsModel" prog_7_method_19_code 5 S pc f :=
  mm_at_cons (ok_iconst (n := (-1)) (by decide +kernel) (by decide)) <|
  mm_at_cons (ok_istore_n (k := 2) (by decide +kernel) rfl) <|
  mm_at_cons (ok_iconst (n := 0) (by decide +kernel) (by decide)) <|
  mm_at_cons (ok_istore_n (k := 3) (by decide +kernel) rfl) <|
  mm_at_cons (ok_iload_n (k := 3) (by decide +kernel) rfl) <|
  mm_at_cons (ok_aload_n (k := 0) (by decide +kernel) rfl) <|
  mm_at_cons (ok_getf (ci := 5) (k := 5) (idx := 39) rfl ct_in5 (by decide) ww_173 rfl rfl (by decide +kernel)) <|
  mm_at_cons (ok_icmp_ge (off := 64) (by decide +kernel) (by decide)) <|
  mm_at_cons (ok_aload_n (k := 0) (by decide +kernel) rfl) <|
  mm_at_cons (ok_iload_n (k := 3) (by decide +kernel) rfl) <|
  mm_at_cons (ok_iconst (n := 3) (by decide +kernel) (by decide)) <|
  mm_at_cons (ok_callV (z := 40) (ci := 5) (idx := 70) rfl hS ⟨rfl, rfl⟩ (mm_rmok (by decide)) rfl ct_good ww_195 (mm_4 ww_196 ww_197 sel_40 ww_172) (by decide +kernel) (by decide +kernel)) <|
  mm_at_cons (ok_iconst (n := 1) (by decide +kernel) (by decide)) <|
  mm_at_cons (ok_icmp_ne (off := 17) (by decide +kernel) (by decide)) <|
  mm_at_cons (ok_aload_n (k := 0) (by decide +kernel) rfl) <|
  mm_at_cons (ok_iload_n (k := 3) (by decide +kernel) rfl) <|
  mm_at_cons (ok_iconst (n := 4) (by decide +kernel) (by decide)) <|
  mm_at_cons (ok_callV (z := 40) (ci := 5) (idx := 70) rfl hS ⟨rfl, rfl⟩ (mm_rmok (by decide)) rfl ct_good ww_195 (mm_4 ww_196 ww_197 sel_40 ww_172) (by decide +kernel) (by decide +kernel)) <|
  mm_at_cons (ok_iload_n (k := 1) (by decide +kernel) rfl) <|
  mm_at_cons (ok_icmp_ne (off := 7) (by decide +kernel) (by decide)) <|
  mm_at_cons (ok_iconst (n := 1) (by decide +kernel) (by decide)) <|
  mm_at_cons (ok_goto (off := 4) (by decide +kernel) (by decide)) <|
  mm_at_cons (ok_iconst (n := 0) (by decide +kernel) (by decide)) <|
  mm_at_cons (ok_istore (by decide +kernel)) <|
  mm_at_cons (ok_iload (by decide +kernel)) <|
  mm_at_cons (ok_if_eq (off := 26) (by decide +kernel) (by decide)) <|
  mm_at_cons (ok_iload_n (k := 2) (by decide +kernel) rfl) <|
  mm_at_cons (ok_if_lt (off := 20) (by decide +kernel) (by decide)) <|
  mm_at_cons (ok_aload_n (k := 0) (by decide +kernel) rfl) <|
  mm_at_cons (ok_iload_n (k := 3) (by decide +kernel) rfl) <|
  mm_at_cons (ok_bipush (n := 6) (by decide +kernel) (by decide)) <|
  mm_at_cons (ok_callV (z := 40) (ci := 5) (idx := 70) rfl hS ⟨rfl, rfl⟩ (mm_rmok (by decide)) rfl ct_good ww_195 (mm_4 ww_196 ww_197 sel_40 ww_172) (by decide +kernel) (by decide +kernel)) <|
  mm_at_cons (ok_aload_n (k := 0) (by decide +kernel) rfl) <|
  mm_at_cons (ok_iload_n (k := 2) (by decide +kernel) rfl) <|
  mm_at_cons (ok_bipush (n := 6) (by decide +kernel) (by decide)) <|
  mm_at_cons (ok_callV (z := 40) (ci := 5) (idx := 70) rfl hS ⟨rfl, rfl⟩ (mm_rmok (by decide)) rfl ct_good ww_195 (mm_4 ww_196 ww_197 sel_40 ww_172) (by decide +kernel) (by decide +kernel)) <|
  mm_at_cons (ok_icmp_ge (off := 5) (by decide +kernel) (by decide)) <|
  mm_at_cons (ok_iload_n (k := 3) (by decide +kernel) rfl) <|
  mm_at_cons (ok_istore_n (k := 2) (by decide +kernel) rfl) <|
  mm_at_cons (ok_iinc (n := 1) (by decide +kernel) (by decide)) <|
  mm_at_cons (ok_goto (off := (-66)) (by decide +kernel) (by decide)) <|
  mm_at_cons (ok_iload_n (k := 2) (by decide +kernel) rfl) <|
  mm_at_nil
theorem ro_Mo_firstOf : mm_RtOk prog_7_method_19_code (some .int) rt_Mo_firstOf :=
  mm_rt_cons (Or.inr (Or.inl ⟨rfl, rfl, by decide +kernel⟩)) <|
  mm_rt_nil
set_option maxRecDepth 100000 in
set_option maxHeartbeats 4000000 in
theorem po_Mo_hasGoal (hS : mm_Sound ct_GW ct_NW D ct_cl (ct_tys cA) ad cA ct_K ct_kd ct_N l ct_T (mm_rm d) S) : ∀ pc f, mm_at pg_Mo_hasGoal pc = some f → mm_Ok ct_GW ct_NW D ct_cl (ct_tys cA) ad cA ct_K ct_kd ct_N l (mm_rm (d + 1)) "CraneTurnsModel" prog_7_method_20_code 2 S pc f :=
  mm_at_cons (ok_aload_n (k := 0) (by decide +kernel) rfl) <|
  mm_at_cons (ok_iload_n (k := 1) (by decide +kernel) rfl) <|
  mm_at_cons (ok_iconst (n := 1) (by decide +kernel) (by decide)) <|
  mm_at_cons (ok_callV (z := 38) (ci := 5) (idx := 63) rfl hS ⟨rfl, rfl⟩ (mm_rmok (by decide)) rfl ct_good ww_188 (mm_4 ww_189 ww_190 sel_38 ww_172) (by decide +kernel) (by decide +kernel)) <|
  mm_at_cons (ok_iconst (n := 1) (by decide +kernel) (by decide)) <|
  mm_at_cons (ok_icmp_eq (off := 13) (by decide +kernel) (by decide)) <|
  mm_at_cons (ok_aload_n (k := 0) (by decide +kernel) rfl) <|
  mm_at_cons (ok_iload_n (k := 1) (by decide +kernel) rfl) <|
  mm_at_cons (ok_iconst (n := 1) (by decide +kernel) (by decide)) <|
  mm_at_cons (ok_callV (z := 38) (ci := 5) (idx := 63) rfl hS ⟨rfl, rfl⟩ (mm_rmok (by decide)) rfl ct_good ww_188 (mm_4 ww_189 ww_190 sel_38 ww_172) (by decide +kernel) (by decide +kernel)) <|
  mm_at_cons (ok_iconst (n := 3) (by decide +kernel) (by decide)) <|
  mm_at_cons (ok_icmp_ne (off := 7) (by decide +kernel) (by decide)) <|
  mm_at_cons (ok_iconst (n := 1) (by decide +kernel) (by decide)) <|
  mm_at_cons (ok_goto (off := 4) (by decide +kernel) (by decide)) <|
  mm_at_cons (ok_iconst (n := 0) (by decide +kernel) (by decide)) <|
  mm_at_nil
theorem ro_Mo_hasGoal : mm_RtOk prog_7_method_20_code (some .boolean) rt_Mo_hasGoal :=
  mm_rt_cons (Or.inr (Or.inr ⟨rfl, rfl, by decide +kernel⟩)) <|
  mm_rt_nil
set_option maxRecDepth 100000 in
set_option maxHeartbeats 4000000 in
theorem po_Mo_goalOf (hS : mm_Sound ct_GW ct_NW D ct_cl (ct_tys cA) ad cA ct_K ct_kd ct_N l ct_T (mm_rm d) S) : ∀ pc f, mm_at pg_Mo_goalOf pc = some f → mm_Ok ct_GW ct_NW D ct_cl (ct_tys cA) ad cA ct_K ct_kd ct_N l (mm_rm (d + 1)) "CraneTurnsModel" prog_7_method_21_code 2 S pc f :=
  mm_at_cons (ok_aload_n (k := 0) (by decide +kernel) rfl) <|
  mm_at_cons (ok_aload_n (k := 0) (by decide +kernel) rfl) <|
  mm_at_cons (ok_iload_n (k := 1) (by decide +kernel) rfl) <|
  mm_at_cons (ok_iconst (n := 2) (by decide +kernel) (by decide)) <|
  mm_at_cons (ok_callV (z := 38) (ci := 5) (idx := 63) rfl hS ⟨rfl, rfl⟩ (mm_rmok (by decide)) rfl ct_good ww_188 (mm_4 ww_189 ww_190 sel_38 ww_172) (by decide +kernel) (by decide +kernel)) <|
  mm_at_cons (ok_aload_n (k := 0) (by decide +kernel) rfl) <|
  mm_at_cons (ok_iload_n (k := 1) (by decide +kernel) rfl) <|
  mm_at_cons (ok_iconst (n := 1) (by decide +kernel) (by decide)) <|
  mm_at_cons (ok_callV (z := 38) (ci := 5) (idx := 63) rfl hS ⟨rfl, rfl⟩ (mm_rmok (by decide)) rfl ct_good ww_188 (mm_4 ww_189 ww_190 sel_38 ww_172) (by decide +kernel) (by decide +kernel)) <|
  mm_at_cons (ok_iconst (n := 1) (by decide +kernel) (by decide)) <|
  mm_at_cons (ok_icmp_ne (off := 7) (by decide +kernel) (by decide)) <|
  mm_at_cons (ok_iconst (n := 0) (by decide +kernel) (by decide)) <|
  mm_at_cons (ok_goto (off := 4) (by decide +kernel) (by decide)) <|
  mm_at_cons (ok_iconst (n := 1) (by decide +kernel) (by decide)) <|
  mm_at_cons (ok_callV (z := 40) (ci := 5) (idx := 70) rfl hS ⟨rfl, rfl⟩ (mm_rmok (by decide)) rfl ct_good ww_195 (mm_4 ww_196 ww_197 sel_40 ww_172) (by decide +kernel) (by decide +kernel)) <|
  mm_at_nil
theorem ro_Mo_goalOf : mm_RtOk prog_7_method_21_code (some .int) rt_Mo_goalOf :=
  mm_rt_cons (Or.inr (Or.inl ⟨rfl, rfl, by decide +kernel⟩)) <|
  mm_rt_nil
set_option maxRecDepth 100000 in
set_option maxHeartbeats 4000000 in
theorem po_Mo_begins (hS : mm_Sound ct_GW ct_NW D ct_cl (ct_tys cA) ad cA ct_K ct_kd ct_N l ct_T (mm_rm d) S) : ∀ pc f, mm_at pg_Mo_begins pc = some f → mm_Ok ct_GW ct_NW D ct_cl (ct_tys cA) ad cA ct_K ct_kd ct_N l (mm_rm (d + 1)) "CraneTurnsModel" prog_7_method_22_code 3 S pc f :=
  mm_at_cons (ok_aload_n (k := 0) (by decide +kernel) rfl) <|
  mm_at_cons (ok_iload_n (k := 1) (by decide +kernel) rfl) <|
  mm_at_cons (ok_iconst (n := 1) (by decide +kernel) (by decide)) <|
  mm_at_cons (ok_iload_n (k := 2) (by decide +kernel) rfl) <|
  mm_at_cons (ok_callV (z := 39) (ci := 5) (idx := 55) rfl hS ⟨rfl, rfl⟩ (mm_rmok (by decide)) rfl ct_good ww_181 (mm_4 ww_182 ww_183 sel_39 ww_172) (by decide +kernel) (by decide +kernel)) <|
  mm_at_cons (ok_aload_n (k := 0) (by decide +kernel) rfl) <|
  mm_at_cons (ok_iload_n (k := 1) (by decide +kernel) rfl) <|
  mm_at_cons (ok_iconst (n := 3) (by decide +kernel) (by decide)) <|
  mm_at_cons (ok_aload_n (k := 0) (by decide +kernel) rfl) <|
  mm_at_cons (ok_getf (ci := 5) (k := 4) (idx := 52) rfl ct_in5 (by decide) ww_180 rfl rfl (by decide +kernel)) <|
  mm_at_cons (ok_callV (z := 39) (ci := 5) (idx := 55) rfl hS ⟨rfl, rfl⟩ (mm_rmok (by decide)) rfl ct_good ww_181 (mm_4 ww_182 ww_183 sel_39 ww_172) (by decide +kernel) (by decide +kernel)) <|
  mm_at_nil
theorem ro_Mo_begins : mm_RtOk prog_7_method_22_code (none) rt_Mo_begins :=
  mm_rt_cons (Or.inl ⟨rfl, rfl, by decide +kernel⟩) <|
  mm_rt_nil
set_option maxRecDepth 100000 in
set_option maxHeartbeats 4000000 in
theorem po_Mo_takesJob (hS : mm_Sound ct_GW ct_NW D ct_cl (ct_tys cA) ad cA ct_K ct_kd ct_N l ct_T (mm_rm d) S) : ∀ pc f, mm_at pg_Mo_takesJob pc = some f → mm_Ok ct_GW ct_NW D ct_cl (ct_tys cA) ad cA ct_K ct_kd ct_N l (mm_rm (d + 1)) "CraneTurnsModel" prog_7_method_23_code 3 S pc f :=
  mm_at_cons (ok_aload_n (k := 0) (by decide +kernel) rfl) <|
  mm_at_cons (ok_iload_n (k := 1) (by decide +kernel) rfl) <|
  mm_at_cons (ok_callV (z := 50) (ci := 5) (idx := 84) rfl hS ⟨rfl, rfl⟩ (mm_rmok (by decide)) rfl ct_good ww_207 (mm_4 ww_208 ww_209 sel_50 ww_172) (by decide +kernel) (by decide +kernel)) <|
  mm_at_cons (ok_istore_n (k := 2) (by decide +kernel) rfl) <|
  mm_at_cons (ok_iload_n (k := 2) (by decide +kernel) rfl) <|
  mm_at_cons (ok_if_lt (off := 18) (by decide +kernel) (by decide)) <|
  mm_at_cons (ok_aload_n (k := 0) (by decide +kernel) rfl) <|
  mm_at_cons (ok_getr (ck := 13) (off := 3) (ci := 5) (k := 8) (idx := 16) rfl ct_in5 (by decide) ww_174 rfl rfl (by decide +kernel)) <|
  mm_at_cons (ok_iconst (n := 0) (by decide +kernel) (by decide)) <|
  mm_at_cons (ok_iald (t9 := 0) (by decide) rfl rfl (by decide +kernel)) <|
  mm_at_cons (ok_aload_n (k := 0) (by decide +kernel) rfl) <|
  mm_at_cons (ok_iload_n (k := 2) (by decide +kernel) rfl) <|
  mm_at_cons (ok_iconst (n := 2) (by decide +kernel) (by decide)) <|
  mm_at_cons (ok_callV (z := 40) (ci := 5) (idx := 70) rfl hS ⟨rfl, rfl⟩ (mm_rmok (by decide)) rfl ct_good ww_195 (mm_4 ww_196 ww_197 sel_40 ww_172) (by decide +kernel) (by decide +kernel)) <|
  mm_at_cons (ok_icmp_ge (off := 4) (by decide +kernel) (by decide)) <|
  mm_at_cons (ok_aload_n (k := 0) (by decide +kernel) rfl) <|
  mm_at_cons (ok_iload_n (k := 2) (by decide +kernel) rfl) <|
  mm_at_cons (ok_iconst (n := 3) (by decide +kernel) (by decide)) <|
  mm_at_cons (ok_iconst (n := 2) (by decide +kernel) (by decide)) <|
  mm_at_cons (ok_callV (z := 41) (ci := 5) (idx := 67) rfl hS ⟨rfl, rfl⟩ (mm_rmok (by decide)) rfl ct_good ww_192 (mm_4 ww_193 ww_194 sel_41 ww_172) (by decide +kernel) (by decide +kernel)) <|
  mm_at_cons (ok_aload_n (k := 0) (by decide +kernel) rfl) <|
  mm_at_cons (ok_iload_n (k := 1) (by decide +kernel) rfl) <|
  mm_at_cons (ok_iconst (n := 2) (by decide +kernel) (by decide)) <|
  mm_at_cons (ok_iload_n (k := 2) (by decide +kernel) rfl) <|
  mm_at_cons (ok_callV (z := 39) (ci := 5) (idx := 55) rfl hS ⟨rfl, rfl⟩ (mm_rmok (by decide)) rfl ct_good ww_181 (mm_4 ww_182 ww_183 sel_39 ww_172) (by decide +kernel) (by decide +kernel)) <|
  mm_at_cons (ok_aload_n (k := 0) (by decide +kernel) rfl) <|
  mm_at_cons (ok_iload_n (k := 1) (by decide +kernel) rfl) <|
  mm_at_cons (ok_iconst (n := 0) (by decide +kernel) (by decide)) <|
  mm_at_cons (ok_callV (z := 38) (ci := 5) (idx := 63) rfl hS ⟨rfl, rfl⟩ (mm_rmok (by decide)) rfl ct_good ww_188 (mm_4 ww_189 ww_190 sel_38 ww_172) (by decide +kernel) (by decide +kernel)) <|
  mm_at_cons (ok_aload_n (k := 0) (by decide +kernel) rfl) <|
  mm_at_cons (ok_iload_n (k := 2) (by decide +kernel) rfl) <|
  mm_at_cons (ok_iconst (n := 0) (by decide +kernel) (by decide)) <|
  mm_at_cons (ok_callV (z := 40) (ci := 5) (idx := 70) rfl hS ⟨rfl, rfl⟩ (mm_rmok (by decide)) rfl ct_good ww_195 (mm_4 ww_196 ww_197 sel_40 ww_172) (by decide +kernel) (by decide +kernel)) <|
  mm_at_cons (ok_icmp_ne (off := 12) (by decide +kernel) (by decide)) <|
  mm_at_cons (ok_aload_n (k := 0) (by decide +kernel) rfl) <|
  mm_at_cons (ok_iload_n (k := 1) (by decide +kernel) rfl) <|
  mm_at_cons (ok_iconst (n := 2) (by decide +kernel) (by decide)) <|
  mm_at_cons (ok_callV (z := 53) (ci := 5) (idx := 88) rfl hS ⟨rfl, rfl⟩ (mm_rmok (by decide)) rfl ct_good ww_210 (mm_4 ww_211 ww_212 sel_53 ww_172) (by decide +kernel) (by decide +kernel)) <|
  mm_at_cons (ok_goto (off := 10) (by decide +kernel) (by decide)) <|
  mm_at_cons (ok_aload_n (k := 0) (by decide +kernel) rfl) <|
  mm_at_cons (ok_iload_n (k := 1) (by decide +kernel) rfl) <|
  mm_at_cons (ok_iconst (n := 1) (by decide +kernel) (by decide)) <|
  mm_at_cons (ok_iconst (n := 1) (by decide +kernel) (by decide)) <|
  mm_at_cons (ok_callV (z := 39) (ci := 5) (idx := 55) rfl hS ⟨rfl, rfl⟩ (mm_rmok (by decide)) rfl ct_good ww_181 (mm_4 ww_182 ww_183 sel_39 ww_172) (by decide +kernel) (by decide +kernel)) <|
  mm_at_nil
theorem ro_Mo_takesJob : mm_RtOk prog_7_method_23_code (none) rt_Mo_takesJob :=
  mm_rt_cons (Or.inl ⟨rfl, rfl, by decide +kernel⟩) <|
  mm_rt_cons (Or.inl ⟨rfl, rfl, by decide +kernel⟩) <|
  mm_rt_nil
set_option maxRecDepth 100000 in
set_option maxHeartbeats 4000000 in
theorem po_Mo_goes (hS : mm_Sound ct_GW ct_NW D ct_cl (ct_tys cA) ad cA ct_K ct_kd ct_N l ct_T (mm_rm d) S) : ∀ pc f, mm_at pg_Mo_goes pc = some f → mm_Ok ct_GW ct_NW D ct_cl (ct_tys cA) ad cA ct_K ct_kd ct_N l (mm_rm (d + 1)) "CraneTurnsModel" prog_7_method_24_code 5 S pc f :=
  mm_at_cons (ok_aload_n (k := 0) (by decide +kernel) rfl) <|
  mm_at_cons (ok_iload_n (k := 1) (by decide +kernel) rfl) <|
  mm_at_cons (ok_iconst (n := 0) (by decide +kernel) (by decide)) <|
  mm_at_cons (ok_callV (z := 38) (ci := 5) (idx := 63) rfl hS ⟨rfl, rfl⟩ (mm_rmok (by decide)) rfl ct_good ww_188 (mm_4 ww_189 ww_190 sel_38 ww_172) (by decide +kernel) (by decide +kernel)) <|
  mm_at_cons (ok_istore_n (k := 3) (by decide +kernel) rfl) <|
  mm_at_cons (ok_iload_n (k := 3) (by decide +kernel) rfl) <|
  mm_at_cons (ok_istore (by decide +kernel)) <|
  mm_at_cons (ok_iload_n (k := 2) (by decide +kernel) rfl) <|
  mm_at_cons (ok_iload_n (k := 3) (by decide +kernel) rfl) <|
  mm_at_cons (ok_icmp_le (off := 85) (by decide +kernel) (by decide)) <|
  mm_at_cons (ok_iload_n (k := 2) (by decide +kernel) rfl) <|
  mm_at_cons (ok_iload_n (k := 3) (by decide +kernel) rfl) <|
  mm_at_cons (ok_aload_n (k := 0) (by decide +kernel) rfl) <|
  mm_at_cons (ok_getf (ci := 5) (k := 3) (idx := 49) rfl ct_in5 (by decide) ww_179 rfl rfl (by decide +kernel)) <|
  mm_at_cons (ok_iadd (by decide +kernel)) <|
  mm_at_cons (ok_icmp_ge (off := 7) (by decide +kernel) (by decide)) <|
  mm_at_cons (ok_iload_n (k := 2) (by decide +kernel) rfl) <|
  mm_at_cons (ok_goto (off := 9) (by decide +kernel) (by decide)) <|
  mm_at_cons (ok_iload_n (k := 3) (by decide +kernel) rfl) <|
  mm_at_cons (ok_aload_n (k := 0) (by decide +kernel) rfl) <|
  mm_at_cons (ok_getf (ci := 5) (k := 3) (idx := 49) rfl ct_in5 (by decide) ww_179 rfl rfl (by decide +kernel)) <|
  mm_at_cons (ok_iadd (by decide +kernel)) <|
  mm_at_cons (ok_istore (by decide +kernel)) <|
  mm_at_cons (ok_iload_n (k := 1) (by decide +kernel) rfl) <|
  mm_at_cons (ok_iconst (n := 1) (by decide +kernel) (by decide)) <|
  mm_at_cons (ok_iadd (by decide +kernel)) <|
  mm_at_cons (ok_aload_n (k := 0) (by decide +kernel) rfl) <|
  mm_at_cons (ok_getf (ci := 5) (k := 1) (idx := 32) rfl ct_in5 (by decide) ww_168 rfl rfl (by decide +kernel)) <|
  mm_at_cons (ok_icmp_ge (off := 36) (by decide +kernel) (by decide)) <|
  mm_at_cons (ok_iload (by decide +kernel)) <|
  mm_at_cons (ok_aload_n (k := 0) (by decide +kernel) rfl) <|
  mm_at_cons (ok_iload_n (k := 1) (by decide +kernel) rfl) <|
  mm_at_cons (ok_iconst (n := 1) (by decide +kernel) (by decide)) <|
  mm_at_cons (ok_iadd (by decide +kernel)) <|
  mm_at_cons (ok_iconst (n := 0) (by decide +kernel) (by decide)) <|
  mm_at_cons (ok_callV (z := 38) (ci := 5) (idx := 63) rfl hS ⟨rfl, rfl⟩ (mm_rmok (by decide)) rfl ct_good ww_188 (mm_4 ww_189 ww_190 sel_38 ww_172) (by decide +kernel) (by decide +kernel)) <|
  mm_at_cons (ok_aload_n (k := 0) (by decide +kernel) rfl) <|
  mm_at_cons (ok_getf (ci := 5) (k := 2) (idx := 46) rfl ct_in5 (by decide) ww_178 rfl rfl (by decide +kernel)) <|
  mm_at_cons (ok_isub (by decide +kernel)) <|
  mm_at_cons (ok_icmp_le (off := 18) (by decide +kernel) (by decide)) <|
  mm_at_cons (ok_aload_n (k := 0) (by decide +kernel) rfl) <|
  mm_at_cons (ok_iload_n (k := 1) (by decide +kernel) rfl) <|
  mm_at_cons (ok_iconst (n := 1) (by decide +kernel) (by decide)) <|
  mm_at_cons (ok_iadd (by decide +kernel)) <|
  mm_at_cons (ok_iconst (n := 0) (by decide +kernel) (by decide)) <|
  mm_at_cons (ok_callV (z := 38) (ci := 5) (idx := 63) rfl hS ⟨rfl, rfl⟩ (mm_rmok (by decide)) rfl ct_good ww_188 (mm_4 ww_189 ww_190 sel_38 ww_172) (by decide +kernel) (by decide +kernel)) <|
  mm_at_cons (ok_aload_n (k := 0) (by decide +kernel) rfl) <|
  mm_at_cons (ok_getf (ci := 5) (k := 2) (idx := 46) rfl ct_in5 (by decide) ww_178 rfl rfl (by decide +kernel)) <|
  mm_at_cons (ok_isub (by decide +kernel)) <|
  mm_at_cons (ok_istore (by decide +kernel)) <|
  mm_at_cons (ok_iload (by decide +kernel)) <|
  mm_at_cons (ok_iload_n (k := 3) (by decide +kernel) rfl) <|
  mm_at_cons (ok_icmp_ge (off := 7) (by decide +kernel) (by decide)) <|
  mm_at_cons (ok_iload_n (k := 3) (by decide +kernel) rfl) <|
  mm_at_cons (ok_goto (off := 5) (by decide +kernel) (by decide)) <|
  mm_at_cons (ok_iload (by decide +kernel)) <|
  mm_at_cons (ok_istore (by decide +kernel)) <|
  mm_at_cons (ok_goto (off := 81) (by decide +kernel) (by decide)) <|
  mm_at_cons (ok_iload_n (k := 2) (by decide +kernel) rfl) <|
  mm_at_cons (ok_iload_n (k := 3) (by decide +kernel) rfl) <|
  mm_at_cons (ok_icmp_ge (off := 76) (by decide +kernel) (by decide)) <|
  mm_at_cons (ok_iload_n (k := 2) (by decide +kernel) rfl) <|
  mm_at_cons (ok_iload_n (k := 3) (by decide +kernel) rfl) <|
  mm_at_cons (ok_aload_n (k := 0) (by decide +kernel) rfl) <|
  mm_at_cons (ok_getf (ci := 5) (k := 3) (idx := 49) rfl ct_in5 (by decide) ww_179 rfl rfl (by decide +kernel)) <|
  mm_at_cons (ok_isub (by decide +kernel)) <|
  mm_at_cons (ok_icmp_le (off := 7) (by decide +kernel) (by decide)) <|
  mm_at_cons (ok_iload_n (k := 2) (by decide +kernel) rfl) <|
  mm_at_cons (ok_goto (off := 9) (by decide +kernel) (by decide)) <|
  mm_at_cons (ok_iload_n (k := 3) (by decide +kernel) rfl) <|
  mm_at_cons (ok_aload_n (k := 0) (by decide +kernel) rfl) <|
  mm_at_cons (ok_getf (ci := 5) (k := 3) (idx := 49) rfl ct_in5 (by decide) ww_179 rfl rfl (by decide +kernel)) <|
  mm_at_cons (ok_isub (by decide +kernel)) <|
  mm_at_cons (ok_istore (by decide +kernel)) <|
  mm_at_cons (ok_iload_n (k := 1) (by decide +kernel) rfl) <|
  mm_at_cons (ok_if_le (off := 36) (by decide +kernel) (by decide)) <|
  mm_at_cons (ok_iload (by decide +kernel)) <|
  mm_at_cons (ok_aload_n (k := 0) (by decide +kernel) rfl) <|
  mm_at_cons (ok_iload_n (k := 1) (by decide +kernel) rfl) <|
  mm_at_cons (ok_iconst (n := 1) (by decide +kernel) (by decide)) <|
  mm_at_cons (ok_isub (by decide +kernel)) <|
  mm_at_cons (ok_iconst (n := 0) (by decide +kernel) (by decide)) <|
  mm_at_cons (ok_callV (z := 38) (ci := 5) (idx := 63) rfl hS ⟨rfl, rfl⟩ (mm_rmok (by decide)) rfl ct_good ww_188 (mm_4 ww_189 ww_190 sel_38 ww_172) (by decide +kernel) (by decide +kernel)) <|
  mm_at_cons (ok_aload_n (k := 0) (by decide +kernel) rfl) <|
  mm_at_cons (ok_getf (ci := 5) (k := 2) (idx := 46) rfl ct_in5 (by decide) ww_178 rfl rfl (by decide +kernel)) <|
  mm_at_cons (ok_iadd (by decide +kernel)) <|
  mm_at_cons (ok_icmp_ge (off := 18) (by decide +kernel) (by decide)) <|
  mm_at_cons (ok_aload_n (k := 0) (by decide +kernel) rfl) <|
  mm_at_cons (ok_iload_n (k := 1) (by decide +kernel) rfl) <|
  mm_at_cons (ok_iconst (n := 1) (by decide +kernel) (by decide)) <|
  mm_at_cons (ok_isub (by decide +kernel)) <|
  mm_at_cons (ok_iconst (n := 0) (by decide +kernel) (by decide)) <|
  mm_at_cons (ok_callV (z := 38) (ci := 5) (idx := 63) rfl hS ⟨rfl, rfl⟩ (mm_rmok (by decide)) rfl ct_good ww_188 (mm_4 ww_189 ww_190 sel_38 ww_172) (by decide +kernel) (by decide +kernel)) <|
  mm_at_cons (ok_aload_n (k := 0) (by decide +kernel) rfl) <|
  mm_at_cons (ok_getf (ci := 5) (k := 2) (idx := 46) rfl ct_in5 (by decide) ww_178 rfl rfl (by decide +kernel)) <|
  mm_at_cons (ok_iadd (by decide +kernel)) <|
  mm_at_cons (ok_istore (by decide +kernel)) <|
  mm_at_cons (ok_iload (by decide +kernel)) <|
  mm_at_cons (ok_iload_n (k := 3) (by decide +kernel) rfl) <|
  mm_at_cons (ok_icmp_le (off := 7) (by decide +kernel) (by decide)) <|
  mm_at_cons (ok_iload_n (k := 3) (by decide +kernel) rfl) <|
  mm_at_cons (ok_goto (off := 5) (by decide +kernel) (by decide)) <|
  mm_at_cons (ok_iload (by decide +kernel)) <|
  mm_at_cons (ok_istore (by decide +kernel)) <|
  mm_at_cons (ok_aload_n (k := 0) (by decide +kernel) rfl) <|
  mm_at_cons (ok_iload_n (k := 1) (by decide +kernel) rfl) <|
  mm_at_cons (ok_iconst (n := 0) (by decide +kernel) (by decide)) <|
  mm_at_cons (ok_iload (by decide +kernel)) <|
  mm_at_cons (ok_callV (z := 39) (ci := 5) (idx := 55) rfl hS ⟨rfl, rfl⟩ (mm_rmok (by decide)) rfl ct_good ww_181 (mm_4 ww_182 ww_183 sel_39 ww_172) (by decide +kernel) (by decide +kernel)) <|
  mm_at_cons (ok_iload (by decide +kernel)) <|
  mm_at_cons (ok_iload_n (k := 3) (by decide +kernel) rfl) <|
  mm_at_cons (ok_icmp_eq (off := 7) (by decide +kernel) (by decide)) <|
  mm_at_cons (ok_iconst (n := 1) (by decide +kernel) (by decide)) <|
  mm_at_cons (ok_goto (off := 4) (by decide +kernel) (by decide)) <|
  mm_at_cons (ok_iconst (n := 0) (by decide +kernel) (by decide)) <|
  mm_at_nil
theorem ro_Mo_goes : mm_RtOk prog_7_method_24_code (some .boolean) rt_Mo_goes :=
  mm_rt_cons (Or.inr (Or.inr ⟨rfl, rfl, by decide +kernel⟩)) <|
  mm_rt_nil
end
