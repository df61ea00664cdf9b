section
variable {D : va_G} {ad : Nat → Nat} {cA : Nat → ClassId} {l : Launch} {d : Nat} {S : mm_S}
set_option maxRecDepth 100000 in
set_option maxHeartbeats 4000000 in
theorem po_Mo_lessToGo (hS : mm_Sound ct_GW ct_NW D ct_cl (ct_tys cA) ad cA ct_K ct_kd ct_N l ct_T (mm_rm d) S) : ∀ pc f, mm_at pg_Mo_lessToGo pc = some f → mm_Ok ct_GW ct_NW D ct_cl (ct_tys cA) ad cA ct_K ct_kd ct_N l (mm_rm (d + 1)) "CraneTurnsModel" prog_7_method_25_code 3 S pc f :=
  mm_at_cons (ok_aload_n (k := 0) (by decide +kernel) rfl) <|
  mm_at_cons (ok_iload_n (k := 1) (by decide +kernel) rfl) <|
  mm_at_cons (ok_iconst (n := 2) (by decide +kernel) (by decide)) <|
  mm_at_cons (ok_callV (z := 38) (ci := 5) (idx := 63) rfl hS ⟨rfl, rfl⟩ (mm_rmok (by decide)) rfl ct_good ww_188 (mm_4 ww_189 ww_190 sel_38 ww_172) (by decide +kernel) (by decide +kernel)) <|
  mm_at_cons (ok_istore_n (k := 2) (by decide +kernel) rfl) <|
  mm_at_cons (ok_aload_n (k := 0) (by decide +kernel) rfl) <|
  mm_at_cons (ok_iload_n (k := 1) (by decide +kernel) rfl) <|
  mm_at_cons (ok_iconst (n := 3) (by decide +kernel) (by decide)) <|
  mm_at_cons (ok_aload_n (k := 0) (by decide +kernel) rfl) <|
  mm_at_cons (ok_iload_n (k := 1) (by decide +kernel) rfl) <|
  mm_at_cons (ok_iconst (n := 3) (by decide +kernel) (by decide)) <|
  mm_at_cons (ok_callV (z := 38) (ci := 5) (idx := 63) rfl hS ⟨rfl, rfl⟩ (mm_rmok (by decide)) rfl ct_good ww_188 (mm_4 ww_189 ww_190 sel_38 ww_172) (by decide +kernel) (by decide +kernel)) <|
  mm_at_cons (ok_iconst (n := 1) (by decide +kernel) (by decide)) <|
  mm_at_cons (ok_isub (by decide +kernel)) <|
  mm_at_cons (ok_callV (z := 39) (ci := 5) (idx := 55) rfl hS ⟨rfl, rfl⟩ (mm_rmok (by decide)) rfl ct_good ww_181 (mm_4 ww_182 ww_183 sel_39 ww_172) (by decide +kernel) (by decide +kernel)) <|
  mm_at_cons (ok_aload_n (k := 0) (by decide +kernel) rfl) <|
  mm_at_cons (ok_iload_n (k := 1) (by decide +kernel) rfl) <|
  mm_at_cons (ok_iconst (n := 3) (by decide +kernel) (by decide)) <|
  mm_at_cons (ok_callV (z := 38) (ci := 5) (idx := 63) rfl hS ⟨rfl, rfl⟩ (mm_rmok (by decide)) rfl ct_good ww_188 (mm_4 ww_189 ww_190 sel_38 ww_172) (by decide +kernel) (by decide +kernel)) <|
  mm_at_cons (ok_if_le (off := 4) (by decide +kernel) (by decide)) <|
  mm_at_cons (ok_aload_n (k := 0) (by decide +kernel) rfl) <|
  mm_at_cons (ok_iload_n (k := 1) (by decide +kernel) rfl) <|
  mm_at_cons (ok_iconst (n := 1) (by decide +kernel) (by decide)) <|
  mm_at_cons (ok_callV (z := 38) (ci := 5) (idx := 63) rfl hS ⟨rfl, rfl⟩ (mm_rmok (by decide)) rfl ct_good ww_188 (mm_4 ww_189 ww_190 sel_38 ww_172) (by decide +kernel) (by decide +kernel)) <|
  mm_at_cons (ok_iconst (n := 2) (by decide +kernel) (by decide)) <|
  mm_at_cons (ok_icmp_ne (off := 35) (by decide +kernel) (by decide)) <|
  mm_at_cons (ok_aload_n (k := 0) (by decide +kernel) rfl) <|
  mm_at_cons (ok_iload_n (k := 1) (by decide +kernel) rfl) <|
  mm_at_cons (ok_iconst (n := 0) (by decide +kernel) (by decide)) <|
  mm_at_cons (ok_callV (z := 38) (ci := 5) (idx := 63) rfl hS ⟨rfl, rfl⟩ (mm_rmok (by decide)) rfl ct_good ww_188 (mm_4 ww_189 ww_190 sel_38 ww_172) (by decide +kernel) (by decide +kernel)) <|
  mm_at_cons (ok_aload_n (k := 0) (by decide +kernel) rfl) <|
  mm_at_cons (ok_iload_n (k := 2) (by decide +kernel) rfl) <|
  mm_at_cons (ok_iconst (n := 1) (by decide +kernel) (by decide)) <|
  mm_at_cons (ok_callV (z := 40) (ci := 5) (idx := 70) rfl hS ⟨rfl, rfl⟩ (mm_rmok (by decide)) rfl ct_good ww_195 (mm_4 ww_196 ww_197 sel_40 ww_172) (by decide +kernel) (by decide +kernel)) <|
  mm_at_cons (ok_icmp_ne (off := 12) (by decide +kernel) (by decide)) <|
  mm_at_cons (ok_aload_n (k := 0) (by decide +kernel) rfl) <|
  mm_at_cons (ok_iload_n (k := 1) (by decide +kernel) rfl) <|
  mm_at_cons (ok_iconst (n := 4) (by decide +kernel) (by decide)) <|
  mm_at_cons (ok_callV (z := 53) (ci := 5) (idx := 88) rfl hS ⟨rfl, rfl⟩ (mm_rmok (by decide)) rfl ct_good ww_210 (mm_4 ww_211 ww_212 sel_53 ww_172) (by decide +kernel) (by decide +kernel)) <|
  mm_at_cons (ok_goto (off := 10) (by decide +kernel) (by decide)) <|
  mm_at_cons (ok_aload_n (k := 0) (by decide +kernel) rfl) <|
  mm_at_cons (ok_iload_n (k := 1) (by decide +kernel) rfl) <|
  mm_at_cons (ok_iconst (n := 1) (by decide +kernel) (by decide)) <|
  mm_at_cons (ok_iconst (n := 3) (by decide +kernel) (by decide)) <|
  mm_at_cons (ok_callV (z := 39) (ci := 5) (idx := 55) rfl hS ⟨rfl, rfl⟩ (mm_rmok (by decide)) rfl ct_good ww_181 (mm_4 ww_182 ww_183 sel_39 ww_172) (by decide +kernel) (by decide +kernel)) <|
  mm_at_cons (ok_aload_n (k := 0) (by decide +kernel) rfl) <|
  mm_at_cons (ok_iload_n (k := 2) (by decide +kernel) rfl) <|
  mm_at_cons (ok_iconst (n := 3) (by decide +kernel) (by decide)) <|
  mm_at_cons (ok_iconst (n := 3) (by decide +kernel) (by decide)) <|
  mm_at_cons (ok_callV (z := 41) (ci := 5) (idx := 67) rfl hS ⟨rfl, rfl⟩ (mm_rmok (by decide)) rfl ct_good ww_192 (mm_4 ww_193 ww_194 sel_41 ww_172) (by decide +kernel) (by decide +kernel)) <|
  mm_at_cons (ok_aload_n (k := 0) (by decide +kernel) rfl) <|
  mm_at_cons (ok_iload_n (k := 2) (by decide +kernel) rfl) <|
  mm_at_cons (ok_iconst (n := 5) (by decide +kernel) (by decide)) <|
  mm_at_cons (ok_aload_n (k := 0) (by decide +kernel) rfl) <|
  mm_at_cons (ok_getr (ck := 13) (off := 3) (ci := 5) (k := 8) (idx := 16) rfl ct_in5 (by decide) ww_174 rfl rfl (by decide +kernel)) <|
  mm_at_cons (ok_iconst (n := 0) (by decide +kernel) (by decide)) <|
  mm_at_cons (ok_iald (t9 := 0) (by decide) rfl rfl (by decide +kernel)) <|
  mm_at_cons (ok_iconst (n := 1) (by decide +kernel) (by decide)) <|
  mm_at_cons (ok_iadd (by decide +kernel)) <|
  mm_at_cons (ok_callV (z := 41) (ci := 5) (idx := 67) rfl hS ⟨rfl, rfl⟩ (mm_rmok (by decide)) rfl ct_good ww_192 (mm_4 ww_193 ww_194 sel_41 ww_172) (by decide +kernel) (by decide +kernel)) <|
  mm_at_cons (ok_aload_n (k := 0) (by decide +kernel) rfl) <|
  mm_at_cons (ok_iload_n (k := 1) (by decide +kernel) rfl) <|
  mm_at_cons (ok_iconst (n := 2) (by decide +kernel) (by decide)) <|
  mm_at_cons (ok_iconst (n := (-1)) (by decide +kernel) (by decide)) <|
  mm_at_cons (ok_callV (z := 39) (ci := 5) (idx := 55) rfl hS ⟨rfl, rfl⟩ (mm_rmok (by decide)) rfl ct_good ww_181 (mm_4 ww_182 ww_183 sel_39 ww_172) (by decide +kernel) (by decide +kernel)) <|
  mm_at_cons (ok_aload_n (k := 0) (by decide +kernel) rfl) <|
  mm_at_cons (ok_iload_n (k := 1) (by decide +kernel) rfl) <|
  mm_at_cons (ok_iconst (n := 1) (by decide +kernel) (by decide)) <|
  mm_at_cons (ok_iconst (n := 0) (by decide +kernel) (by decide)) <|
  mm_at_cons (ok_callV (z := 39) (ci := 5) (idx := 55) rfl hS ⟨rfl, rfl⟩ (mm_rmok (by decide)) rfl ct_good ww_181 (mm_4 ww_182 ww_183 sel_39 ww_172) (by decide +kernel) (by decide +kernel)) <|
  mm_at_nil
theorem ro_Mo_lessToGo : mm_RtOk prog_7_method_25_code (none) rt_Mo_lessToGo :=
  mm_rt_cons (Or.inl ⟨rfl, rfl, by decide +kernel⟩) <|
  mm_rt_cons (Or.inl ⟨rfl, rfl, by decide +kernel⟩) <|
  mm_rt_cons (Or.inl ⟨rfl, rfl, by decide +kernel⟩) <|
  mm_rt_nil
set_option maxRecDepth 100000 in
set_option maxHeartbeats 4000000 in
theorem po_Mo_givesWay (hS : mm_Sound ct_GW ct_NW D ct_cl (ct_tys cA) ad cA ct_K ct_kd ct_N l ct_T (mm_rm d) S) : ∀ pc f, mm_at pg_Mo_givesWay pc = some f → mm_Ok ct_GW ct_NW D ct_cl (ct_tys cA) ad cA ct_K ct_kd ct_N l (mm_rm (d + 1)) "CraneTurnsModel" prog_7_method_26_code 4 S pc f :=
  mm_at_cons (ok_aload_n (k := 0) (by decide +kernel) rfl) <|
  mm_at_cons (ok_iload_n (k := 1) (by decide +kernel) rfl) <|
  mm_at_cons (ok_iconst (n := 0) (by decide +kernel) (by decide)) <|
  mm_at_cons (ok_callV (z := 38) (ci := 5) (idx := 63) rfl hS ⟨rfl, rfl⟩ (mm_rmok (by decide)) rfl ct_good ww_188 (mm_4 ww_189 ww_190 sel_38 ww_172) (by decide +kernel) (by decide +kernel)) <|
  mm_at_cons (ok_istore_n (k := 2) (by decide +kernel) rfl) <|
  mm_at_cons (ok_aload_n (k := 0) (by decide +kernel) rfl) <|
  mm_at_cons (ok_iload_n (k := 1) (by decide +kernel) rfl) <|
  mm_at_cons (ok_bipush (n := 6) (by decide +kernel) (by decide)) <|
  mm_at_cons (ok_aload_n (k := 0) (by decide +kernel) rfl) <|
  mm_at_cons (ok_iload_n (k := 1) (by decide +kernel) rfl) <|
  mm_at_cons (ok_bipush (n := 6) (by decide +kernel) (by decide)) <|
  mm_at_cons (ok_callV (z := 38) (ci := 5) (idx := 63) rfl hS ⟨rfl, rfl⟩ (mm_rmok (by decide)) rfl ct_good ww_188 (mm_4 ww_189 ww_190 sel_38 ww_172) (by decide +kernel) (by decide +kernel)) <|
  mm_at_cons (ok_iconst (n := 1) (by decide +kernel) (by decide)) <|
  mm_at_cons (ok_iadd (by decide +kernel)) <|
  mm_at_cons (ok_callV (z := 39) (ci := 5) (idx := 55) rfl hS ⟨rfl, rfl⟩ (mm_rmok (by decide)) rfl ct_good ww_181 (mm_4 ww_182 ww_183 sel_39 ww_172) (by decide +kernel) (by decide +kernel)) <|
  mm_at_cons (ok_iload_n (k := 1) (by decide +kernel) rfl) <|
  mm_at_cons (ok_if_le (off := 78) (by decide +kernel) (by decide)) <|
  mm_at_cons (ok_aload_n (k := 0) (by decide +kernel) rfl) <|
  mm_at_cons (ok_iload_n (k := 1) (by decide +kernel) rfl) <|
  mm_at_cons (ok_iconst (n := 1) (by decide +kernel) (by decide)) <|
  mm_at_cons (ok_isub (by decide +kernel)) <|
  mm_at_cons (ok_callV (z := 51) (ci := 5) (idx := 91) rfl hS ⟨rfl, rfl⟩ (mm_rmok (by decide)) rfl ct_good ww_213 (mm_4 ww_214 ww_215 sel_51 ww_172) (by decide +kernel) (by decide +kernel)) <|
  mm_at_cons (ok_if_eq (off := 68) (by decide +kernel) (by decide)) <|
  mm_at_cons (ok_aload_n (k := 0) (by decide +kernel) rfl) <|
  mm_at_cons (ok_iload_n (k := 1) (by decide +kernel) rfl) <|
  mm_at_cons (ok_iconst (n := 1) (by decide +kernel) (by decide)) <|
  mm_at_cons (ok_isub (by decide +kernel)) <|
  mm_at_cons (ok_callV (z := 52) (ci := 5) (idx := 94) rfl hS ⟨rfl, rfl⟩ (mm_rmok (by decide)) rfl ct_good ww_216 (mm_4 ww_217 ww_218 sel_52 ww_172) (by decide +kernel) (by decide +kernel)) <|
  mm_at_cons (ok_iload_n (k := 2) (by decide +kernel) rfl) <|
  mm_at_cons (ok_aload_n (k := 0) (by decide +kernel) rfl) <|
  mm_at_cons (ok_getf (ci := 5) (k := 2) (idx := 46) rfl ct_in5 (by decide) ww_178 rfl rfl (by decide +kernel)) <|
  mm_at_cons (ok_isub (by decide +kernel)) <|
  mm_at_cons (ok_icmp_le (off := 52) (by decide +kernel) (by decide)) <|
  mm_at_cons (ok_aload_n (k := 0) (by decide +kernel) rfl) <|
  mm_at_cons (ok_iload_n (k := 1) (by decide +kernel) rfl) <|
  mm_at_cons (ok_iconst (n := 1) (by decide +kernel) (by decide)) <|
  mm_at_cons (ok_isub (by decide +kernel)) <|
  mm_at_cons (ok_callV (z := 52) (ci := 5) (idx := 94) rfl hS ⟨rfl, rfl⟩ (mm_rmok (by decide)) rfl ct_good ww_216 (mm_4 ww_217 ww_218 sel_52 ww_172) (by decide +kernel) (by decide +kernel)) <|
  mm_at_cons (ok_aload_n (k := 0) (by decide +kernel) rfl) <|
  mm_at_cons (ok_getf (ci := 5) (k := 2) (idx := 46) rfl ct_in5 (by decide) ww_178 rfl rfl (by decide +kernel)) <|
  mm_at_cons (ok_iadd (by decide +kernel)) <|
  mm_at_cons (ok_istore_n (k := 3) (by decide +kernel) rfl) <|
  mm_at_cons (ok_iload_n (k := 3) (by decide +kernel) rfl) <|
  mm_at_cons (ok_aload_n (k := 0) (by decide +kernel) rfl) <|
  mm_at_cons (ok_getr (ck := 12) (off := 2) (ci := 5) (k := 7) (idx := 13) rfl ct_in5 (by decide) ww_184 rfl rfl (by decide +kernel)) <|
  mm_at_cons (ok_iload_n (k := 1) (by decide +kernel) rfl) <|
  mm_at_cons (ok_iald (t9 := 0) (by decide) rfl rfl (by decide +kernel)) <|
  mm_at_cons (ok_icmp_le (off := 12) (by decide +kernel) (by decide)) <|
  mm_at_cons (ok_aload_n (k := 0) (by decide +kernel) rfl) <|
  mm_at_cons (ok_getr (ck := 12) (off := 2) (ci := 5) (k := 7) (idx := 13) rfl ct_in5 (by decide) ww_184 rfl rfl (by decide +kernel)) <|
  mm_at_cons (ok_iload_n (k := 1) (by decide +kernel) rfl) <|
  mm_at_cons (ok_iald (t9 := 0) (by decide) rfl rfl (by decide +kernel)) <|
  mm_at_cons (ok_goto (off := 4) (by decide +kernel) (by decide)) <|
  mm_at_cons (ok_iload_n (k := 3) (by decide +kernel) rfl) <|
  mm_at_cons (ok_istore_n (k := 3) (by decide +kernel) rfl) <|
  mm_at_cons (ok_iload_n (k := 3) (by decide +kernel) rfl) <|
  mm_at_cons (ok_iload_n (k := 2) (by decide +kernel) rfl) <|
  mm_at_cons (ok_icmp_le (off := 10) (by decide +kernel) (by decide)) <|
  mm_at_cons (ok_aload_n (k := 0) (by decide +kernel) rfl) <|
  mm_at_cons (ok_iload_n (k := 1) (by decide +kernel) rfl) <|
  mm_at_cons (ok_iload_n (k := 3) (by decide +kernel) rfl) <|
  mm_at_cons (ok_callV (z := 55) (ci := 5) (idx := 97) rfl hS ⟨rfl, rfl⟩ (mm_rmok (by decide)) rfl ct_good ww_219 (mm_4 ww_220 ww_221 sel_55 ww_172) (by decide +kernel) (by decide +kernel)) <|
  mm_at_cons (ok_pop (by decide +kernel)) <|
  mm_at_cons (ok_goto (off := 85) (by decide +kernel) (by decide)) <|
  mm_at_cons (ok_iload_n (k := 1) (by decide +kernel) rfl) <|
  mm_at_cons (ok_iconst (n := 1) (by decide +kernel) (by decide)) <|
  mm_at_cons (ok_iadd (by decide +kernel)) <|
  mm_at_cons (ok_aload_n (k := 0) (by decide +kernel) rfl) <|
  mm_at_cons (ok_getf (ci := 5) (k := 1) (idx := 32) rfl ct_in5 (by decide) ww_168 rfl rfl (by decide +kernel)) <|
  mm_at_cons (ok_icmp_ge (off := 75) (by decide +kernel) (by decide)) <|
  mm_at_cons (ok_aload_n (k := 0) (by decide +kernel) rfl) <|
  mm_at_cons (ok_iload_n (k := 1) (by decide +kernel) rfl) <|
  mm_at_cons (ok_iconst (n := 1) (by decide +kernel) (by decide)) <|
  mm_at_cons (ok_iadd (by decide +kernel)) <|
  mm_at_cons (ok_callV (z := 51) (ci := 5) (idx := 91) rfl hS ⟨rfl, rfl⟩ (mm_rmok (by decide)) rfl ct_good ww_213 (mm_4 ww_214 ww_215 sel_51 ww_172) (by decide +kernel) (by decide +kernel)) <|
  mm_at_cons (ok_if_eq (off := 65) (by decide +kernel) (by decide)) <|
  mm_at_cons (ok_aload_n (k := 0) (by decide +kernel) rfl) <|
  mm_at_cons (ok_iload_n (k := 1) (by decide +kernel) rfl) <|
  mm_at_cons (ok_iconst (n := 1) (by decide +kernel) (by decide)) <|
  mm_at_cons (ok_iadd (by decide +kernel)) <|
  mm_at_cons (ok_callV (z := 52) (ci := 5) (idx := 94) rfl hS ⟨rfl, rfl⟩ (mm_rmok (by decide)) rfl ct_good ww_216 (mm_4 ww_217 ww_218 sel_52 ww_172) (by decide +kernel) (by decide +kernel)) <|
  mm_at_cons (ok_iload_n (k := 2) (by decide +kernel) rfl) <|
  mm_at_cons (ok_aload_n (k := 0) (by decide +kernel) rfl) <|
  mm_at_cons (ok_getf (ci := 5) (k := 2) (idx := 46) rfl ct_in5 (by decide) ww_178 rfl rfl (by decide +kernel)) <|
  mm_at_cons (ok_iadd (by decide +kernel)) <|
  mm_at_cons (ok_icmp_ge (off := 49) (by decide +kernel) (by decide)) <|
  mm_at_cons (ok_aload_n (k := 0) (by decide +kernel) rfl) <|
  mm_at_cons (ok_iload_n (k := 1) (by decide +kernel) rfl) <|
  mm_at_cons (ok_iconst (n := 1) (by decide +kernel) (by decide)) <|
  mm_at_cons (ok_iadd (by decide +kernel)) <|
  mm_at_cons (ok_callV (z := 52) (ci := 5) (idx := 94) rfl hS ⟨rfl, rfl⟩ (mm_rmok (by decide)) rfl ct_good ww_216 (mm_4 ww_217 ww_218 sel_52 ww_172) (by decide +kernel) (by decide +kernel)) <|
  mm_at_cons (ok_aload_n (k := 0) (by decide +kernel) rfl) <|
  mm_at_cons (ok_getf (ci := 5) (k := 2) (idx := 46) rfl ct_in5 (by decide) ww_178 rfl rfl (by decide +kernel)) <|
  mm_at_cons (ok_isub (by decide +kernel)) <|
  mm_at_cons (ok_istore_n (k := 3) (by decide +kernel) rfl) <|
  mm_at_cons (ok_iload_n (k := 3) (by decide +kernel) rfl) <|
  mm_at_cons (ok_aload_n (k := 0) (by decide +kernel) rfl) <|
  mm_at_cons (ok_getr (ck := 12) (off := 1) (ci := 5) (k := 6) (idx := 7) rfl ct_in5 (by decide) ww_191 rfl rfl (by decide +kernel)) <|
  mm_at_cons (ok_iload_n (k := 1) (by decide +kernel) rfl) <|
  mm_at_cons (ok_iald (t9 := 0) (by decide) rfl rfl (by decide +kernel)) <|
  mm_at_cons (ok_icmp_ge (off := 12) (by decide +kernel) (by decide)) <|
  mm_at_cons (ok_aload_n (k := 0) (by decide +kernel) rfl) <|
  mm_at_cons (ok_getr (ck := 12) (off := 1) (ci := 5) (k := 6) (idx := 7) rfl ct_in5 (by decide) ww_191 rfl rfl (by decide +kernel)) <|
  mm_at_cons (ok_iload_n (k := 1) (by decide +kernel) rfl) <|
  mm_at_cons (ok_iald (t9 := 0) (by decide) rfl rfl (by decide +kernel)) <|
  mm_at_cons (ok_goto (off := 4) (by decide +kernel) (by decide)) <|
  mm_at_cons (ok_iload_n (k := 3) (by decide +kernel) rfl) <|
  mm_at_cons (ok_istore_n (k := 3) (by decide +kernel) rfl) <|
  mm_at_cons (ok_iload_n (k := 3) (by decide +kernel) rfl) <|
  mm_at_cons (ok_iload_n (k := 2) (by decide +kernel) rfl) <|
  mm_at_cons (ok_icmp_ge (off := 10) (by decide +kernel) (by decide)) <|
  mm_at_cons (ok_aload_n (k := 0) (by decide +kernel) rfl) <|
  mm_at_cons (ok_iload_n (k := 1) (by decide +kernel) rfl) <|
  mm_at_cons (ok_iload_n (k := 3) (by decide +kernel) rfl) <|
  mm_at_cons (ok_callV (z := 55) (ci := 5) (idx := 97) rfl hS ⟨rfl, rfl⟩ (mm_rmok (by decide)) rfl ct_good ww_219 (mm_4 ww_220 ww_221 sel_55 ww_172) (by decide +kernel) (by decide +kernel)) <|
  mm_at_cons (ok_pop (by decide +kernel)) <|
  mm_at_nil
theorem ro_Mo_givesWay : mm_RtOk prog_7_method_26_code (none) rt_Mo_givesWay :=
  mm_rt_cons (Or.inl ⟨rfl, rfl, by decide +kernel⟩) <|
  mm_rt_nil
set_option maxRecDepth 100000 in
set_option maxHeartbeats 4000000 in
theorem po_Mo_second (hS : mm_Sound ct_GW ct_NW D ct_cl (ct_tys cA) ad cA ct_K ct_kd ct_N l ct_T (mm_rm d) S) : ∀ pc f, mm_at pg_Mo_second pc = some f → mm_Ok ct_GW ct_NW D ct_cl (ct_tys cA) ad cA ct_K ct_kd ct_N l (mm_rm (d + 1)) "CraneTurnsModel" prog_7_method_27_code 3 S pc f :=
  mm_at_cons (ok_aload_n (k := 0) (by decide +kernel) rfl) <|
  mm_at_cons (ok_iload_n (k := 1) (by decide +kernel) rfl) <|
  mm_at_cons (ok_bipush (n := 8) (by decide +kernel) (by decide)) <|
  mm_at_cons (ok_callV (z := 38) (ci := 5) (idx := 63) rfl hS ⟨rfl, rfl⟩ (mm_rmok (by decide)) rfl ct_good ww_188 (mm_4 ww_189 ww_190 sel_38 ww_172) (by decide +kernel) (by decide +kernel)) <|
  mm_at_cons (ok_iconst (n := 1) (by decide +kernel) (by decide)) <|
  mm_at_cons (ok_icmp_ne (off := 20) (by decide +kernel) (by decide)) <|
  mm_at_cons (ok_aload_n (k := 0) (by decide +kernel) rfl) <|
  mm_at_cons (ok_iload_n (k := 1) (by decide +kernel) rfl) <|
  mm_at_cons (ok_bipush (n := 7) (by decide +kernel) (by decide)) <|
  mm_at_cons (ok_aload_n (k := 0) (by decide +kernel) rfl) <|
  mm_at_cons (ok_iload_n (k := 1) (by decide +kernel) rfl) <|
  mm_at_cons (ok_bipush (n := 7) (by decide +kernel) (by decide)) <|
  mm_at_cons (ok_callV (z := 38) (ci := 5) (idx := 63) rfl hS ⟨rfl, rfl⟩ (mm_rmok (by decide)) rfl ct_good ww_188 (mm_4 ww_189 ww_190 sel_38 ww_172) (by decide +kernel) (by decide +kernel)) <|
  mm_at_cons (ok_iconst (n := 1) (by decide +kernel) (by decide)) <|
  mm_at_cons (ok_iadd (by decide +kernel)) <|
  mm_at_cons (ok_callV (z := 39) (ci := 5) (idx := 55) rfl hS ⟨rfl, rfl⟩ (mm_rmok (by decide)) rfl ct_good ww_181 (mm_4 ww_182 ww_183 sel_39 ww_172) (by decide +kernel) (by decide +kernel)) <|
  mm_at_cons (ok_aload_n (k := 0) (by decide +kernel) rfl) <|
  mm_at_cons (ok_iload_n (k := 1) (by decide +kernel) rfl) <|
  mm_at_cons (ok_iconst (n := 2) (by decide +kernel) (by decide)) <|
  mm_at_cons (ok_callV (z := 38) (ci := 5) (idx := 63) rfl hS ⟨rfl, rfl⟩ (mm_rmok (by decide)) rfl ct_good ww_188 (mm_4 ww_189 ww_190 sel_38 ww_172) (by decide +kernel) (by decide +kernel)) <|
  mm_at_cons (ok_if_ge (off := 8) (by decide +kernel) (by decide)) <|
  mm_at_cons (ok_aload_n (k := 0) (by decide +kernel) rfl) <|
  mm_at_cons (ok_iload_n (k := 1) (by decide +kernel) rfl) <|
  mm_at_cons (ok_callV (z := 54) (ci := 5) (idx := 100) rfl hS ⟨rfl, rfl⟩ (mm_rmok (by decide)) rfl ct_good ww_222 (mm_4 ww_223 ww_224 sel_54 ww_172) (by decide +kernel) (by decide +kernel)) <|
  mm_at_cons (ok_aload_n (k := 0) (by decide +kernel) rfl) <|
  mm_at_cons (ok_iload_n (k := 1) (by decide +kernel) rfl) <|
  mm_at_cons (ok_iconst (n := 2) (by decide +kernel) (by decide)) <|
  mm_at_cons (ok_callV (z := 38) (ci := 5) (idx := 63) rfl hS ⟨rfl, rfl⟩ (mm_rmok (by decide)) rfl ct_good ww_188 (mm_4 ww_189 ww_190 sel_38 ww_172) (by decide +kernel) (by decide +kernel)) <|
  mm_at_cons (ok_if_ge (off := 9) (by decide +kernel) (by decide)) <|
  mm_at_cons (ok_aload_n (k := 0) (by decide +kernel) rfl) <|
  mm_at_cons (ok_iload_n (k := 1) (by decide +kernel) rfl) <|
  mm_at_cons (ok_callV (z := 57) (ci := 5) (idx := 104) rfl hS ⟨rfl, rfl⟩ (mm_rmok (by decide)) rfl ct_good ww_225 (mm_4 ww_226 ww_227 sel_57 ww_172) (by decide +kernel) (by decide +kernel)) <|
  mm_at_cons (ok_iconst (n := 1) (by decide +kernel) (by decide)) <|
  mm_at_cons (ok_istore_n (k := 2) (by decide +kernel) rfl) <|
  mm_at_cons (ok_aload_n (k := 0) (by decide +kernel) rfl) <|
  mm_at_cons (ok_iload_n (k := 1) (by decide +kernel) rfl) <|
  mm_at_cons (ok_callV (z := 51) (ci := 5) (idx := 91) rfl hS ⟨rfl, rfl⟩ (mm_rmok (by decide)) rfl ct_good ww_213 (mm_4 ww_214 ww_215 sel_51 ww_172) (by decide +kernel) (by decide +kernel)) <|
  mm_at_cons (ok_if_eq (off := 51) (by decide +kernel) (by decide)) <|
  mm_at_cons (ok_aload_n (k := 0) (by decide +kernel) rfl) <|
  mm_at_cons (ok_iload_n (k := 1) (by decide +kernel) rfl) <|
  mm_at_cons (ok_aload_n (k := 0) (by decide +kernel) rfl) <|
  mm_at_cons (ok_iload_n (k := 1) (by decide +kernel) rfl) <|
  mm_at_cons (ok_callV (z := 52) (ci := 5) (idx := 94) rfl hS ⟨rfl, rfl⟩ (mm_rmok (by decide)) rfl ct_good ww_216 (mm_4 ww_217 ww_218 sel_52 ww_172) (by decide +kernel) (by decide +kernel)) <|
  mm_at_cons (ok_callV (z := 55) (ci := 5) (idx := 97) rfl hS ⟨rfl, rfl⟩ (mm_rmok (by decide)) rfl ct_good ww_219 (mm_4 ww_220 ww_221 sel_55 ww_172) (by decide +kernel) (by decide +kernel)) <|
  mm_at_cons (ok_istore_n (k := 2) (by decide +kernel) rfl) <|
  mm_at_cons (ok_aload_n (k := 0) (by decide +kernel) rfl) <|
  mm_at_cons (ok_iload_n (k := 1) (by decide +kernel) rfl) <|
  mm_at_cons (ok_iconst (n := 0) (by decide +kernel) (by decide)) <|
  mm_at_cons (ok_callV (z := 38) (ci := 5) (idx := 63) rfl hS ⟨rfl, rfl⟩ (mm_rmok (by decide)) rfl ct_good ww_188 (mm_4 ww_189 ww_190 sel_38 ww_172) (by decide +kernel) (by decide +kernel)) <|
  mm_at_cons (ok_aload_n (k := 0) (by decide +kernel) rfl) <|
  mm_at_cons (ok_iload_n (k := 1) (by decide +kernel) rfl) <|
  mm_at_cons (ok_callV (z := 52) (ci := 5) (idx := 94) rfl hS ⟨rfl, rfl⟩ (mm_rmok (by decide)) rfl ct_good ww_216 (mm_4 ww_217 ww_218 sel_52 ww_172) (by decide +kernel) (by decide +kernel)) <|
  mm_at_cons (ok_icmp_ne (off := 31) (by decide +kernel) (by decide)) <|
  mm_at_cons (ok_aload_n (k := 0) (by decide +kernel) rfl) <|
  mm_at_cons (ok_iload_n (k := 1) (by decide +kernel) rfl) <|
  mm_at_cons (ok_aload_n (k := 0) (by decide +kernel) rfl) <|
  mm_at_cons (ok_iload_n (k := 1) (by decide +kernel) rfl) <|
  mm_at_cons (ok_iconst (n := 1) (by decide +kernel) (by decide)) <|
  mm_at_cons (ok_callV (z := 38) (ci := 5) (idx := 63) rfl hS ⟨rfl, rfl⟩ (mm_rmok (by decide)) rfl ct_good ww_188 (mm_4 ww_189 ww_190 sel_38 ww_172) (by decide +kernel) (by decide +kernel)) <|
  mm_at_cons (ok_iconst (n := 1) (by decide +kernel) (by decide)) <|
  mm_at_cons (ok_icmp_ne (off := 7) (by decide +kernel) (by decide)) <|
  mm_at_cons (ok_iconst (n := 2) (by decide +kernel) (by decide)) <|
  mm_at_cons (ok_goto (off := 4) (by decide +kernel) (by decide)) <|
  mm_at_cons (ok_iconst (n := 4) (by decide +kernel) (by decide)) <|
  mm_at_cons (ok_callV (z := 53) (ci := 5) (idx := 88) rfl hS ⟨rfl, rfl⟩ (mm_rmok (by decide)) rfl ct_good ww_210 (mm_4 ww_211 ww_212 sel_53 ww_172) (by decide +kernel) (by decide +kernel)) <|
  mm_at_cons (ok_goto (off := 8) (by decide +kernel) (by decide)) <|
  mm_at_cons (ok_aload_n (k := 0) (by decide +kernel) rfl) <|
  mm_at_cons (ok_iload_n (k := 1) (by decide +kernel) rfl) <|
  mm_at_cons (ok_callV (z := 56) (ci := 5) (idx := 107) rfl hS ⟨rfl, rfl⟩ (mm_rmok (by decide)) rfl ct_good ww_228 (mm_4 ww_229 ww_230 sel_56 ww_172) (by decide +kernel) (by decide +kernel)) <|
  mm_at_cons (ok_aload_n (k := 0) (by decide +kernel) rfl) <|
  mm_at_cons (ok_iload_n (k := 1) (by decide +kernel) rfl) <|
  mm_at_cons (ok_iload_n (k := 2) (by decide +kernel) rfl) <|
  mm_at_cons (ok_if_eq (off := 7) (by decide +kernel) (by decide)) <|
  mm_at_cons (ok_iconst (n := 4) (by decide +kernel) (by decide)) <|
  mm_at_cons (ok_goto (off := 4) (by decide +kernel) (by decide)) <|
  mm_at_cons (ok_iconst (n := 5) (by decide +kernel) (by decide)) <|
  mm_at_cons (ok_aload_n (k := 0) (by decide +kernel) rfl) <|
  mm_at_cons (ok_iload_n (k := 1) (by decide +kernel) rfl) <|
  mm_at_cons (ok_iload_n (k := 2) (by decide +kernel) rfl) <|
  mm_at_cons (ok_if_eq (off := 7) (by decide +kernel) (by decide)) <|
  mm_at_cons (ok_iconst (n := 4) (by decide +kernel) (by decide)) <|
  mm_at_cons (ok_goto (off := 4) (by decide +kernel) (by decide)) <|
  mm_at_cons (ok_iconst (n := 5) (by decide +kernel) (by decide)) <|
  mm_at_cons (ok_callV (z := 38) (ci := 5) (idx := 63) rfl hS ⟨rfl, rfl⟩ (mm_rmok (by decide)) rfl ct_good ww_188 (mm_4 ww_189 ww_190 sel_38 ww_172) (by decide +kernel) (by decide +kernel)) <|
  mm_at_cons (ok_iconst (n := 1) (by decide +kernel) (by decide)) <|
  mm_at_cons (ok_iadd (by decide +kernel)) <|
  mm_at_cons (ok_callV (z := 39) (ci := 5) (idx := 55) rfl hS ⟨rfl, rfl⟩ (mm_rmok (by decide)) rfl ct_good ww_181 (mm_4 ww_182 ww_183 sel_39 ww_172) (by decide +kernel) (by decide +kernel)) <|
  mm_at_nil
theorem ro_Mo_second : mm_RtOk prog_7_method_27_code (none) rt_Mo_second :=
  mm_rt_cons (Or.inl ⟨rfl, rfl, by decide +kernel⟩) <|
  mm_rt_cons (Or.inl ⟨rfl, rfl, by decide +kernel⟩) <|
  mm_rt_cons (Or.inl ⟨rfl, rfl, by decide +kernel⟩) <|
  mm_rt_nil
set_option maxRecDepth 100000 in
set_option maxHeartbeats 4000000 in
theorem po_Mo_secondOfAll (hS : mm_Sound ct_GW ct_NW D ct_cl (ct_tys cA) ad cA ct_K ct_kd ct_N l ct_T (mm_rm d) S) : ∀ pc f, mm_at pg_Mo_secondOfAll pc = some f → mm_Ok ct_GW ct_NW D ct_cl (ct_tys cA) ad cA ct_K ct_kd ct_N l (mm_rm (d + 1)) "CraneTurnsModel" prog_7_method_28_code 3 S pc f :=
  mm_at_cons (ok_iconst (n := 0) (by decide +kernel) (by decide)) <|
  mm_at_cons (ok_istore_n (k := 1) (by decide +kernel) rfl) <|
  mm_at_cons (ok_iload_n (k := 1) (by decide +kernel) rfl) <|
  mm_at_cons (ok_aload_n (k := 0) (by decide +kernel) rfl) <|
  mm_at_cons (ok_getf (ci := 5) (k := 1) (idx := 32) rfl ct_in5 (by decide) ww_168 rfl rfl (by decide +kernel)) <|
  mm_at_cons (ok_icmp_ge (off := 14) (by decide +kernel) (by decide)) <|
  mm_at_cons (ok_aload_n (k := 0) (by decide +kernel) rfl) <|
  mm_at_cons (ok_iload_n (k := 1) (by decide +kernel) rfl) <|
  mm_at_cons (ok_callV (z := 58) (ci := 5) (idx := 110) rfl hS ⟨rfl, rfl⟩ (mm_rmok (by decide)) rfl ct_good ww_231 (mm_4 ww_232 ww_233 sel_58 ww_172) (by decide +kernel) (by decide +kernel)) <|
  mm_at_cons (ok_iinc (n := 1) (by decide +kernel) (by decide)) <|
  mm_at_cons (ok_goto (off := (-16)) (by decide +kernel) (by decide)) <|
  mm_at_cons (ok_aload_n (k := 0) (by decide +kernel) rfl) <|
  mm_at_cons (ok_getr (ck := 13) (off := 3) (ci := 5) (k := 8) (idx := 16) rfl ct_in5 (by decide) ww_174 rfl rfl (by decide +kernel)) <|
  mm_at_cons (ok_iconst (n := 0) (by decide +kernel) (by decide)) <|
  mm_at_cons (ok_dup2 (by decide +kernel)) <|
  mm_at_cons (ok_iald (t9 := 0) (by decide) rfl rfl (by decide +kernel)) <|
  mm_at_cons (ok_iconst (n := 1) (by decide +kernel) (by decide)) <|
  mm_at_cons (ok_iadd (by decide +kernel)) <|
  mm_at_cons (ok_iast (t9 := 0) (by decide) rfl rfl (by decide +kernel)) <|
  mm_at_cons (ok_iconst (n := 1) (by decide +kernel) (by decide)) <|
  mm_at_cons (ok_istore_n (k := 1) (by decide +kernel) rfl) <|
  mm_at_cons (ok_iload_n (k := 1) (by decide +kernel) rfl) <|
  mm_at_cons (ok_aload_n (k := 0) (by decide +kernel) rfl) <|
  mm_at_cons (ok_getf (ci := 5) (k := 1) (idx := 32) rfl ct_in5 (by decide) ww_168 rfl rfl (by decide +kernel)) <|
  mm_at_cons (ok_icmp_ge (off := 51) (by decide +kernel) (by decide)) <|
  mm_at_cons (ok_aload_n (k := 0) (by decide +kernel) rfl) <|
  mm_at_cons (ok_iload_n (k := 1) (by decide +kernel) rfl) <|
  mm_at_cons (ok_iconst (n := 0) (by decide +kernel) (by decide)) <|
  mm_at_cons (ok_callV (z := 38) (ci := 5) (idx := 63) rfl hS ⟨rfl, rfl⟩ (mm_rmok (by decide)) rfl ct_good ww_188 (mm_4 ww_189 ww_190 sel_38 ww_172) (by decide +kernel) (by decide +kernel)) <|
  mm_at_cons (ok_aload_n (k := 0) (by decide +kernel) rfl) <|
  mm_at_cons (ok_iload_n (k := 1) (by decide +kernel) rfl) <|
  mm_at_cons (ok_iconst (n := 1) (by decide +kernel) (by decide)) <|
  mm_at_cons (ok_isub (by decide +kernel)) <|
  mm_at_cons (ok_iconst (n := 0) (by decide +kernel) (by decide)) <|
  mm_at_cons (ok_callV (z := 38) (ci := 5) (idx := 63) rfl hS ⟨rfl, rfl⟩ (mm_rmok (by decide)) rfl ct_good ww_188 (mm_4 ww_189 ww_190 sel_38 ww_172) (by decide +kernel) (by decide +kernel)) <|
  mm_at_cons (ok_isub (by decide +kernel)) <|
  mm_at_cons (ok_istore_n (k := 2) (by decide +kernel) rfl) <|
  mm_at_cons (ok_aload_n (k := 0) (by decide +kernel) rfl) <|
  mm_at_cons (ok_getr (ck := 13) (off := 3) (ci := 5) (k := 8) (idx := 16) rfl ct_in5 (by decide) ww_174 rfl rfl (by decide +kernel)) <|
  mm_at_cons (ok_iconst (n := 1) (by decide +kernel) (by decide)) <|
  mm_at_cons (ok_iload_n (k := 2) (by decide +kernel) rfl) <|
  mm_at_cons (ok_aload_n (k := 0) (by decide +kernel) rfl) <|
  mm_at_cons (ok_getr (ck := 13) (off := 3) (ci := 5) (k := 8) (idx := 16) rfl ct_in5 (by decide) ww_174 rfl rfl (by decide +kernel)) <|
  mm_at_cons (ok_iconst (n := 1) (by decide +kernel) (by decide)) <|
  mm_at_cons (ok_iald (t9 := 0) (by decide) rfl rfl (by decide +kernel)) <|
  mm_at_cons (ok_icmp_ge (off := 7) (by decide +kernel) (by decide)) <|
  mm_at_cons (ok_iload_n (k := 2) (by decide +kernel) rfl) <|
  mm_at_cons (ok_goto (off := 9) (by decide +kernel) (by decide)) <|
  mm_at_cons (ok_aload_n (k := 0) (by decide +kernel) rfl) <|
  mm_at_cons (ok_getr (ck := 13) (off := 3) (ci := 5) (k := 8) (idx := 16) rfl ct_in5 (by decide) ww_174 rfl rfl (by decide +kernel)) <|
  mm_at_cons (ok_iconst (n := 1) (by decide +kernel) (by decide)) <|
  mm_at_cons (ok_iald (t9 := 0) (by decide) rfl rfl (by decide +kernel)) <|
  mm_at_cons (ok_iast (t9 := 0) (by decide) rfl rfl (by decide +kernel)) <|
  mm_at_cons (ok_iinc (n := 1) (by decide +kernel) (by decide)) <|
  mm_at_cons (ok_goto (off := (-53)) (by decide +kernel) (by decide)) <|
  mm_at_nil
theorem ro_Mo_secondOfAll : mm_RtOk prog_7_method_28_code (none) rt_Mo_secondOfAll :=
  mm_rt_cons (Or.inl ⟨rfl, rfl, by decide +kernel⟩) <|
  mm_rt_nil
set_option maxRecDepth 100000 in
set_option maxHeartbeats 4000000 in
theorem po_Mo_run (hS : mm_Sound ct_GW ct_NW D ct_cl (ct_tys cA) ad cA ct_K ct_kd ct_N l ct_T (mm_rm d) S) : ∀ pc f, mm_at pg_Mo_run pc = some f → mm_Ok ct_GW ct_NW D ct_cl (ct_tys cA) ad cA ct_K ct_kd ct_N l (mm_rm (d + 1)) "CraneTurnsModel" prog_7_method_29_code 3 S pc f :=
  mm_at_cons (ok_aload_n (k := 0) (by decide +kernel) rfl) <|
  mm_at_cons (ok_aload_n (k := 0) (by decide +kernel) rfl) <|
  mm_at_cons (ok_getf (ci := 5) (k := 1) (idx := 32) rfl ct_in5 (by decide) ww_168 rfl rfl (by decide +kernel)) <|
  mm_at_cons (ok_if_ne (off := 7) (by decide +kernel) (by decide)) <|
  mm_at_cons (ok_iconst (n := 1) (by decide +kernel) (by decide)) <|
  mm_at_cons (ok_goto (off := 4) (by decide +kernel) (by decide)) <|
  mm_at_cons (ok_iconst (n := 0) (by decide +kernel) (by decide)) <|
  mm_at_cons (ok_iload_n (k := 1) (by decide +kernel) rfl) <|
  mm_at_cons (ok_iconst (n := 0) (by decide +kernel) (by decide)) <|
  mm_at_cons (ok_sipush (n := 1000) (by decide +kernel) (by decide)) <|
  mm_at_cons (ok_callS (z := 35) (idx := 35) hS ⟨rfl, rfl⟩ (mm_rmok (by decide)) ct_good ww_169 (mm_3 ww_170 ww_171 ww_172) (by decide +kernel) (by decide +kernel)) <|
  mm_at_cons (ok_if_eq (off := 16) (by decide +kernel) (by decide)) <|
  mm_at_cons (ok_aload_n (k := 0) (by decide +kernel) rfl) <|
  mm_at_cons (ok_getr (ck := 13) (off := 3) (ci := 5) (k := 8) (idx := 16) rfl ct_in5 (by decide) ww_174 rfl rfl (by decide +kernel)) <|
  mm_at_cons (ok_iconst (n := 0) (by decide +kernel) (by decide)) <|
  mm_at_cons (ok_iald (t9 := 0) (by decide) rfl rfl (by decide +kernel)) <|
  mm_at_cons (ok_iload_n (k := 1) (by decide +kernel) rfl) <|
  mm_at_cons (ok_iadd (by decide +kernel)) <|
  mm_at_cons (ok_ldc (idx := 113) ww_234 (by decide +kernel)) <|
  mm_at_cons (ok_icmp_le (off := 7) (by decide +kernel) (by decide)) <|
  mm_at_cons (ok_iconst (n := 1) (by decide +kernel) (by decide)) <|
  mm_at_cons (ok_goto (off := 4) (by decide +kernel) (by decide)) <|
  mm_at_cons (ok_iconst (n := 0) (by decide +kernel) (by decide)) <|
  mm_at_cons (ok_iconst (n := 0) (by decide +kernel) (by decide)) <|
  mm_at_cons (ok_iconst (n := 0) (by decide +kernel) (by decide)) <|
  mm_at_cons (ok_callV (z := 34) (ci := 5) (idx := 42) rfl hS ⟨rfl, rfl⟩ (mm_rmok (by decide)) rfl ct_good ww_175 (mm_4 ww_176 ww_177 sel_34 ww_172) (by decide +kernel) (by decide +kernel)) <|
  mm_at_cons (ok_if_eq (off := 5) (by decide +kernel) (by decide)) <|
  mm_at_cons (ok_iconst (n := 0) (by decide +kernel) (by decide)) <|
  mm_at_cons (ok_iconst (n := 0) (by decide +kernel) (by decide)) <|
  mm_at_cons (ok_istore_n (k := 2) (by decide +kernel) rfl) <|
  mm_at_cons (ok_iload_n (k := 2) (by decide +kernel) rfl) <|
  mm_at_cons (ok_iload_n (k := 1) (by decide +kernel) rfl) <|
  mm_at_cons (ok_icmp_ge (off := 13) (by decide +kernel) (by decide)) <|
  mm_at_cons (ok_aload_n (k := 0) (by decide +kernel) rfl) <|
  mm_at_cons (ok_callV (z := 59) (ci := 5) (idx := 114) rfl hS ⟨rfl, rfl⟩ (mm_rmok (by decide)) rfl ct_good ww_235 (mm_4 ww_236 ww_237 sel_59 ww_172) (by decide +kernel) (by decide +kernel)) <|
  mm_at_cons (ok_iinc (n := 1) (by decide +kernel) (by decide)) <|
  mm_at_cons (ok_goto (off := (-12)) (by decide +kernel) (by decide)) <|
  mm_at_cons (ok_aload_n (k := 0) (by decide +kernel) rfl) <|
  mm_at_cons (ok_getr (ck := 13) (off := 3) (ci := 5) (k := 8) (idx := 16) rfl ct_in5 (by decide) ww_174 rfl rfl (by decide +kernel)) <|
  mm_at_cons (ok_iconst (n := 0) (by decide +kernel) (by decide)) <|
  mm_at_cons (ok_iald (t9 := 0) (by decide) rfl rfl (by decide +kernel)) <|
  mm_at_nil
theorem ro_Mo_run : mm_RtOk prog_7_method_29_code (some .int) rt_Mo_run :=
  mm_rt_cons (Or.inr (Or.inl ⟨rfl, rfl, by decide +kernel⟩)) <|
  mm_rt_cons (Or.inr (Or.inl ⟨rfl, rfl, by decide +kernel⟩)) <|
  mm_rt_nil
end
