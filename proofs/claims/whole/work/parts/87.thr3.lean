section
variable {D : va_G} {ad : Nat → Nat} {cA : Nat → ClassId} {l : Launch} {d : Nat} {S : mm_S} {R : Room}
set_option maxRecDepth 100000 in
set_option maxHeartbeats 4000000 in
theorem po_Ct_needTrack (hR : ∀ mx, mx ≤ 30 → (mm_rm d).frames + 1 ≤ R.frames ∧ 8 + (mx + 11) + (mm_rm d).locals ≤ R.locals) (hS : mm_Sound ct_GW ct_NW D ct_cl (ct_tys cA) ad cA ct_K ct_kd ct_N l cu_T (mm_rm d) S) : ∀ pc f, mm_at pg_Ct_needTrack pc = some f → mm_Ok ct_GW ct_NW D ct_cl (ct_tys cA) ad cA ct_K ct_kd ct_N l R "CraneTurns" prog_1_method_15_code 1 S pc f :=
  mm_at_cons (ok_aload_n (k := 0) (by decide +kernel) rfl) <|
  mm_at_cons (ok_getr (ck := 3) (off := 8) (ci := 4) (k := 0) (idx := 10) rfl ct_in4 (by decide) ww_0 rfl rfl (by decide +kernel)) <|
  mm_at_cons (ok_callV (z := 15) (ci := 3) (idx := 23) rfl hS ⟨rfl, rfl⟩ (hR _ (by decide)) rfl ct_good ww_254 (mm_4 ww_256 ww_257 ww_255 ww_37) (by decide +kernel) (by decide +kernel)) <|
  mm_at_cons (ok_if_ne (off := 13) (by decide +kernel) (by decide)) <|
  mm_at_nil
theorem ro_Ct_needTrack : mm_RtOk prog_1_method_15_code (none) rt_Ct_needTrack :=
  mm_rt_cons (Or.inl ⟨rfl, rfl, by decide +kernel⟩) <|
  mm_rt_nil
set_option maxRecDepth 100000 in
set_option maxHeartbeats 4000000 in
theorem po_Ct_needCrane (hR : ∀ mx, mx ≤ 30 → (mm_rm d).frames + 1 ≤ R.frames ∧ 8 + (mx + 11) + (mm_rm d).locals ≤ R.locals) (hS : mm_Sound ct_GW ct_NW D ct_cl (ct_tys cA) ad cA ct_K ct_kd ct_N l cu_T (mm_rm d) S) : ∀ pc f, mm_at pg_Ct_needCrane pc = some f → mm_Ok ct_GW ct_NW D ct_cl (ct_tys cA) ad cA ct_K ct_kd ct_N l R "CraneTurns" prog_1_method_16_code 2 S pc f :=
  mm_at_cons (ok_iload_n (k := 1) (by decide +kernel) rfl) <|
  mm_at_cons (ok_iconst (n := 0) (by decide +kernel) (by decide)) <|
  mm_at_cons (ok_aload_n (k := 0) (by decide +kernel) rfl) <|
  mm_at_cons (ok_getr (ck := 3) (off := 8) (ci := 4) (k := 0) (idx := 10) rfl ct_in4 (by decide) ww_0 rfl rfl (by decide +kernel)) <|
  mm_at_cons (ok_getf (ci := 3) (k := 0) (idx := 186) rfl ct_in3 (by decide) ww_258 rfl rfl (by decide +kernel)) <|
  mm_at_cons (ok_iconst (n := 1) (by decide +kernel) (by decide)) <|
  mm_at_cons (ok_isub (by decide +kernel)) <|
  mm_at_cons (ok_callS (z := 1) (idx := 34) hS ⟨rfl, rfl⟩ (hR _ (by decide)) ct_good ww_6 (mm_3 ww_259 ww_7 ww_8) (by decide +kernel) (by decide +kernel)) <|
  mm_at_cons (ok_if_ne (off := 13) (by decide +kernel) (by decide)) <|
  mm_at_nil
theorem ro_Ct_needCrane : mm_RtOk prog_1_method_16_code (none) rt_Ct_needCrane :=
  mm_rt_cons (Or.inl ⟨rfl, rfl, by decide +kernel⟩) <|
  mm_rt_nil
set_option maxRecDepth 100000 in
set_option maxHeartbeats 4000000 in
theorem po_Ct_needJob (hR : ∀ mx, mx ≤ 30 → (mm_rm d).frames + 1 ≤ R.frames ∧ 8 + (mx + 11) + (mm_rm d).locals ≤ R.locals) (hS : mm_Sound ct_GW ct_NW D ct_cl (ct_tys cA) ad cA ct_K ct_kd ct_N l cu_T (mm_rm d) S) : ∀ pc f, mm_at pg_Ct_needJob pc = some f → mm_Ok ct_GW ct_NW D ct_cl (ct_tys cA) ad cA ct_K ct_kd ct_N l R "CraneTurns" prog_1_method_17_code 2 S pc f :=
  mm_at_cons (ok_iload_n (k := 1) (by decide +kernel) rfl) <|
  mm_at_cons (ok_iconst (n := 0) (by decide +kernel) (by decide)) <|
  mm_at_cons (ok_aload_n (k := 0) (by decide +kernel) rfl) <|
  mm_at_cons (ok_getr (ck := 3) (off := 8) (ci := 4) (k := 0) (idx := 10) rfl ct_in4 (by decide) ww_0 rfl rfl (by decide +kernel)) <|
  mm_at_cons (ok_getf (ci := 3) (k := 6) (idx := 87) rfl ct_in3 (by decide) ww_260 rfl rfl (by decide +kernel)) <|
  mm_at_cons (ok_iconst (n := 1) (by decide +kernel) (by decide)) <|
  mm_at_cons (ok_isub (by decide +kernel)) <|
  mm_at_cons (ok_callS (z := 1) (idx := 34) hS ⟨rfl, rfl⟩ (hR _ (by decide)) ct_good ww_6 (mm_3 ww_259 ww_7 ww_8) (by decide +kernel) (by decide +kernel)) <|
  mm_at_cons (ok_if_ne (off := 13) (by decide +kernel) (by decide)) <|
  mm_at_nil
theorem ro_Ct_needJob : mm_RtOk prog_1_method_17_code (none) rt_Ct_needJob :=
  mm_rt_cons (Or.inl ⟨rfl, rfl, by decide +kernel⟩) <|
  mm_rt_nil
set_option maxRecDepth 100000 in
set_option maxHeartbeats 4000000 in
theorem po_Ct_track (hR : ∀ mx, mx ≤ 30 → (mm_rm d).frames + 1 ≤ R.frames ∧ 8 + (mx + 11) + (mm_rm d).locals ≤ R.locals) (hS : mm_Sound ct_GW ct_NW D ct_cl (ct_tys cA) ad cA ct_K ct_kd ct_N l cu_T (mm_rm d) S) : ∀ pc f, mm_at pg_Ct_track pc = some f → mm_Ok ct_GW ct_NW D ct_cl (ct_tys cA) ad cA ct_K ct_kd ct_N l R "CraneTurns" prog_1_method_2_code 5 S pc f :=
  mm_at_cons (ok_aload_n (k := 0) (by decide +kernel) rfl) <|
  mm_at_cons (ok_getr (ck := 3) (off := 8) (ci := 4) (k := 0) (idx := 10) rfl ct_in4 (by decide) ww_0 rfl rfl (by decide +kernel)) <|
  mm_at_cons (ok_callV (z := 15) (ci := 3) (idx := 23) rfl hS ⟨rfl, rfl⟩ (hR _ (by decide)) rfl ct_good ww_254 (mm_4 ww_256 ww_257 ww_255 ww_37) (by decide +kernel) (by decide +kernel)) <|
  mm_at_cons (ok_if_eq (off := 13) (by decide +kernel) (by decide)) <|
  mm_at_cons (ok_iload_n (k := 1) (by decide +kernel) rfl) <|
  mm_at_cons (ok_iconst (n := 1) (by decide +kernel) (by decide)) <|
  mm_at_cons (ok_iconst (n := 3) (by decide +kernel) (by decide)) <|
  mm_at_cons (ok_callS (z := 1) (idx := 34) hS ⟨rfl, rfl⟩ (hR _ (by decide)) ct_good ww_6 (mm_3 ww_259 ww_7 ww_8) (by decide +kernel) (by decide +kernel)) <|
  mm_at_cons (ok_if_eq (off := 34) (by decide +kernel) (by decide)) <|
  mm_at_cons (ok_iload_n (k := 2) (by decide +kernel) rfl) <|
  mm_at_cons (ok_iconst (n := 1) (by decide +kernel) (by decide)) <|
  mm_at_cons (ok_bipush (n := 30) (by decide +kernel) (by decide)) <|
  mm_at_cons (ok_callS (z := 1) (idx := 34) hS ⟨rfl, rfl⟩ (hR _ (by decide)) ct_good ww_6 (mm_3 ww_259 ww_7 ww_8) (by decide +kernel) (by decide +kernel)) <|
  mm_at_cons (ok_if_eq (off := 24) (by decide +kernel) (by decide)) <|
  mm_at_cons (ok_iload_n (k := 3) (by decide +kernel) rfl) <|
  mm_at_cons (ok_iconst (n := 1) (by decide +kernel) (by decide)) <|
  mm_at_cons (ok_bipush (n := 20) (by decide +kernel) (by decide)) <|
  mm_at_cons (ok_callS (z := 1) (idx := 34) hS ⟨rfl, rfl⟩ (hR _ (by decide)) ct_good ww_6 (mm_3 ww_259 ww_7 ww_8) (by decide +kernel) (by decide +kernel)) <|
  mm_at_cons (ok_if_eq (off := 14) (by decide +kernel) (by decide)) <|
  mm_at_cons (ok_iload (by decide +kernel)) <|
  mm_at_cons (ok_iconst (n := 1) (by decide +kernel) (by decide)) <|
  mm_at_cons (ok_bipush (n := 30) (by decide +kernel) (by decide)) <|
  mm_at_cons (ok_callS (z := 1) (idx := 34) hS ⟨rfl, rfl⟩ (hR _ (by decide)) ct_good ww_6 (mm_3 ww_259 ww_7 ww_8) (by decide +kernel) (by decide +kernel)) <|
  mm_at_cons (ok_if_ne (off := 13) (by decide +kernel) (by decide)) <|
  mm_at_cons (ok_aload_n (k := 0) (by decide +kernel) rfl) <|
  mm_at_cons (ok_getr (ck := 3) (off := 8) (ci := 4) (k := 0) (idx := 10) rfl ct_in4 (by decide) ww_0 rfl rfl (by decide +kernel)) <|
  mm_at_cons (ok_iload_n (k := 1) (by decide +kernel) rfl) <|
  mm_at_cons (ok_iload_n (k := 2) (by decide +kernel) rfl) <|
  mm_at_cons (ok_iload_n (k := 3) (by decide +kernel) rfl) <|
  mm_at_cons (ok_iload (by decide +kernel)) <|
  mm_at_cons (ok_callV (z := 16) (ci := 3) (idx := 43) rfl hS ⟨rfl, rfl⟩ (hR _ (by decide)) rfl ct_good ww_261 (mm_4 ww_263 ww_264 ww_262 ww_37) (by decide +kernel) (by decide +kernel)) <|
  mm_at_nil
theorem ro_Ct_track : mm_RtOk prog_1_method_2_code (none) rt_Ct_track :=
  mm_rt_cons (Or.inl ⟨rfl, rfl, by decide +kernel⟩) <|
  mm_rt_nil
set_option maxRecDepth 100000 in
set_option maxHeartbeats 4000000 in
theorem po_Ct_crane (hR : ∀ mx, mx ≤ 30 → (mm_rm d).frames + 1 ≤ R.frames ∧ 8 + (mx + 11) + (mm_rm d).locals ≤ R.locals) (hS : mm_Sound ct_GW ct_NW D ct_cl (ct_tys cA) ad cA ct_K ct_kd ct_N l cu_T (mm_rm d) S) : ∀ pc f, mm_at pg_Ct_crane pc = some f → mm_Ok ct_GW ct_NW D ct_cl (ct_tys cA) ad cA ct_K ct_kd ct_N l R "CraneTurns" prog_1_method_3_code 5 S pc f :=
  mm_at_cons (ok_aload_n (k := 0) (by decide +kernel) rfl) <|
  mm_at_cons (ok_iload_n (k := 1) (by decide +kernel) rfl) <|
  mm_at_cons (ok_callV (z := 71) (ci := 4) (idx := 47) rfl hS ⟨rfl, rfl⟩ (hR _ (by decide)) rfl ct_good ww_265 (mm_4 ww_266 ww_267 sel_71 ww_8) (by decide +kernel) (by decide +kernel)) <|
  mm_at_cons (ok_aload_n (k := 0) (by decide +kernel) rfl) <|
  mm_at_cons (ok_getr (ck := 3) (off := 8) (ci := 4) (k := 0) (idx := 10) rfl ct_in4 (by decide) ww_0 rfl rfl (by decide +kernel)) <|
  mm_at_cons (ok_getf (ci := 3) (k := 4) (idx := 51) rfl ct_in3 (by decide) ww_268 rfl rfl (by decide +kernel)) <|
  mm_at_cons (ok_if_gt (off := 13) (by decide +kernel) (by decide)) <|
  mm_at_cons (ok_aload_n (k := 0) (by decide +kernel) rfl) <|
  mm_at_cons (ok_getr (ck := 3) (off := 8) (ci := 4) (k := 0) (idx := 10) rfl ct_in4 (by decide) ww_0 rfl rfl (by decide +kernel)) <|
  mm_at_cons (ok_getf (ci := 3) (k := 8) (idx := 55) rfl ct_in3 (by decide) ww_269 rfl rfl (by decide +kernel)) <|
  mm_at_cons (ok_if_eq (off := 13) (by decide +kernel) (by decide)) <|
  mm_at_cons (ok_iload_n (k := 3) (by decide +kernel) rfl) <|
  mm_at_cons (ok_if_lt (off := 22) (by decide +kernel) (by decide)) <|
  mm_at_cons (ok_iload_n (k := 2) (by decide +kernel) rfl) <|
  mm_at_cons (ok_iload_n (k := 3) (by decide +kernel) rfl) <|
  mm_at_cons (ok_icmp_lt (off := 17) (by decide +kernel) (by decide)) <|
  mm_at_cons (ok_iload (by decide +kernel)) <|
  mm_at_cons (ok_iload_n (k := 2) (by decide +kernel) rfl) <|
  mm_at_cons (ok_icmp_lt (off := 11) (by decide +kernel) (by decide)) <|
  mm_at_cons (ok_iload (by decide +kernel)) <|
  mm_at_cons (ok_sipush (n := 200) (by decide +kernel) (by decide)) <|
  mm_at_cons (ok_icmp_le (off := 13) (by decide +kernel) (by decide)) <|
  mm_at_cons (ok_aload_n (k := 0) (by decide +kernel) rfl) <|
  mm_at_cons (ok_getr (ck := 3) (off := 8) (ci := 4) (k := 0) (idx := 10) rfl ct_in4 (by decide) ww_0 rfl rfl (by decide +kernel)) <|
  mm_at_cons (ok_iload_n (k := 1) (by decide +kernel) rfl) <|
  mm_at_cons (ok_iload_n (k := 2) (by decide +kernel) rfl) <|
  mm_at_cons (ok_callV (z := 23) (ci := 3) (idx := 63) rfl hS ⟨rfl, rfl⟩ (hR _ (by decide)) rfl ct_good ww_270 (mm_4 ww_272 ww_273 ww_271 ww_37) (by decide +kernel) (by decide +kernel)) <|
  mm_at_cons (ok_if_ne (off := 13) (by decide +kernel) (by decide)) <|
  mm_at_cons (ok_aload_n (k := 0) (by decide +kernel) rfl) <|
  mm_at_cons (ok_getr (ck := 3) (off := 8) (ci := 4) (k := 0) (idx := 10) rfl ct_in4 (by decide) ww_0 rfl rfl (by decide +kernel)) <|
  mm_at_cons (ok_getr (ck := 10) (off := 1) (ci := 3) (k := 9) (idx := 72) rfl ct_in3 (by decide) ww_274 rfl rfl (by decide +kernel)) <|
  mm_at_cons (ok_iload_n (k := 1) (by decide +kernel) rfl) <|
  mm_at_cons (ok_aald (t9 := 2) (C := "CraneTurns$Crane") (by decide) rfl rfl (by decide +kernel)) <|
  mm_at_cons (ok_iload_n (k := 2) (by decide +kernel) rfl) <|
  mm_at_cons (ok_iload_n (k := 3) (by decide +kernel) rfl) <|
  mm_at_cons (ok_iload (by decide +kernel)) <|
  mm_at_cons (ok_callV (z := 2) (ci := 0) (idx := 76) rfl hS ⟨rfl, rfl⟩ (hR _ (by decide)) rfl ct_good ww_13 (mm_4 ww_275 ww_16 ww_14 ww_17) (by decide +kernel) (by decide +kernel)) <|
  mm_at_nil
theorem ro_Ct_crane : mm_RtOk prog_1_method_3_code (none) rt_Ct_crane :=
  mm_rt_cons (Or.inl ⟨rfl, rfl, by decide +kernel⟩) <|
  mm_rt_nil
set_option maxRecDepth 100000 in
set_option maxHeartbeats 4000000 in
theorem po_Ct_job (hR : ∀ mx, mx ≤ 30 → (mm_rm d).frames + 1 ≤ R.frames ∧ 8 + (mx + 11) + (mm_rm d).locals ≤ R.locals) (hS : mm_Sound ct_GW ct_NW D ct_cl (ct_tys cA) ad cA ct_K ct_kd ct_N l cu_T (mm_rm d) S) : ∀ pc f, mm_at pg_Ct_job pc = some f → mm_Ok ct_GW ct_NW D ct_cl (ct_tys cA) ad cA ct_K ct_kd ct_N l R "CraneTurns" prog_1_method_4_code 4 S pc f :=
  mm_at_cons (ok_aload_n (k := 0) (by decide +kernel) rfl) <|
  mm_at_cons (ok_callV (z := 70) (ci := 4) (idx := 82) rfl hS ⟨rfl, rfl⟩ (hR _ (by decide)) rfl ct_good ww_276 (mm_4 ww_277 ww_278 sel_70 ww_8) (by decide +kernel) (by decide +kernel)) <|
  mm_at_cons (ok_iload_n (k := 1) (by decide +kernel) rfl) <|
  mm_at_cons (ok_iconst (n := 0) (by decide +kernel) (by decide)) <|
  mm_at_cons (ok_sipush (n := 200) (by decide +kernel) (by decide)) <|
  mm_at_cons (ok_callS (z := 1) (idx := 34) hS ⟨rfl, rfl⟩ (hR _ (by decide)) ct_good ww_6 (mm_3 ww_259 ww_7 ww_8) (by decide +kernel) (by decide +kernel)) <|
  mm_at_cons (ok_if_eq (off := 25) (by decide +kernel) (by decide)) <|
  mm_at_cons (ok_iload_n (k := 2) (by decide +kernel) rfl) <|
  mm_at_cons (ok_iconst (n := 0) (by decide +kernel) (by decide)) <|
  mm_at_cons (ok_sipush (n := 200) (by decide +kernel) (by decide)) <|
  mm_at_cons (ok_callS (z := 1) (idx := 34) hS ⟨rfl, rfl⟩ (hR _ (by decide)) ct_good ww_6 (mm_3 ww_259 ww_7 ww_8) (by decide +kernel) (by decide +kernel)) <|
  mm_at_cons (ok_if_eq (off := 14) (by decide +kernel) (by decide)) <|
  mm_at_cons (ok_iload_n (k := 3) (by decide +kernel) rfl) <|
  mm_at_cons (ok_iconst (n := 0) (by decide +kernel) (by decide)) <|
  mm_at_cons (ok_sipush (n := 5000) (by decide +kernel) (by decide)) <|
  mm_at_cons (ok_callS (z := 1) (idx := 34) hS ⟨rfl, rfl⟩ (hR _ (by decide)) ct_good ww_6 (mm_3 ww_259 ww_7 ww_8) (by decide +kernel) (by decide +kernel)) <|
  mm_at_cons (ok_if_ne (off := 13) (by decide +kernel) (by decide)) <|
  mm_at_cons (ok_aload_n (k := 0) (by decide +kernel) rfl) <|
  mm_at_cons (ok_getr (ck := 3) (off := 8) (ci := 4) (k := 0) (idx := 10) rfl ct_in4 (by decide) ww_0 rfl rfl (by decide +kernel)) <|
  mm_at_cons (ok_getf (ci := 3) (k := 6) (idx := 87) rfl ct_in3 (by decide) ww_260 rfl rfl (by decide +kernel)) <|
  mm_at_cons (ok_bipush (n := 8) (by decide +kernel) (by decide)) <|
  mm_at_cons (ok_icmp_lt (off := 13) (by decide +kernel) (by decide)) <|
  mm_at_cons (ok_aload_n (k := 0) (by decide +kernel) rfl) <|
  mm_at_cons (ok_getr (ck := 3) (off := 8) (ci := 4) (k := 0) (idx := 10) rfl ct_in4 (by decide) ww_0 rfl rfl (by decide +kernel)) <|
  mm_at_cons (ok_iload_n (k := 1) (by decide +kernel) rfl) <|
  mm_at_cons (ok_iload_n (k := 2) (by decide +kernel) rfl) <|
  mm_at_cons (ok_iload_n (k := 3) (by decide +kernel) rfl) <|
  mm_at_cons (ok_callV (z := 17) (ci := 3) (idx := 92) rfl hS ⟨rfl, rfl⟩ (hR _ (by decide)) rfl ct_good ww_279 (mm_4 ww_281 ww_282 ww_280 ww_37) (by decide +kernel) (by decide +kernel)) <|
  mm_at_nil
theorem ro_Ct_job : mm_RtOk prog_1_method_4_code (some .int) rt_Ct_job :=
  mm_rt_cons (Or.inr (Or.inl ⟨rfl, rfl, by decide +kernel⟩)) <|
  mm_rt_nil
set_option maxRecDepth 100000 in
set_option maxHeartbeats 4000000 in
theorem po_Ct_give (hR : ∀ mx, mx ≤ 30 → (mm_rm d).frames + 1 ≤ R.frames ∧ 8 + (mx + 11) + (mm_rm d).locals ≤ R.locals) (hS : mm_Sound ct_GW ct_NW D ct_cl (ct_tys cA) ad cA ct_K ct_kd ct_N l cu_T (mm_rm d) S) : ∀ pc f, mm_at pg_Ct_give pc = some f → mm_Ok ct_GW ct_NW D ct_cl (ct_tys cA) ad cA ct_K ct_kd ct_N l R "CraneTurns" prog_1_method_5_code 3 S pc f :=
  mm_at_cons (ok_aload_n (k := 0) (by decide +kernel) rfl) <|
  mm_at_cons (ok_iload_n (k := 1) (by decide +kernel) rfl) <|
  mm_at_cons (ok_callV (z := 72) (ci := 4) (idx := 96) rfl hS ⟨rfl, rfl⟩ (hR _ (by decide)) rfl ct_good ww_283 (mm_4 ww_284 ww_285 sel_72 ww_8) (by decide +kernel) (by decide +kernel)) <|
  mm_at_cons (ok_aload_n (k := 0) (by decide +kernel) rfl) <|
  mm_at_cons (ok_iload_n (k := 2) (by decide +kernel) rfl) <|
  mm_at_cons (ok_callV (z := 71) (ci := 4) (idx := 47) rfl hS ⟨rfl, rfl⟩ (hR _ (by decide)) rfl ct_good ww_265 (mm_4 ww_266 ww_267 sel_71 ww_8) (by decide +kernel) (by decide +kernel)) <|
  mm_at_cons (ok_aload_n (k := 0) (by decide +kernel) rfl) <|
  mm_at_cons (ok_getr (ck := 3) (off := 8) (ci := 4) (k := 0) (idx := 10) rfl ct_in4 (by decide) ww_0 rfl rfl (by decide +kernel)) <|
  mm_at_cons (ok_getr (ck := 11) (off := 2) (ci := 3) (k := 10) (idx := 99) rfl ct_in3 (by decide) ww_286 rfl rfl (by decide +kernel)) <|
  mm_at_cons (ok_iload_n (k := 1) (by decide +kernel) rfl) <|
  mm_at_cons (ok_aald (t9 := 3) (C := "CraneTurns$Job") (by decide) rfl rfl (by decide +kernel)) <|
  mm_at_cons (ok_getf (ci := 1) (k := 3) (idx := 103) rfl ct_in1 (by decide) ww_287 rfl rfl (by decide +kernel)) <|
  mm_at_cons (ok_if_eq (off := 13) (by decide +kernel) (by decide)) <|
  mm_at_cons (ok_aload_n (k := 0) (by decide +kernel) rfl) <|
  mm_at_cons (ok_getr (ck := 3) (off := 8) (ci := 4) (k := 0) (idx := 10) rfl ct_in4 (by decide) ww_0 rfl rfl (by decide +kernel)) <|
  mm_at_cons (ok_getr (ck := 10) (off := 1) (ci := 3) (k := 9) (idx := 72) rfl ct_in3 (by decide) ww_274 rfl rfl (by decide +kernel)) <|
  mm_at_cons (ok_iload_n (k := 2) (by decide +kernel) rfl) <|
  mm_at_cons (ok_aald (t9 := 2) (C := "CraneTurns$Crane") (by decide) rfl rfl (by decide +kernel)) <|
  mm_at_cons (ok_aload_n (k := 0) (by decide +kernel) rfl) <|
  mm_at_cons (ok_getr (ck := 3) (off := 8) (ci := 4) (k := 0) (idx := 10) rfl ct_in4 (by decide) ww_0 rfl rfl (by decide +kernel)) <|
  mm_at_cons (ok_getr (ck := 11) (off := 2) (ci := 3) (k := 10) (idx := 99) rfl ct_in3 (by decide) ww_286 rfl rfl (by decide +kernel)) <|
  mm_at_cons (ok_iload_n (k := 1) (by decide +kernel) rfl) <|
  mm_at_cons (ok_aald (t9 := 3) (C := "CraneTurns$Job") (by decide) rfl rfl (by decide +kernel)) <|
  mm_at_cons (ok_callV (z := 3) (ci := 0) (idx := 110) rfl hS ⟨rfl, rfl⟩ (hR _ (by decide)) rfl ct_good ww_60 (mm_4 ww_288 ww_63 ww_61 ww_17) (by decide +kernel) (by decide +kernel)) <|
  mm_at_cons (ok_if_ne (off := 13) (by decide +kernel) (by decide)) <|
  mm_at_cons (ok_aload_n (k := 0) (by decide +kernel) rfl) <|
  mm_at_cons (ok_getr (ck := 3) (off := 8) (ci := 4) (k := 0) (idx := 10) rfl ct_in4 (by decide) ww_0 rfl rfl (by decide +kernel)) <|
  mm_at_cons (ok_iload_n (k := 1) (by decide +kernel) rfl) <|
  mm_at_cons (ok_iload_n (k := 2) (by decide +kernel) rfl) <|
  mm_at_cons (ok_callV (z := 18) (ci := 3) (idx := 116) rfl hS ⟨rfl, rfl⟩ (hR _ (by decide)) rfl ct_good ww_74 (mm_4 ww_289 ww_77 ww_75 ww_37) (by decide +kernel) (by decide +kernel)) <|
  mm_at_nil
theorem ro_Ct_give : mm_RtOk prog_1_method_5_code (none) rt_Ct_give :=
  mm_rt_cons (Or.inl ⟨rfl, rfl, by decide +kernel⟩) <|
  mm_rt_nil
set_option maxRecDepth 100000 in
set_option maxHeartbeats 4000000 in
theorem po_Ct_take (hR : ∀ mx, mx ≤ 30 → (mm_rm d).frames + 1 ≤ R.frames ∧ 8 + (mx + 11) + (mm_rm d).locals ≤ R.locals) (hS : mm_Sound ct_GW ct_NW D ct_cl (ct_tys cA) ad cA ct_K ct_kd ct_N l cu_T (mm_rm d) S) : ∀ pc f, mm_at pg_Ct_take pc = some f → mm_Ok ct_GW ct_NW D ct_cl (ct_tys cA) ad cA ct_K ct_kd ct_N l R "CraneTurns" prog_1_method_6_code 2 S pc f :=
  mm_at_cons (ok_aload_n (k := 0) (by decide +kernel) rfl) <|
  mm_at_cons (ok_iload_n (k := 1) (by decide +kernel) rfl) <|
  mm_at_cons (ok_callV (z := 72) (ci := 4) (idx := 96) rfl hS ⟨rfl, rfl⟩ (hR _ (by decide)) rfl ct_good ww_283 (mm_4 ww_284 ww_285 sel_72 ww_8) (by decide +kernel) (by decide +kernel)) <|
  mm_at_cons (ok_aload_n (k := 0) (by decide +kernel) rfl) <|
  mm_at_cons (ok_getr (ck := 3) (off := 8) (ci := 4) (k := 0) (idx := 10) rfl ct_in4 (by decide) ww_0 rfl rfl (by decide +kernel)) <|
  mm_at_cons (ok_getr (ck := 11) (off := 2) (ci := 3) (k := 10) (idx := 99) rfl ct_in3 (by decide) ww_286 rfl rfl (by decide +kernel)) <|
  mm_at_cons (ok_iload_n (k := 1) (by decide +kernel) rfl) <|
  mm_at_cons (ok_aald (t9 := 3) (C := "CraneTurns$Job") (by decide) rfl rfl (by decide +kernel)) <|
  mm_at_cons (ok_getf (ci := 1) (k := 3) (idx := 103) rfl ct_in1 (by decide) ww_287 rfl rfl (by decide +kernel)) <|
  mm_at_cons (ok_iconst (n := 1) (by decide +kernel) (by decide)) <|
  mm_at_cons (ok_icmp_eq (off := 13) (by decide +kernel) (by decide)) <|
  mm_at_cons (ok_aload_n (k := 0) (by decide +kernel) rfl) <|
  mm_at_cons (ok_getr (ck := 3) (off := 8) (ci := 4) (k := 0) (idx := 10) rfl ct_in4 (by decide) ww_0 rfl rfl (by decide +kernel)) <|
  mm_at_cons (ok_iload_n (k := 1) (by decide +kernel) rfl) <|
  mm_at_cons (ok_callV (z := 19) (ci := 3) (idx := 122) rfl hS ⟨rfl, rfl⟩ (hR _ (by decide)) rfl ct_good ww_290 (mm_4 ww_292 ww_293 ww_291 ww_37) (by decide +kernel) (by decide +kernel)) <|
  mm_at_nil
theorem ro_Ct_take : mm_RtOk prog_1_method_6_code (none) rt_Ct_take :=
  mm_rt_cons (Or.inl ⟨rfl, rfl, by decide +kernel⟩) <|
  mm_rt_nil
set_option maxRecDepth 100000 in
set_option maxHeartbeats 4000000 in
theorem po_Ct_broken (hR : ∀ mx, mx ≤ 30 → (mm_rm d).frames + 1 ≤ R.frames ∧ 8 + (mx + 11) + (mm_rm d).locals ≤ R.locals) (hS : mm_Sound ct_GW ct_NW D ct_cl (ct_tys cA) ad cA ct_K ct_kd ct_N l cu_T (mm_rm d) S) : ∀ pc f, mm_at pg_Ct_broken pc = some f → mm_Ok ct_GW ct_NW D ct_cl (ct_tys cA) ad cA ct_K ct_kd ct_N l R "CraneTurns" prog_1_method_7_code 3 S pc f :=
  mm_at_cons (ok_aload_n (k := 0) (by decide +kernel) rfl) <|
  mm_at_cons (ok_iload_n (k := 1) (by decide +kernel) rfl) <|
  mm_at_cons (ok_callV (z := 71) (ci := 4) (idx := 47) rfl hS ⟨rfl, rfl⟩ (hR _ (by decide)) rfl ct_good ww_265 (mm_4 ww_266 ww_267 sel_71 ww_8) (by decide +kernel) (by decide +kernel)) <|
  mm_at_cons (ok_aload_n (k := 0) (by decide +kernel) rfl) <|
  mm_at_cons (ok_getr (ck := 3) (off := 8) (ci := 4) (k := 0) (idx := 10) rfl ct_in4 (by decide) ww_0 rfl rfl (by decide +kernel)) <|
  mm_at_cons (ok_getr (ck := 10) (off := 1) (ci := 3) (k := 9) (idx := 72) rfl ct_in3 (by decide) ww_274 rfl rfl (by decide +kernel)) <|
  mm_at_cons (ok_iload_n (k := 1) (by decide +kernel) rfl) <|
  mm_at_cons (ok_aald (t9 := 2) (C := "CraneTurns$Crane") (by decide) rfl rfl (by decide +kernel)) <|
  mm_at_cons (ok_getf (ci := 0) (k := 3) (idx := 125) rfl ct_in0 (by decide) ww_294 rfl rfl (by decide +kernel)) <|
  mm_at_cons (ok_iload_n (k := 2) (by decide +kernel) rfl) <|
  mm_at_cons (ok_icmp_ne (off := 13) (by decide +kernel) (by decide)) <|
  mm_at_cons (ok_aload_n (k := 0) (by decide +kernel) rfl) <|
  mm_at_cons (ok_getr (ck := 3) (off := 8) (ci := 4) (k := 0) (idx := 10) rfl ct_in4 (by decide) ww_0 rfl rfl (by decide +kernel)) <|
  mm_at_cons (ok_getr (ck := 10) (off := 1) (ci := 3) (k := 9) (idx := 72) rfl ct_in3 (by decide) ww_274 rfl rfl (by decide +kernel)) <|
  mm_at_cons (ok_iload_n (k := 1) (by decide +kernel) rfl) <|
  mm_at_cons (ok_aald (t9 := 2) (C := "CraneTurns$Crane") (by decide) rfl rfl (by decide +kernel)) <|
  mm_at_cons (ok_iload_n (k := 2) (by decide +kernel) rfl) <|
  mm_at_cons (ok_putz (ci := 0) (k := 3) (idx := 125) rfl ct_in0 (by decide) ww_294 rfl ct_ty0 ct_tyok0 ct_nm0 rfl (by decide +kernel) rfl (by decide +kernel)) <|
  mm_at_nil
theorem ro_Ct_broken : mm_RtOk prog_1_method_7_code (none) rt_Ct_broken :=
  mm_rt_cons (Or.inl ⟨rfl, rfl, by decide +kernel⟩) <|
  mm_rt_nil
set_option maxRecDepth 100000 in
set_option maxHeartbeats 4000000 in
theorem po_Ct_run (hR : ∀ mx, mx ≤ 30 → (mm_rm d).frames + 1 ≤ R.frames ∧ 8 + (mx + 11) + (mm_rm d).locals ≤ R.locals) (hS : mm_Sound ct_GW ct_NW D ct_cl (ct_tys cA) ad cA ct_K ct_kd ct_N l cu_T (mm_rm d) S) : ∀ pc f, mm_at pg_Ct_run pc = some f → mm_Ok ct_GW ct_NW D ct_cl (ct_tys cA) ad cA ct_K ct_kd ct_N l R "CraneTurns" prog_1_method_8_code 3 S pc f :=
  mm_at_cons (ok_aload_n (k := 0) (by decide +kernel) rfl) <|
  mm_at_cons (ok_callV (z := 70) (ci := 4) (idx := 82) rfl hS ⟨rfl, rfl⟩ (hR _ (by decide)) rfl ct_good ww_276 (mm_4 ww_277 ww_278 sel_70 ww_8) (by decide +kernel) (by decide +kernel)) <|
  mm_at_cons (ok_iload_n (k := 1) (by decide +kernel) rfl) <|
  mm_at_cons (ok_iconst (n := 0) (by decide +kernel) (by decide)) <|
  mm_at_cons (ok_sipush (n := 1000) (by decide +kernel) (by decide)) <|
  mm_at_cons (ok_callS (z := 1) (idx := 34) hS ⟨rfl, rfl⟩ (hR _ (by decide)) ct_good ww_6 (mm_3 ww_259 ww_7 ww_8) (by decide +kernel) (by decide +kernel)) <|
  mm_at_cons (ok_if_eq (off := 17) (by decide +kernel) (by decide)) <|
  mm_at_cons (ok_aload_n (k := 0) (by decide +kernel) rfl) <|
  mm_at_cons (ok_getr (ck := 3) (off := 8) (ci := 4) (k := 0) (idx := 10) rfl ct_in4 (by decide) ww_0 rfl rfl (by decide +kernel)) <|
  mm_at_cons (ok_getf (ci := 3) (k := 4) (idx := 51) rfl ct_in3 (by decide) ww_268 rfl rfl (by decide +kernel)) <|
  mm_at_cons (ok_iload_n (k := 1) (by decide +kernel) rfl) <|
  mm_at_cons (ok_iadd (by decide +kernel)) <|
  mm_at_cons (ok_ldc (idx := 130) ww_295 (by decide +kernel)) <|
  mm_at_cons (ok_icmp_le (off := 13) (by decide +kernel) (by decide)) <|
  mm_at_cons (ok_iconst (n := 0) (by decide +kernel) (by decide)) <|
  mm_at_cons (ok_istore_n (k := 2) (by decide +kernel) rfl) <|
  mm_at_cons (ok_iload_n (k := 2) (by decide +kernel) rfl) <|
  mm_at_cons (ok_iload_n (k := 1) (by decide +kernel) rfl) <|
  mm_at_cons (ok_icmp_ge (off := 16) (by decide +kernel) (by decide)) <|
  mm_at_cons (ok_aload_n (k := 0) (by decide +kernel) rfl) <|
  mm_at_cons (ok_getr (ck := 3) (off := 8) (ci := 4) (k := 0) (idx := 10) rfl ct_in4 (by decide) ww_0 rfl rfl (by decide +kernel)) <|
  mm_at_cons (ok_callV (z := 24) (ci := 3) (idx := 133) rfl hS ⟨rfl, rfl⟩ (hR _ (by decide)) rfl ct_good ww_79 (mm_4 ww_296 ww_82 ww_80 ww_37) (by decide +kernel) (by decide +kernel)) <|
  mm_at_cons (ok_iinc (n := 1) (by decide +kernel) (by decide)) <|
  mm_at_cons (ok_goto (off := (-15)) (by decide +kernel) (by decide)) <|
  mm_at_cons (ok_aload_n (k := 0) (by decide +kernel) rfl) <|
  mm_at_cons (ok_getr (ck := 3) (off := 8) (ci := 4) (k := 0) (idx := 10) rfl ct_in4 (by decide) ww_0 rfl rfl (by decide +kernel)) <|
  mm_at_cons (ok_getf (ci := 3) (k := 4) (idx := 51) rfl ct_in3 (by decide) ww_268 rfl rfl (by decide +kernel)) <|
  mm_at_nil
theorem ro_Ct_run : mm_RtOk prog_1_method_8_code (some .int) rt_Ct_run :=
  mm_rt_cons (Or.inr (Or.inl ⟨rfl, rfl, by decide +kernel⟩)) <|
  mm_rt_nil
set_option maxRecDepth 100000 in
set_option maxHeartbeats 4000000 in
theorem po_Ct_at (hR : ∀ mx, mx ≤ 30 → (mm_rm d).frames + 1 ≤ R.frames ∧ 8 + (mx + 11) + (mm_rm d).locals ≤ R.locals) (hS : mm_Sound ct_GW ct_NW D ct_cl (ct_tys cA) ad cA ct_K ct_kd ct_N l cu_T (mm_rm d) S) : ∀ pc f, mm_at pg_Ct_at pc = some f → mm_Ok ct_GW ct_NW D ct_cl (ct_tys cA) ad cA ct_K ct_kd ct_N l R "CraneTurns" prog_1_method_9_code 4 S pc f :=
  mm_at_cons (ok_aload_n (k := 0) (by decide +kernel) rfl) <|
  mm_at_cons (ok_iload_n (k := 1) (by decide +kernel) rfl) <|
  mm_at_cons (ok_callV (z := 71) (ci := 4) (idx := 47) rfl hS ⟨rfl, rfl⟩ (hR _ (by decide)) rfl ct_good ww_265 (mm_4 ww_266 ww_267 sel_71 ww_8) (by decide +kernel) (by decide +kernel)) <|
  mm_at_cons (ok_aload_n (k := 0) (by decide +kernel) rfl) <|
  mm_at_cons (ok_getr (ck := 3) (off := 8) (ci := 4) (k := 0) (idx := 10) rfl ct_in4 (by decide) ww_0 rfl rfl (by decide +kernel)) <|
  mm_at_cons (ok_getr (ck := 10) (off := 1) (ci := 3) (k := 9) (idx := 72) rfl ct_in3 (by decide) ww_274 rfl rfl (by decide +kernel)) <|
  mm_at_cons (ok_iload_n (k := 1) (by decide +kernel) rfl) <|
  mm_at_cons (ok_aald (t9 := 2) (C := "CraneTurns$Crane") (by decide) rfl rfl (by decide +kernel)) <|
  mm_at_cons (ok_astore_n (k := 3) (by decide +kernel) rfl) <|
  mm_at_cons (ok_iload_n (k := 2) (by decide +kernel) rfl) <|
  mm_at_cons (ok_tsw (dflt := 96) (offs := #[48, 53, 58, 63, 70, 77, 84, 91]) (len := 48) (by decide +kernel) (by decide) (by decide) (by decide)) <|
  mm_at_cons (ok_aload_n (k := 3) (by decide +kernel) rfl) <|
  mm_at_cons (ok_getf (ci := 0) (k := 0) (idx := 136) rfl ct_in0 (by decide) ww_297 rfl rfl (by decide +kernel)) <|
  mm_at_cons (ok_aload_n (k := 3) (by decide +kernel) rfl) <|
  mm_at_cons (ok_getf (ci := 0) (k := 4) (idx := 139) rfl ct_in0 (by decide) ww_298 rfl rfl (by decide +kernel)) <|
  mm_at_cons (ok_aload_n (k := 3) (by decide +kernel) rfl) <|
  mm_at_cons (ok_getf (ci := 0) (k := 10) (idx := 142) rfl ct_in0 (by decide) ww_299 rfl rfl (by decide +kernel)) <|
  mm_at_cons (ok_aload_n (k := 3) (by decide +kernel) rfl) <|
  mm_at_cons (ok_getr (ck := 6) (off := 1) (ci := 0) (k := 8) (idx := 145) rfl ct_in0 (by decide) ww_300 rfl rfl (by decide +kernel)) <|
  mm_at_cons (ok_iconst (n := 0) (by decide +kernel) (by decide)) <|
  mm_at_cons (ok_iald (t9 := 0) (by decide) rfl rfl (by decide +kernel)) <|
  mm_at_cons (ok_aload_n (k := 3) (by decide +kernel) rfl) <|
  mm_at_cons (ok_getr (ck := 6) (off := 1) (ci := 0) (k := 8) (idx := 145) rfl ct_in0 (by decide) ww_300 rfl rfl (by decide +kernel)) <|
  mm_at_cons (ok_iconst (n := 1) (by decide +kernel) (by decide)) <|
  mm_at_cons (ok_iald (t9 := 0) (by decide) rfl rfl (by decide +kernel)) <|
  mm_at_cons (ok_aload_n (k := 3) (by decide +kernel) rfl) <|
  mm_at_cons (ok_getr (ck := 6) (off := 1) (ci := 0) (k := 8) (idx := 145) rfl ct_in0 (by decide) ww_300 rfl rfl (by decide +kernel)) <|
  mm_at_cons (ok_iconst (n := 2) (by decide +kernel) (by decide)) <|
  mm_at_cons (ok_iald (t9 := 0) (by decide) rfl rfl (by decide +kernel)) <|
  mm_at_cons (ok_aload_n (k := 3) (by decide +kernel) rfl) <|
  mm_at_cons (ok_getr (ck := 6) (off := 1) (ci := 0) (k := 8) (idx := 145) rfl ct_in0 (by decide) ww_300 rfl rfl (by decide +kernel)) <|
  mm_at_cons (ok_iconst (n := 3) (by decide +kernel) (by decide)) <|
  mm_at_cons (ok_iald (t9 := 0) (by decide) rfl rfl (by decide +kernel)) <|
  mm_at_cons (ok_aload_n (k := 3) (by decide +kernel) rfl) <|
  mm_at_cons (ok_getf (ci := 0) (k := 5) (idx := 149) rfl ct_in0 (by decide) ww_301 rfl rfl (by decide +kernel)) <|
  mm_at_nil
theorem ro_Ct_at : mm_RtOk prog_1_method_9_code (some .int) rt_Ct_at :=
  mm_rt_cons (Or.inr (Or.inl ⟨rfl, rfl, by decide +kernel⟩)) <|
  mm_rt_cons (Or.inr (Or.inl ⟨rfl, rfl, by decide +kernel⟩)) <|
  mm_rt_cons (Or.inr (Or.inl ⟨rfl, rfl, by decide +kernel⟩)) <|
  mm_rt_cons (Or.inr (Or.inl ⟨rfl, rfl, by decide +kernel⟩)) <|
  mm_rt_cons (Or.inr (Or.inl ⟨rfl, rfl, by decide +kernel⟩)) <|
  mm_rt_cons (Or.inr (Or.inl ⟨rfl, rfl, by decide +kernel⟩)) <|
  mm_rt_cons (Or.inr (Or.inl ⟨rfl, rfl, by decide +kernel⟩)) <|
  mm_rt_cons (Or.inr (Or.inl ⟨rfl, rfl, by decide +kernel⟩)) <|
  mm_rt_nil
set_option maxRecDepth 100000 in
set_option maxHeartbeats 4000000 in
theorem po_Ct_state (hR : ∀ mx, mx ≤ 30 → (mm_rm d).frames + 1 ≤ R.frames ∧ 8 + (mx + 11) + (mm_rm d).locals ≤ R.locals) (hS : mm_Sound ct_GW ct_NW D ct_cl (ct_tys cA) ad cA ct_K ct_kd ct_N l cu_T (mm_rm d) S) : ∀ pc f, mm_at pg_Ct_state pc = some f → mm_Ok ct_GW ct_NW D ct_cl (ct_tys cA) ad cA ct_K ct_kd ct_N l R "CraneTurns" prog_1_method_10_code 4 S pc f :=
  mm_at_cons (ok_aload_n (k := 0) (by decide +kernel) rfl) <|
  mm_at_cons (ok_iload_n (k := 1) (by decide +kernel) rfl) <|
  mm_at_cons (ok_callV (z := 72) (ci := 4) (idx := 96) rfl hS ⟨rfl, rfl⟩ (hR _ (by decide)) rfl ct_good ww_283 (mm_4 ww_284 ww_285 sel_72 ww_8) (by decide +kernel) (by decide +kernel)) <|
  mm_at_cons (ok_aload_n (k := 0) (by decide +kernel) rfl) <|
  mm_at_cons (ok_getr (ck := 3) (off := 8) (ci := 4) (k := 0) (idx := 10) rfl ct_in4 (by decide) ww_0 rfl rfl (by decide +kernel)) <|
  mm_at_cons (ok_getr (ck := 11) (off := 2) (ci := 3) (k := 10) (idx := 99) rfl ct_in3 (by decide) ww_286 rfl rfl (by decide +kernel)) <|
  mm_at_cons (ok_iload_n (k := 1) (by decide +kernel) rfl) <|
  mm_at_cons (ok_aald (t9 := 3) (C := "CraneTurns$Job") (by decide) rfl rfl (by decide +kernel)) <|
  mm_at_cons (ok_astore_n (k := 3) (by decide +kernel) rfl) <|
  mm_at_cons (ok_iload_n (k := 2) (by decide +kernel) rfl) <|
  mm_at_cons (ok_tsw (dflt := 43) (offs := #[28, 33, 38]) (len := 28) (by decide +kernel) (by decide) (by decide) (by decide)) <|
  mm_at_cons (ok_aload_n (k := 3) (by decide +kernel) rfl) <|
  mm_at_cons (ok_getf (ci := 1) (k := 3) (idx := 103) rfl ct_in1 (by decide) ww_287 rfl rfl (by decide +kernel)) <|
  mm_at_cons (ok_aload_n (k := 3) (by decide +kernel) rfl) <|
  mm_at_cons (ok_getf (ci := 1) (k := 4) (idx := 157) rfl ct_in1 (by decide) ww_302 rfl rfl (by decide +kernel)) <|
  mm_at_cons (ok_aload_n (k := 3) (by decide +kernel) rfl) <|
  mm_at_cons (ok_getf (ci := 1) (k := 5) (idx := 160) rfl ct_in1 (by decide) ww_303 rfl rfl (by decide +kernel)) <|
  mm_at_nil
theorem ro_Ct_state : mm_RtOk prog_1_method_10_code (some .int) rt_Ct_state :=
  mm_rt_cons (Or.inr (Or.inl ⟨rfl, rfl, by decide +kernel⟩)) <|
  mm_rt_cons (Or.inr (Or.inl ⟨rfl, rfl, by decide +kernel⟩)) <|
  mm_rt_cons (Or.inr (Or.inl ⟨rfl, rfl, by decide +kernel⟩)) <|
  mm_rt_nil
set_option maxRecDepth 100000 in
set_option maxHeartbeats 4000000 in
theorem po_Ct_plan (hR : ∀ mx, mx ≤ 30 → (mm_rm d).frames + 1 ≤ R.frames ∧ 8 + (mx + 11) + (mm_rm d).locals ≤ R.locals) (hS : mm_Sound ct_GW ct_NW D ct_cl (ct_tys cA) ad cA ct_K ct_kd ct_N l cu_T (mm_rm d) S) : ∀ pc f, mm_at pg_Ct_plan pc = some f → mm_Ok ct_GW ct_NW D ct_cl (ct_tys cA) ad cA ct_K ct_kd ct_N l R "CraneTurns" prog_1_method_12_code 2 S pc f :=
  mm_at_cons (ok_aload_n (k := 0) (by decide +kernel) rfl) <|
  mm_at_cons (ok_callV (z := 70) (ci := 4) (idx := 82) rfl hS ⟨rfl, rfl⟩ (hR _ (by decide)) rfl ct_good ww_276 (mm_4 ww_277 ww_278 sel_70 ww_8) (by decide +kernel) (by decide +kernel)) <|
  mm_at_cons (ok_iload_n (k := 1) (by decide +kernel) rfl) <|
  mm_at_cons (ok_iconst (n := 1) (by decide +kernel) (by decide)) <|
  mm_at_cons (ok_sipush (n := 300) (by decide +kernel) (by decide)) <|
  mm_at_cons (ok_callS (z := 1) (idx := 34) hS ⟨rfl, rfl⟩ (hR _ (by decide)) ct_good ww_6 (mm_3 ww_259 ww_7 ww_8) (by decide +kernel) (by decide +kernel)) <|
  mm_at_cons (ok_if_ne (off := 13) (by decide +kernel) (by decide)) <|
  mm_at_cons (ok_aload_n (k := 0) (by decide +kernel) rfl) <|
  mm_at_cons (ok_getr (ck := 3) (off := 8) (ci := 4) (k := 0) (idx := 10) rfl ct_in4 (by decide) ww_0 rfl rfl (by decide +kernel)) <|
  mm_at_cons (ok_callV (z := 20) (ci := 3) (idx := 168) rfl hS ⟨rfl, rfl⟩ (hR _ (by decide)) rfl ct_good ww_33 (mm_4 ww_304 ww_36 ww_34 ww_37) (by decide +kernel) (by decide +kernel)) <|
  mm_at_cons (ok_iconst (n := 4) (by decide +kernel) (by decide)) <|
  mm_at_cons (ok_icmp_le (off := 13) (by decide +kernel) (by decide)) <|
  mm_at_cons (ok_aload_n (k := 0) (by decide +kernel) rfl) <|
  mm_at_cons (ok_getr (ck := 2) (off := 1) (ci := 4) (k := 1) (idx := 19) rfl ct_in4 (by decide) ww_305 rfl rfl (by decide +kernel)) <|
  mm_at_cons (ok_aload_n (k := 0) (by decide +kernel) rfl) <|
  mm_at_cons (ok_getr (ck := 3) (off := 8) (ci := 4) (k := 0) (idx := 10) rfl ct_in4 (by decide) ww_0 rfl rfl (by decide +kernel)) <|
  mm_at_cons (ok_iload_n (k := 1) (by decide +kernel) rfl) <|
  mm_at_cons (ok_callV (z := 9) (ci := 2) (idx := 174) rfl hS ⟨rfl, rfl⟩ (hR _ (by decide)) rfl ct_good ww_306 (mm_4 ww_308 ww_309 ww_307 ww_49) (by decide +kernel) (by decide +kernel)) <|
  mm_at_nil
theorem ro_Ct_plan : mm_RtOk prog_1_method_12_code (some .int) rt_Ct_plan :=
  mm_rt_cons (Or.inr (Or.inl ⟨rfl, rfl, by decide +kernel⟩)) <|
  mm_rt_nil
set_option maxRecDepth 100000 in
set_option maxHeartbeats 4000000 in
theorem po_Ct_planned (hR : ∀ mx, mx ≤ 30 → (mm_rm d).frames + 1 ≤ R.frames ∧ 8 + (mx + 11) + (mm_rm d).locals ≤ R.locals) (hS : mm_Sound ct_GW ct_NW D ct_cl (ct_tys cA) ad cA ct_K ct_kd ct_N l cu_T (mm_rm d) S) : ∀ pc f, mm_at pg_Ct_planned pc = some f → mm_Ok ct_GW ct_NW D ct_cl (ct_tys cA) ad cA ct_K ct_kd ct_N l R "CraneTurns" prog_1_method_13_code 2 S pc f :=
  mm_at_cons (ok_iload_n (k := 1) (by decide +kernel) rfl) <|
  mm_at_cons (ok_if_ge (off := 13) (by decide +kernel) (by decide)) <|
  mm_at_cons (ok_aload_n (k := 0) (by decide +kernel) rfl) <|
  mm_at_cons (ok_getr (ck := 2) (off := 1) (ci := 4) (k := 1) (idx := 19) rfl ct_in4 (by decide) ww_305 rfl rfl (by decide +kernel)) <|
  mm_at_cons (ok_iload_n (k := 1) (by decide +kernel) rfl) <|
  mm_at_cons (ok_callV (z := 10) (ci := 2) (idx := 180) rfl hS ⟨rfl, rfl⟩ (hR _ (by decide)) rfl ct_good ww_310 (mm_4 ww_312 ww_313 ww_311 ww_49) (by decide +kernel) (by decide +kernel)) <|
  mm_at_nil
theorem ro_Ct_planned : mm_RtOk prog_1_method_13_code (some .int) rt_Ct_planned :=
  mm_rt_cons (Or.inr (Or.inl ⟨rfl, rfl, by decide +kernel⟩)) <|
  mm_rt_nil
end
