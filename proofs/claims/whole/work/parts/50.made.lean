set_option maxHeartbeats 4000000 in
set_option maxRecDepth 100000 in
theorem Text_init_k0_ok {s : gS} {z0 : Int} {s0 : gS} (h : Text_init_k0 s = some (z0, s0)) : Ct M_Text_init Y_2 [.ref 1] s (QC Y_8 s0) := by
  refine Ct_of [some (.ref 1)] (plainFor_of_name (by decide)) rfl (Nat.le_of_ble_eq_true rfl) rfl (by decide) q_rC ?_
  unfold Text_init_k0 at h
  refine G_aload_n (g_da dt_Text_init 0 rfl) rfl rfl ?_
  refine G_objInit (g_da dt_Text_init 1 rfl) oi_8_3 oi_i oi_c rfl ?_
  refine G_aload_n (g_da dt_Text_init 2 rfl) rfl rfl ?_
  refine G_sipush (g_da dt_Text_init 3 rfl) s16w_300 ?_
  refine G_newarray (S' := Y_3) (q := 2) (g_da dt_Text_init 4 rfl) rfl (g_ark0 300) ay_0 w_300 (by decide +kernel) rfl (by decide +kernel) (Nat.le_of_ble_eq_true rfl) (Nat.le_of_ble_eq_true rfl) rfl (by decide +kernel) ?_
  refine G_putF (S' := Y_4) (g_da dt_Text_init 5 rfl) (show Y_3[1]? = some (.inr (1, [some none, some none, some none, none])) by decide +kernel) fq_8_9 rfl rfl (fun _ => rfl) (fun _ => rfl) (by decide +kernel) fr_8_9 rfl ?_
  refine G_aload_n (g_da dt_Text_init 6 rfl) rfl rfl ?_
  refine G_sipush (g_da dt_Text_init 7 rfl) s16w_300 ?_
  refine G_newarray (S' := Y_5) (q := 3) (g_da dt_Text_init 8 rfl) rfl (g_ark0 300) ay_0 w_300 (by decide +kernel) rfl (by decide +kernel) (Nat.le_of_ble_eq_true rfl) (Nat.le_of_ble_eq_true rfl) rfl (by decide +kernel) ?_
  refine G_putF (S' := Y_6) (g_da dt_Text_init 9 rfl) (show Y_5[1]? = some (.inr (1, [some (some 2), some none, some none, none])) by decide +kernel) fq_8_15 rfl rfl (fun _ => rfl) (fun _ => rfl) (by decide +kernel) fr_8_15 rfl ?_
  refine G_aload_n (g_da dt_Text_init 10 rfl) rfl rfl ?_
  refine G_bipush (g_da dt_Text_init 11 rfl) b8w_8 ?_
  refine G_newarray (S' := Y_7) (q := 4) (g_da dt_Text_init 12 rfl) rfl (g_ark0 8) ay_0 w_8 (by decide +kernel) rfl (by decide +kernel) (Nat.le_of_ble_eq_true rfl) (Nat.le_of_ble_eq_true rfl) rfl (by decide +kernel) ?_
  refine G_putF (S' := Y_8) (g_da dt_Text_init 13 rfl) (show Y_7[1]? = some (.inr (1, [some (some 2), some (some 3), some none, none])) by decide +kernel) fq_8_18 rfl rfl (fun _ => rfl) (fun _ => rfl) (by decide +kernel) fr_8_18 rfl ?_
  exact G_return (g_da dt_Text_init 14 rfl) rfl rfl (fun _ => ⟨rfl, by decide +kernel⟩) (q_c h)
set_option maxHeartbeats 4000000 in
set_option maxRecDepth 100000 in
theorem Text_init_k1_ok {s : gS} {z0 : Int} {s0 : gS} (h : Text_init_k1 s = some (z0, s0)) : Ct M_Text_init Y_11 [.ref 6] s (QC Y_17 s0) := by
  refine Ct_of [some (.ref 6)] (plainFor_of_name (by decide)) rfl (Nat.le_of_ble_eq_true rfl) rfl (by decide) q_rC ?_
  unfold Text_init_k1 at h
  refine G_aload_n (g_da dt_Text_init 0 rfl) rfl rfl ?_
  refine G_objInit (g_da dt_Text_init 1 rfl) oi_8_3 oi_i oi_c rfl ?_
  refine G_aload_n (g_da dt_Text_init 2 rfl) rfl rfl ?_
  refine G_sipush (g_da dt_Text_init 3 rfl) s16w_300 ?_
  refine G_newarray (S' := Y_12) (q := 7) (g_da dt_Text_init 4 rfl) rfl (g_ark0 300) ay_0 w_300 (by decide +kernel) rfl (by decide +kernel) (Nat.le_of_ble_eq_true rfl) (Nat.le_of_ble_eq_true rfl) rfl (by decide +kernel) ?_
  refine G_putF (S' := Y_13) (g_da dt_Text_init 5 rfl) (show Y_12[6]? = some (.inr (1, [some none, some none, some none, none])) by decide +kernel) fq_8_9 rfl rfl (fun _ => rfl) (fun _ => rfl) (by decide +kernel) fr_8_9 rfl ?_
  refine G_aload_n (g_da dt_Text_init 6 rfl) rfl rfl ?_
  refine G_sipush (g_da dt_Text_init 7 rfl) s16w_300 ?_
  refine G_newarray (S' := Y_14) (q := 8) (g_da dt_Text_init 8 rfl) rfl (g_ark0 300) ay_0 w_300 (by decide +kernel) rfl (by decide +kernel) (Nat.le_of_ble_eq_true rfl) (Nat.le_of_ble_eq_true rfl) rfl (by decide +kernel) ?_
  refine G_putF (S' := Y_15) (g_da dt_Text_init 9 rfl) (show Y_14[6]? = some (.inr (1, [some (some 7), some none, some none, none])) by decide +kernel) fq_8_15 rfl rfl (fun _ => rfl) (fun _ => rfl) (by decide +kernel) fr_8_15 rfl ?_
  refine G_aload_n (g_da dt_Text_init 10 rfl) rfl rfl ?_
  refine G_bipush (g_da dt_Text_init 11 rfl) b8w_8 ?_
  refine G_newarray (S' := Y_16) (q := 9) (g_da dt_Text_init 12 rfl) rfl (g_ark0 8) ay_0 w_8 (by decide +kernel) rfl (by decide +kernel) (Nat.le_of_ble_eq_true rfl) (Nat.le_of_ble_eq_true rfl) rfl (by decide +kernel) ?_
  refine G_putF (S' := Y_17) (g_da dt_Text_init 13 rfl) (show Y_16[6]? = some (.inr (1, [some (some 7), some (some 8), some none, none])) by decide +kernel) fq_8_18 rfl rfl (fun _ => rfl) (fun _ => rfl) (by decide +kernel) fr_8_18 rfl ?_
  exact G_return (g_da dt_Text_init 14 rfl) rfl rfl (fun _ => ⟨rfl, by decide +kernel⟩) (q_c h)
set_option maxHeartbeats 4000000 in
set_option maxRecDepth 100000 in
theorem Calls_init_k0_ok {s : gS} {z0 : Int} {s0 : gS} (h : Calls_init_k0 s = some (z0, s0)) : Ct M_Calls_init Y_19 [.ref 10] s (QC Y_27 s0) := by
  refine Ct_of [some (.ref 10)] (plainFor_of_name (by decide)) rfl (Nat.le_of_ble_eq_true rfl) rfl (by decide) q_rC ?_
  unfold Calls_init_k0 at h
  refine G_aload_n (g_da dt_Calls_init 0 rfl) rfl rfl ?_
  refine G_objInit (g_da dt_Calls_init 1 rfl) oi_7_3 oi_i oi_c rfl ?_
  refine G_aload_n (g_da dt_Calls_init 2 rfl) rfl rfl ?_
  refine G_bipush (g_da dt_Calls_init 3 rfl) b8w_21 ?_
  refine G_newarray (S' := Y_20) (q := 11) (g_da dt_Calls_init 4 rfl) rfl (g_ark0 21) ay_0 w_21 (by decide +kernel) rfl (by decide +kernel) (Nat.le_of_ble_eq_true rfl) (Nat.le_of_ble_eq_true rfl) rfl (by decide +kernel) ?_
  refine G_putF (S' := Y_21) (g_da dt_Calls_init 5 rfl) (show Y_20[10]? = some (.inr (3, [some none, some none, some none, some none, none])) by decide +kernel) fq_7_9 rfl rfl (fun _ => rfl) (fun _ => rfl) (by decide +kernel) fr_7_9 rfl ?_
  refine G_aload_n (g_da dt_Calls_init 6 rfl) rfl rfl ?_
  refine G_bipush (g_da dt_Calls_init 7 rfl) b8w_21 ?_
  refine G_newarray (S' := Y_22) (q := 12) (g_da dt_Calls_init 8 rfl) rfl (g_ark0 21) ay_0 w_21 (by decide +kernel) rfl (by decide +kernel) (Nat.le_of_ble_eq_true rfl) (Nat.le_of_ble_eq_true rfl) rfl (by decide +kernel) ?_
  refine G_putF (S' := Y_23) (g_da dt_Calls_init 9 rfl) (show Y_22[10]? = some (.inr (3, [some (some 11), some none, some none, some none, none])) by decide +kernel) fq_7_15 rfl rfl (fun _ => rfl) (fun _ => rfl) (by decide +kernel) fr_7_15 rfl ?_
  refine G_aload_n (g_da dt_Calls_init 10 rfl) rfl rfl ?_
  refine G_bipush (g_da dt_Calls_init 11 rfl) b8w_21 ?_
  refine G_newarray (S' := Y_24) (q := 13) (g_da dt_Calls_init 12 rfl) rfl (g_ark0 21) ay_0 w_21 (by decide +kernel) rfl (by decide +kernel) (Nat.le_of_ble_eq_true rfl) (Nat.le_of_ble_eq_true rfl) rfl (by decide +kernel) ?_
  refine G_putF (S' := Y_25) (g_da dt_Calls_init 13 rfl) (show Y_24[10]? = some (.inr (3, [some (some 11), some (some 12), some none, some none, none])) by decide +kernel) fq_7_18 rfl rfl (fun _ => rfl) (fun _ => rfl) (by decide +kernel) fr_7_18 rfl ?_
  refine G_aload_n (g_da dt_Calls_init 14 rfl) rfl rfl ?_
  refine G_bipush (g_da dt_Calls_init 15 rfl) b8w_21 ?_
  refine G_newarray (S' := Y_26) (q := 14) (g_da dt_Calls_init 16 rfl) rfl (g_ark0 21) ay_0 w_21 (by decide +kernel) rfl (by decide +kernel) (Nat.le_of_ble_eq_true rfl) (Nat.le_of_ble_eq_true rfl) rfl (by decide +kernel) ?_
  refine G_putF (S' := Y_27) (g_da dt_Calls_init 17 rfl) (show Y_26[10]? = some (.inr (3, [some (some 11), some (some 12), some (some 13), some none, none])) by decide +kernel) fq_7_21 rfl rfl (fun _ => rfl) (fun _ => rfl) (by decide +kernel) fr_7_21 rfl ?_
  refine G_aload_n (g_da dt_Calls_init 18 rfl) rfl rfl ?_
  refine G_iconst (g_da dt_Calls_init 19 rfl) ?_
  refine G_putI (g_da dt_Calls_init 20 rfl) (show Y_27[10]? = some (.inr (3, [some (some 11), some (some 12), some (some 13), some (some 14), none])) by decide +kernel) fp_7_24 rfl ?_
  exact G_return (g_da dt_Calls_init 21 rfl) rfl rfl (fun _ => ⟨rfl, by decide +kernel⟩) (q_c h)
set_option maxHeartbeats 4000000 in
set_option maxRecDepth 100000 in
theorem Filler_init_k0_ok {s : gS} {z0 : Int} {s0 : gS} (h : Filler_init_k0 s = some (z0, s0)) : Ct M_Filler_init Y_29 [.ref 15] s (QC Y_33 s0) := by
  refine Ct_of [some (.ref 15)] (plainFor_of_name (by decide)) rfl (Nat.le_of_ble_eq_true rfl) rfl (by decide) q_rC ?_
  unfold Filler_init_k0 at h
  refine G_aload_n (g_da dt_Filler_init 0 rfl) rfl rfl ?_
  refine G_objInit (g_da dt_Filler_init 1 rfl) oi_11_3 oi_i oi_c rfl ?_
  refine G_aload_n (g_da dt_Filler_init 2 rfl) rfl rfl ?_
  refine G_bipush (g_da dt_Filler_init 3 rfl) b8w_48 ?_
  refine G_newarray (S' := Y_30) (q := 16) (g_da dt_Filler_init 4 rfl) rfl (g_ark3 48) ay_3 w_48 (by decide +kernel) rfl (by decide +kernel) (Nat.le_of_ble_eq_true rfl) (Nat.le_of_ble_eq_true rfl) rfl (by decide +kernel) ?_
  refine G_putF (S' := Y_31) (g_da dt_Filler_init 5 rfl) (show Y_30[15]? = some (.inr (4, [some none, some none])) by decide +kernel) fq_11_9 rfl rfl (fun _ => rfl) (fun _ => rfl) (by decide +kernel) fr_11_9 rfl ?_
  refine G_aload_n (g_da dt_Filler_init 6 rfl) rfl rfl ?_
  refine G_bipush (g_da dt_Filler_init 7 rfl) b8w_64 ?_
  refine G_newarray (S' := Y_32) (q := 17) (g_da dt_Filler_init 8 rfl) rfl (g_ark0 64) ay_0 w_64 (by decide +kernel) rfl (by decide +kernel) (Nat.le_of_ble_eq_true rfl) (Nat.le_of_ble_eq_true rfl) rfl (by decide +kernel) ?_
  refine G_putF (S' := Y_33) (g_da dt_Filler_init 9 rfl) (show Y_32[15]? = some (.inr (4, [some (some 16), some none])) by decide +kernel) fq_11_15 rfl rfl (fun _ => rfl) (fun _ => rfl) (by decide +kernel) fr_11_15 rfl ?_
  exact G_return (g_da dt_Filler_init 10 rfl) rfl rfl (fun _ => ⟨rfl, by decide +kernel⟩) (q_c h)
set_option maxHeartbeats 4000000 in
set_option maxRecDepth 100000 in
theorem Values_init_k0_ok {s : gS} {z0 : Int} {s0 : gS} (h : Values_init_k0 s = some (z0, s0)) : Ct M_Values_init Y_35 [.ref 18] s (QC Y_37 s0) := by
  refine Ct_of [some (.ref 18)] (plainFor_of_name (by decide)) rfl (Nat.le_of_ble_eq_true rfl) rfl (by decide) q_rC ?_
  unfold Values_init_k0 at h
  refine G_aload_n (g_da dt_Values_init 0 rfl) rfl rfl ?_
  refine G_objInit (g_da dt_Values_init 1 rfl) oi_9_3 oi_i oi_c rfl ?_
  refine G_aload_n (g_da dt_Values_init 2 rfl) rfl rfl ?_
  refine G_bipush (g_da dt_Values_init 3 rfl) b8w_32 ?_
  refine G_newarray (S' := Y_36) (q := 19) (g_da dt_Values_init 4 rfl) rfl (g_ark0 32) ay_0 w_32 (by decide +kernel) rfl (by decide +kernel) (Nat.le_of_ble_eq_true rfl) (Nat.le_of_ble_eq_true rfl) rfl (by decide +kernel) ?_
  refine G_putF (S' := Y_37) (g_da dt_Values_init 5 rfl) (show Y_36[18]? = some (.inr (5, [some none, none])) by decide +kernel) fq_9_9 rfl rfl (fun _ => rfl) (fun _ => rfl) (by decide +kernel) fr_9_9 rfl ?_
  exact G_return (g_da dt_Values_init 6 rfl) rfl rfl (fun _ => ⟨rfl, by decide +kernel⟩) (q_c h)
set_option maxHeartbeats 4000000 in
set_option maxRecDepth 100000 in
theorem Settings_init_k0_ok {s : gS} {z0 : Int} {s0 : gS} (h : Settings_init_k0 s = some (z0, s0)) : Ct M_Settings_init Y_41 [.ref 21] s (QC Y_53 s0) := by
  refine Ct_of [some (.ref 21)] (plainFor_of_name (by decide)) rfl (Nat.le_of_ble_eq_true rfl) rfl (by decide) q_rC ?_
  unfold Settings_init_k0 at h
  refine G_aload_n (g_da dt_Settings_init 0 rfl) rfl rfl ?_
  refine G_objInit (g_da dt_Settings_init 1 rfl) oi_3_3 oi_i oi_c rfl ?_
  refine G_aload_n (g_da dt_Settings_init 2 rfl) rfl rfl ?_
  refine G_iconst (g_da dt_Settings_init 3 rfl) ?_
  refine G_newarray (S' := Y_42) (q := 22) (g_da dt_Settings_init 4 rfl) rfl (g_ark0 5) ay_0 w_5 (by decide +kernel) rfl (by decide +kernel) (Nat.le_of_ble_eq_true rfl) (Nat.le_of_ble_eq_true rfl) rfl (by decide +kernel) ?_
  refine G_putF (S' := Y_43) (g_da dt_Settings_init 5 rfl) (show Y_42[21]? = some (.inr (6, [some none, some none, some none, some none, some none, some none, none])) by decide +kernel) fq_3_9 rfl rfl (fun _ => rfl) (fun _ => rfl) (by decide +kernel) fr_3_9 rfl ?_
  refine G_aload_n (g_da dt_Settings_init 6 rfl) rfl rfl ?_
  refine G_iconst (g_da dt_Settings_init 7 rfl) ?_
  refine G_newarray (S' := Y_44) (q := 23) (g_da dt_Settings_init 8 rfl) rfl (g_ark0 5) ay_0 w_5 (by decide +kernel) rfl (by decide +kernel) (Nat.le_of_ble_eq_true rfl) (Nat.le_of_ble_eq_true rfl) rfl (by decide +kernel) ?_
  refine G_putF (S' := Y_45) (g_da dt_Settings_init 9 rfl) (show Y_44[21]? = some (.inr (6, [some (some 22), some none, some none, some none, some none, some none, none])) by decide +kernel) fq_3_15 rfl rfl (fun _ => rfl) (fun _ => rfl) (by decide +kernel) fr_3_15 rfl ?_
  refine G_aload_n (g_da dt_Settings_init 10 rfl) rfl rfl ?_
  refine G_iconst (g_da dt_Settings_init 11 rfl) ?_
  refine G_newarray (S' := Y_46) (q := 24) (g_da dt_Settings_init 12 rfl) rfl (g_ark0 5) ay_0 w_5 (by decide +kernel) rfl (by decide +kernel) (Nat.le_of_ble_eq_true rfl) (Nat.le_of_ble_eq_true rfl) rfl (by decide +kernel) ?_
  refine G_putF (S' := Y_47) (g_da dt_Settings_init 13 rfl) (show Y_46[21]? = some (.inr (6, [some (some 22), some (some 23), some none, some none, some none, some none, none])) by decide +kernel) fq_3_18 rfl rfl (fun _ => rfl) (fun _ => rfl) (by decide +kernel) fr_3_18 rfl ?_
  refine G_aload_n (g_da dt_Settings_init 14 rfl) rfl rfl ?_
  refine G_iconst (g_da dt_Settings_init 15 rfl) ?_
  refine G_newarray (S' := Y_48) (q := 25) (g_da dt_Settings_init 16 rfl) rfl (g_ark0 5) ay_0 w_5 (by decide +kernel) rfl (by decide +kernel) (Nat.le_of_ble_eq_true rfl) (Nat.le_of_ble_eq_true rfl) rfl (by decide +kernel) ?_
  refine G_putF (S' := Y_49) (g_da dt_Settings_init 17 rfl) (show Y_48[21]? = some (.inr (6, [some (some 22), some (some 23), some (some 24), some none, some none, some none, none])) by decide +kernel) fq_3_21 rfl rfl (fun _ => rfl) (fun _ => rfl) (by decide +kernel) fr_3_21 rfl ?_
  refine G_aload_n (g_da dt_Settings_init 18 rfl) rfl rfl ?_
  refine G_iconst (g_da dt_Settings_init 19 rfl) ?_
  refine G_newarray (S' := Y_50) (q := 26) (g_da dt_Settings_init 20 rfl) rfl (g_ark0 5) ay_0 w_5 (by decide +kernel) rfl (by decide +kernel) (Nat.le_of_ble_eq_true rfl) (Nat.le_of_ble_eq_true rfl) rfl (by decide +kernel) ?_
  refine G_putF (S' := Y_51) (g_da dt_Settings_init 21 rfl) (show Y_50[21]? = some (.inr (6, [some (some 22), some (some 23), some (some 24), some (some 25), some none, some none, none])) by decide +kernel) fq_3_24 rfl rfl (fun _ => rfl) (fun _ => rfl) (by decide +kernel) fr_3_24 rfl ?_
  refine G_aload_n (g_da dt_Settings_init 22 rfl) rfl rfl ?_
  refine G_sipush (g_da dt_Settings_init 23 rfl) s16w_240 ?_
  refine G_newarray (S' := Y_52) (q := 27) (g_da dt_Settings_init 24 rfl) rfl (g_ark3 240) ay_3 w_240 (by decide +kernel) rfl (by decide +kernel) (Nat.le_of_ble_eq_true rfl) (Nat.le_of_ble_eq_true rfl) rfl (by decide +kernel) ?_
  refine G_putF (S' := Y_53) (g_da dt_Settings_init 25 rfl) (show Y_52[21]? = some (.inr (6, [some (some 22), some (some 23), some (some 24), some (some 25), some (some 26), some none, none])) by decide +kernel) fq_3_27 rfl rfl (fun _ => rfl) (fun _ => rfl) (by decide +kernel) fr_3_27 rfl ?_
  refine G_aload_n (g_da dt_Settings_init 26 rfl) rfl rfl ?_
  refine G_getR (g_da dt_Settings_init 27 rfl) (show Y_53[21]? = some (.inr (6, [some (some 22), some (some 23), some (some 24), some (some 25), some (some 26), some (some 27), none])) by decide +kernel) fl_3_9 rfl ?_
  refine G_iconst (g_da dt_Settings_init 28 rfl) ?_
  refine G_bipush (g_da dt_Settings_init 29 rfl) b8w_16 ?_
  refine G_iastore (g_da dt_Settings_init 30 rfl) (show Y_53[22]? = some (.inl (0, 5)) by decide +kernel) w_0 ⟨by decide, by decide⟩ ?_
  refine G_aload_n (g_da dt_Settings_init 31 rfl) rfl rfl ?_
  refine G_getR (g_da dt_Settings_init 32 rfl) (show Y_53[21]? = some (.inr (6, [some (some 22), some (some 23), some (some 24), some (some 25), some (some 26), some (some 27), none])) by decide +kernel) fl_3_15 rfl ?_
  refine G_iconst (g_da dt_Settings_init 33 rfl) ?_
  refine G_bipush (g_da dt_Settings_init 34 rfl) b8w_16 ?_
  refine G_iastore (g_da dt_Settings_init 35 rfl) (show Y_53[23]? = some (.inl (0, 5)) by decide +kernel) w_0 ⟨by decide, by decide⟩ ?_
  refine G_aload_n (g_da dt_Settings_init 36 rfl) rfl rfl ?_
  refine G_getR (g_da dt_Settings_init 37 rfl) (show Y_53[21]? = some (.inr (6, [some (some 22), some (some 23), some (some 24), some (some 25), some (some 26), some (some 27), none])) by decide +kernel) fl_3_24 rfl ?_
  refine G_iconst (g_da dt_Settings_init 38 rfl) ?_
  refine G_bipush (g_da dt_Settings_init 39 rfl) b8w_16 ?_
  refine G_iastore (g_da dt_Settings_init 40 rfl) (show Y_53[26]? = some (.inl (0, 5)) by decide +kernel) w_0 ⟨by decide, by decide⟩ ?_
  refine G_aload_n (g_da dt_Settings_init 41 rfl) rfl rfl ?_
  refine G_getR (g_da dt_Settings_init 42 rfl) (show Y_53[21]? = some (.inr (6, [some (some 22), some (some 23), some (some 24), some (some 25), some (some 26), some (some 27), none])) by decide +kernel) fl_3_27 rfl ?_
  refine G_ldc2 (z := (-1)) (g_da dt_Settings_init 43 rfl) cn_3_31 rfl ?_
  obtain ⟨_, s1, hc2, h⟩ := o_b h
  refine H_cSG (J := fun s => s) (Arrays_fill_c_ok (J := fun s => s) g_j_id.1 hc2) (g_da dt_Settings_init 44 rfl) lk_3_33 ms_Arrays_fill rfl rfl rfl rfl rfl rfl ?_
  exact G_return (g_da dt_Settings_init 45 rfl) rfl rfl (fun _ => ⟨rfl, by decide +kernel⟩) (q_c h)
set_option maxHeartbeats 4000000 in
set_option maxRecDepth 100000 in
theorem Path_init_k0_ok {s : gS} {z0 : Int} {s0 : gS} (h : Path_init_k0 s = some (z0, s0)) : Ct M_Path_init Y_55 [.ref 28] s (QC Y_65 s0) := by
  refine Ct_of [some (.ref 28)] (plainFor_of_name (by decide)) rfl (Nat.le_of_ble_eq_true rfl) rfl (by decide) q_rC ?_
  unfold Path_init_k0 at h
  refine G_aload_n (g_da dt_Path_init 0 rfl) rfl rfl ?_
  refine G_objInit (g_da dt_Path_init 1 rfl) oi_10_3 oi_i oi_c rfl ?_
  refine G_aload_n (g_da dt_Path_init 2 rfl) rfl rfl ?_
  refine G_sipush (g_da dt_Path_init 3 rfl) s16w_200 ?_
  refine G_newarray (S' := Y_56) (q := 29) (g_da dt_Path_init 4 rfl) rfl (g_ark0 200) ay_0 w_200 (by decide +kernel) rfl (by decide +kernel) (Nat.le_of_ble_eq_true rfl) (Nat.le_of_ble_eq_true rfl) rfl (by decide +kernel) ?_
  refine G_putF (S' := Y_57) (g_da dt_Path_init 5 rfl) (show Y_56[28]? = some (.inr (7, [some none, some none, some none, some none, some none, none, none, none])) by decide +kernel) fq_10_9 rfl rfl (fun _ => rfl) (fun _ => rfl) (by decide +kernel) fr_10_9 rfl ?_
  refine G_aload_n (g_da dt_Path_init 6 rfl) rfl rfl ?_
  refine G_sipush (g_da dt_Path_init 7 rfl) s16w_200 ?_
  refine G_newarray (S' := Y_58) (q := 30) (g_da dt_Path_init 8 rfl) rfl (g_ark0 200) ay_0 w_200 (by decide +kernel) rfl (by decide +kernel) (Nat.le_of_ble_eq_true rfl) (Nat.le_of_ble_eq_true rfl) rfl (by decide +kernel) ?_
  refine G_putF (S' := Y_59) (g_da dt_Path_init 9 rfl) (show Y_58[28]? = some (.inr (7, [some (some 29), some none, some none, some none, some none, none, none, none])) by decide +kernel) fq_10_15 rfl rfl (fun _ => rfl) (fun _ => rfl) (by decide +kernel) fr_10_15 rfl ?_
  refine G_aload_n (g_da dt_Path_init 10 rfl) rfl rfl ?_
  refine G_sipush (g_da dt_Path_init 11 rfl) s16w_200 ?_
  refine G_newarray (S' := Y_60) (q := 31) (g_da dt_Path_init 12 rfl) rfl (g_ark1 200) ay_1 w_200 (by decide +kernel) rfl (by decide +kernel) (Nat.le_of_ble_eq_true rfl) (Nat.le_of_ble_eq_true rfl) rfl (by decide +kernel) ?_
  refine G_putF (S' := Y_61) (g_da dt_Path_init 13 rfl) (show Y_60[28]? = some (.inr (7, [some (some 29), some (some 30), some none, some none, some none, none, none, none])) by decide +kernel) fq_10_18 rfl rfl (fun _ => rfl) (fun _ => rfl) (by decide +kernel) fr_10_18 rfl ?_
  refine G_aload_n (g_da dt_Path_init 14 rfl) rfl rfl ?_
  refine G_bipush (g_da dt_Path_init 15 rfl) b8w_25 ?_
  refine G_newarray (S' := Y_62) (q := 32) (g_da dt_Path_init 16 rfl) rfl (g_ark0 25) ay_0 w_25 (by decide +kernel) rfl (by decide +kernel) (Nat.le_of_ble_eq_true rfl) (Nat.le_of_ble_eq_true rfl) rfl (by decide +kernel) ?_
  refine G_putF (S' := Y_63) (g_da dt_Path_init 17 rfl) (show Y_62[28]? = some (.inr (7, [some (some 29), some (some 30), some (some 31), some none, some none, none, none, none])) by decide +kernel) fq_10_22 rfl rfl (fun _ => rfl) (fun _ => rfl) (by decide +kernel) fr_10_22 rfl ?_
  refine G_aload_n (g_da dt_Path_init 18 rfl) rfl rfl ?_
  refine G_bipush (g_da dt_Path_init 19 rfl) b8w_25 ?_
  refine G_newarray (S' := Y_64) (q := 33) (g_da dt_Path_init 20 rfl) rfl (g_ark0 25) ay_0 w_25 (by decide +kernel) rfl (by decide +kernel) (Nat.le_of_ble_eq_true rfl) (Nat.le_of_ble_eq_true rfl) rfl (by decide +kernel) ?_
  refine G_putF (S' := Y_65) (g_da dt_Path_init 21 rfl) (show Y_64[28]? = some (.inr (7, [some (some 29), some (some 30), some (some 31), some (some 32), some none, none, none, none])) by decide +kernel) fq_10_25 rfl rfl (fun _ => rfl) (fun _ => rfl) (by decide +kernel) fr_10_25 rfl ?_
  exact G_return (g_da dt_Path_init 22 rfl) rfl rfl (fun _ => ⟨rfl, by decide +kernel⟩) (q_c h)
set_option maxHeartbeats 4000000 in
set_option maxRecDepth 100000 in
theorem Pages_init_k0_ok {s : gS} {z0 : Int} {s0 : gS} (h : Pages_init_k0 s = some (z0, s0)) : Ct M_Pages_init Y_67 [.ref 34] s (QC Y_71 s0) := by
  refine Ct_of [some (.ref 34)] (plainFor_of_name (by decide)) rfl (Nat.le_of_ble_eq_true rfl) rfl (by decide) q_rC ?_
  unfold Pages_init_k0 at h
  refine G_aload_n (g_da dt_Pages_init 0 rfl) rfl rfl ?_
  refine G_objInit (g_da dt_Pages_init 1 rfl) oi_1_3 oi_i oi_c rfl ?_
  refine G_aload_n (g_da dt_Pages_init 2 rfl) rfl rfl ?_
  refine G_sipush (g_da dt_Pages_init 3 rfl) s16w_384 ?_
  refine G_newarray (S' := Y_68) (q := 35) (g_da dt_Pages_init 4 rfl) rfl (g_ark3 384) ay_3 w_384 (by decide +kernel) rfl (by decide +kernel) (Nat.le_of_ble_eq_true rfl) (Nat.le_of_ble_eq_true rfl) rfl (by decide +kernel) ?_
  refine G_putF (S' := Y_69) (g_da dt_Pages_init 5 rfl) (show Y_68[34]? = some (.inr (8, [some none, some none, none, none])) by decide +kernel) fq_1_9 rfl rfl (fun _ => rfl) (fun _ => rfl) (by decide +kernel) fr_1_9 rfl ?_
  refine G_aload_n (g_da dt_Pages_init 6 rfl) rfl rfl ?_
  refine G_bipush (g_da dt_Pages_init 7 rfl) b8w_48 ?_
  refine G_newarray (S' := Y_70) (q := 36) (g_da dt_Pages_init 8 rfl) rfl (g_ark3 48) ay_3 w_48 (by decide +kernel) rfl (by decide +kernel) (Nat.le_of_ble_eq_true rfl) (Nat.le_of_ble_eq_true rfl) rfl (by decide +kernel) ?_
  refine G_putF (S' := Y_71) (g_da dt_Pages_init 9 rfl) (show Y_70[34]? = some (.inr (8, [some (some 35), some none, none, none])) by decide +kernel) fq_1_15 rfl rfl (fun _ => rfl) (fun _ => rfl) (by decide +kernel) fr_1_15 rfl ?_
  exact G_return (g_da dt_Pages_init 10 rfl) rfl rfl (fun _ => ⟨rfl, by decide +kernel⟩) (q_c h)
set_option maxHeartbeats 4000000 in
set_option maxRecDepth 100000 in
theorem Job_init_k0_ok {s : gS} {z0 : Int} {s0 : gS} (h : Job_init_k0 s = some (z0, s0)) : Ct M_Job_init Y_10 [.ref 5] s (QC Y_72 s0) := by
  refine Ct_of [some (.ref 5)] (plainFor_of_name (by decide)) rfl (Nat.le_of_ble_eq_true rfl) rfl (by decide) q_rC ?_
  unfold Job_init_k0 at h
  refine G_aload_n (g_da dt_Job_init 0 rfl) rfl rfl ?_
  refine G_objInit (g_da dt_Job_init 1 rfl) oi_6_3 oi_i oi_c rfl ?_
  refine G_aload_n (g_da dt_Job_init 2 rfl) rfl rfl ?_
  refine G_new (S' := Y_11) (n := 6) (fl := [some none, some none, some none, none]) t_1 (g_da dt_Job_init 3 rfl) (show g_cl[1]? = some (R_1, F_1, 4) from rfl) tk_1 cl_6_9 in_1 ii_1 rfl (by decide +kernel) (Nat.le_of_ble_eq_true rfl) (Nat.le_of_ble_eq_true rfl) (by decide +kernel) rfl (by decide +kernel) ?_
  refine G_dup (g_da dt_Job_init 4 rfl) rfl ?_
  obtain ⟨_, s1, hc2, h⟩ := o_b h
  refine H_cI (Text_init_k1_ok hc2) (g_da dt_Job_init 5 rfl) lk_6_11 mi_Text_init rfl rfl rfl ⟨rfl, rfl⟩ rfl ?_
  refine G_putF (S' := Y_18) (g_da dt_Job_init 6 rfl) (show Y_17[5]? = some (.inr (2, [some none, some none, some none, some none, some none, some none, some none, some none, none, none, none, none, none])) by decide +kernel) fq_6_12 rfl rfl (fun _ => rfl) (fun _ => rfl) (by decide +kernel) fr_6_12 rfl ?_
  refine G_aload_n (g_da dt_Job_init 7 rfl) rfl rfl ?_
  refine G_new (S' := Y_19) (n := 10) (fl := [some none, some none, some none, some none, none]) t_3 (g_da dt_Job_init 8 rfl) (show g_cl[3]? = some (R_3, F_3, 5) from rfl) tk_3 cl_6_18 in_3 ii_3 rfl (by decide +kernel) (Nat.le_of_ble_eq_true rfl) (Nat.le_of_ble_eq_true rfl) (by decide +kernel) rfl (by decide +kernel) ?_
  refine G_dup (g_da dt_Job_init 9 rfl) rfl ?_
  obtain ⟨_, s3, hc4, h⟩ := o_b h
  refine H_cI (Calls_init_k0_ok hc4) (g_da dt_Job_init 10 rfl) lk_6_20 mi_Calls_init rfl rfl rfl ⟨rfl, rfl⟩ rfl ?_
  refine G_putF (S' := Y_28) (g_da dt_Job_init 11 rfl) (show Y_27[5]? = some (.inr (2, [some (some 6), some none, some none, some none, some none, some none, some none, some none, none, none, none, none, none])) by decide +kernel) fq_6_21 rfl rfl (fun _ => rfl) (fun _ => rfl) (by decide +kernel) fr_6_21 rfl ?_
  refine G_aload_n (g_da dt_Job_init 12 rfl) rfl rfl ?_
  refine G_new (S' := Y_29) (n := 15) (fl := [some none, some none]) t_4 (g_da dt_Job_init 13 rfl) (show g_cl[4]? = some (R_4, F_4, 2) from rfl) tk_4 cl_6_25 in_4 ii_4 rfl (by decide +kernel) (Nat.le_of_ble_eq_true rfl) (Nat.le_of_ble_eq_true rfl) (by decide +kernel) rfl (by decide +kernel) ?_
  refine G_dup (g_da dt_Job_init 14 rfl) rfl ?_
  obtain ⟨_, s5, hc6, h⟩ := o_b h
  refine H_cI (Filler_init_k0_ok hc6) (g_da dt_Job_init 15 rfl) lk_6_27 mi_Filler_init rfl rfl rfl ⟨rfl, rfl⟩ rfl ?_
  refine G_putF (S' := Y_34) (g_da dt_Job_init 16 rfl) (show Y_33[5]? = some (.inr (2, [some (some 6), some (some 10), some none, some none, some none, some none, some none, some none, none, none, none, none, none])) by decide +kernel) fq_6_28 rfl rfl (fun _ => rfl) (fun _ => rfl) (by decide +kernel) fr_6_28 rfl ?_
  refine G_aload_n (g_da dt_Job_init 17 rfl) rfl rfl ?_
  refine G_new (S' := Y_35) (n := 18) (fl := [some none, none]) t_5 (g_da dt_Job_init 18 rfl) (show g_cl[5]? = some (R_5, F_5, 2) from rfl) tk_5 cl_6_32 in_5 ii_5 rfl (by decide +kernel) (Nat.le_of_ble_eq_true rfl) (Nat.le_of_ble_eq_true rfl) (by decide +kernel) rfl (by decide +kernel) ?_
  refine G_dup (g_da dt_Job_init 19 rfl) rfl ?_
  obtain ⟨_, s7, hc8, h⟩ := o_b h
  refine H_cI (Values_init_k0_ok hc8) (g_da dt_Job_init 20 rfl) lk_6_34 mi_Values_init rfl rfl rfl ⟨rfl, rfl⟩ rfl ?_
  refine G_putF (S' := Y_38) (g_da dt_Job_init 21 rfl) (show Y_37[5]? = some (.inr (2, [some (some 6), some (some 10), some (some 15), some none, some none, some none, some none, some none, none, none, none, none, none])) by decide +kernel) fq_6_35 rfl rfl (fun _ => rfl) (fun _ => rfl) (by decide +kernel) fr_6_35 rfl ?_
  refine G_aload_n (g_da dt_Job_init 22 rfl) rfl rfl ?_
  refine G_bipush (g_da dt_Job_init 23 rfl) b8w_26 ?_
  refine G_newarray (S' := Y_39) (q := 20) (g_da dt_Job_init 24 rfl) rfl (g_ark0 26) ay_0 w_26 (by decide +kernel) rfl (by decide +kernel) (Nat.le_of_ble_eq_true rfl) (Nat.le_of_ble_eq_true rfl) rfl (by decide +kernel) ?_
  refine G_putF (S' := Y_40) (g_da dt_Job_init 25 rfl) (show Y_39[5]? = some (.inr (2, [some (some 6), some (some 10), some (some 15), some (some 18), some none, some none, some none, some none, none, none, none, none, none])) by decide +kernel) fq_6_39 rfl rfl (fun _ => rfl) (fun _ => rfl) (by decide +kernel) fr_6_39 rfl ?_
  refine G_aload_n (g_da dt_Job_init 26 rfl) rfl rfl ?_
  refine G_new (S' := Y_41) (n := 21) (fl := [some none, some none, some none, some none, some none, some none, none]) t_6 (g_da dt_Job_init 27 rfl) (show g_cl[6]? = some (R_6, F_6, 7) from rfl) tk_6 cl_6_43 in_6 ii_6 rfl (by decide +kernel) (Nat.le_of_ble_eq_true rfl) (Nat.le_of_ble_eq_true rfl) (by decide +kernel) rfl (by decide +kernel) ?_
  refine G_dup (g_da dt_Job_init 28 rfl) rfl ?_
  obtain ⟨_, s9, hc10, h⟩ := o_b h
  refine H_cI (Settings_init_k0_ok hc10) (g_da dt_Job_init 29 rfl) lk_6_45 mi_Settings_init rfl rfl rfl ⟨rfl, rfl⟩ rfl ?_
  refine G_putF (S' := Y_54) (g_da dt_Job_init 30 rfl) (show Y_53[5]? = some (.inr (2, [some (some 6), some (some 10), some (some 15), some (some 18), some (some 20), some none, some none, some none, none, none, none, none, none])) by decide +kernel) fq_6_46 rfl rfl (fun _ => rfl) (fun _ => rfl) (by decide +kernel) fr_6_46 rfl ?_
  refine G_aload_n (g_da dt_Job_init 31 rfl) rfl rfl ?_
  refine G_new (S' := Y_55) (n := 28) (fl := [some none, some none, some none, some none, some none, none, none, none]) t_7 (g_da dt_Job_init 32 rfl) (show g_cl[7]? = some (R_7, F_7, 8) from rfl) tk_7 cl_6_50 in_7 ii_7 rfl (by decide +kernel) (Nat.le_of_ble_eq_true rfl) (Nat.le_of_ble_eq_true rfl) (by decide +kernel) rfl (by decide +kernel) ?_
  refine G_dup (g_da dt_Job_init 33 rfl) rfl ?_
  obtain ⟨_, s11, hc12, h⟩ := o_b h
  refine H_cI (Path_init_k0_ok hc12) (g_da dt_Job_init 34 rfl) lk_6_52 mi_Path_init rfl rfl rfl ⟨rfl, rfl⟩ rfl ?_
  refine G_putF (S' := Y_66) (g_da dt_Job_init 35 rfl) (show Y_65[5]? = some (.inr (2, [some (some 6), some (some 10), some (some 15), some (some 18), some (some 20), some (some 21), some none, some none, none, none, none, none, none])) by decide +kernel) fq_6_53 rfl rfl (fun _ => rfl) (fun _ => rfl) (by decide +kernel) fr_6_53 rfl ?_
  refine G_aload_n (g_da dt_Job_init 36 rfl) rfl rfl ?_
  refine G_new (S' := Y_67) (n := 34) (fl := [some none, some none, none, none]) t_8 (g_da dt_Job_init 37 rfl) (show g_cl[8]? = some (R_8, F_8, 4) from rfl) tk_8 cl_6_57 in_8 ii_8 rfl (by decide +kernel) (Nat.le_of_ble_eq_true rfl) (Nat.le_of_ble_eq_true rfl) (by decide +kernel) rfl (by decide +kernel) ?_
  refine G_dup (g_da dt_Job_init 38 rfl) rfl ?_
  obtain ⟨_, s13, hc14, h⟩ := o_b h
  refine H_cI (Pages_init_k0_ok hc14) (g_da dt_Job_init 39 rfl) lk_6_59 mi_Pages_init rfl rfl rfl ⟨rfl, rfl⟩ rfl ?_
  refine G_putF (S' := Y_72) (g_da dt_Job_init 40 rfl) (show Y_71[5]? = some (.inr (2, [some (some 6), some (some 10), some (some 15), some (some 18), some (some 20), some (some 21), some (some 28), some none, none, none, none, none, none])) by decide +kernel) fq_6_60 rfl rfl (fun _ => rfl) (fun _ => rfl) (by decide +kernel) fr_6_60 rfl ?_
  exact G_return (g_da dt_Job_init 41 rfl) rfl rfl (fun _ => ⟨rfl, by decide +kernel⟩) (q_c h)
set_option maxHeartbeats 4000000 in
set_option maxRecDepth 100000 in
theorem Order_init_k0_ok {s : gS} {z0 : Int} {s0 : gS} (h : Order_init_k0 s = some (z0, s0)) : Ct M_Order_init Y_74 [.ref 37] s (QC Y_78 s0) := by
  refine Ct_of [some (.ref 37)] (plainFor_of_name (by decide)) rfl (Nat.le_of_ble_eq_true rfl) rfl (by decide) q_rC ?_
  unfold Order_init_k0 at h
  refine G_aload_n (g_da dt_Order_init 0 rfl) rfl rfl ?_
  refine G_objInit (g_da dt_Order_init 1 rfl) oi_4_3 oi_i oi_c rfl ?_
  refine G_aload_n (g_da dt_Order_init 2 rfl) rfl rfl ?_
  refine G_bipush (g_da dt_Order_init 3 rfl) b8w_32 ?_
  refine G_newarray (S' := Y_75) (q := 38) (g_da dt_Order_init 4 rfl) rfl (g_ark0 32) ay_0 w_32 (by decide +kernel) rfl (by decide +kernel) (Nat.le_of_ble_eq_true rfl) (Nat.le_of_ble_eq_true rfl) rfl (by decide +kernel) ?_
  refine G_putF (S' := Y_76) (g_da dt_Order_init 5 rfl) (show Y_75[37]? = some (.inr (9, [some none, some none, none, none, none, none, none, none])) by decide +kernel) fq_4_9 rfl rfl (fun _ => rfl) (fun _ => rfl) (by decide +kernel) fr_4_9 rfl ?_
  refine G_aload_n (g_da dt_Order_init 6 rfl) rfl rfl ?_
  refine G_bipush (g_da dt_Order_init 7 rfl) b8w_32 ?_
  refine G_newarray (S' := Y_77) (q := 39) (g_da dt_Order_init 8 rfl) rfl (g_ark1 32) ay_1 w_32 (by decide +kernel) rfl (by decide +kernel) (Nat.le_of_ble_eq_true rfl) (Nat.le_of_ble_eq_true rfl) rfl (by decide +kernel) ?_
  refine G_putF (S' := Y_78) (g_da dt_Order_init 9 rfl) (show Y_77[37]? = some (.inr (9, [some (some 38), some none, none, none, none, none, none, none])) by decide +kernel) fq_4_15 rfl rfl (fun _ => rfl) (fun _ => rfl) (by decide +kernel) fr_4_15 rfl ?_
  exact G_return (g_da dt_Order_init 10 rfl) rfl rfl (fun _ => ⟨rfl, by decide +kernel⟩) (q_c h)
set_option maxHeartbeats 4000000 in
set_option maxRecDepth 100000 in
theorem Machine_init_k0_ok {s : gS} {z0 : Int} {s0 : gS} (h : Machine_init_k0 s = some (z0, s0)) : Ct M_Machine_init Y_80 [.ref 40, .ref 37] s (QC Y_91 s0) := by
  refine Ct_of [some (.ref 40), some (.ref 37)] (plainFor_of_name (by decide)) rfl (Nat.le_of_ble_eq_true rfl) rfl (by decide) q_rC ?_
  unfold Machine_init_k0 at h
  refine G_aload_n (g_da dt_Machine_init 0 rfl) rfl rfl ?_
  refine G_objInit (g_da dt_Machine_init 1 rfl) oi_5_3 oi_i oi_c rfl ?_
  refine G_aload_n (g_da dt_Machine_init 2 rfl) rfl rfl ?_
  refine G_iconst (g_da dt_Machine_init 3 rfl) ?_
  refine G_newarray (S' := Y_81) (q := 41) (g_da dt_Machine_init 4 rfl) rfl (g_ark0 4) ay_0 w_4 (by decide +kernel) rfl (by decide +kernel) (Nat.le_of_ble_eq_true rfl) (Nat.le_of_ble_eq_true rfl) rfl (by decide +kernel) ?_
  refine G_dup (g_da dt_Machine_init 5 rfl) rfl ?_
  refine G_iconst (g_da dt_Machine_init 6 rfl) ?_
  refine G_iconst (g_da dt_Machine_init 7 rfl) ?_
  refine G_iastore (g_da dt_Machine_init 8 rfl) (show Y_81[41]? = some (.inl (0, 4)) by decide +kernel) w_0 ⟨by decide, by decide⟩ ?_
  refine G_dup (g_da dt_Machine_init 9 rfl) rfl ?_
  refine G_iconst (g_da dt_Machine_init 10 rfl) ?_
  refine G_iconst (g_da dt_Machine_init 11 rfl) ?_
  refine G_iastore (g_da dt_Machine_init 12 rfl) (show Y_81[41]? = some (.inl (0, 4)) by decide +kernel) w_1 ⟨by decide, by decide⟩ ?_
  refine G_dup (g_da dt_Machine_init 13 rfl) rfl ?_
  refine G_iconst (g_da dt_Machine_init 14 rfl) ?_
  refine G_iconst (g_da dt_Machine_init 15 rfl) ?_
  refine G_iastore (g_da dt_Machine_init 16 rfl) (show Y_81[41]? = some (.inl (0, 4)) by decide +kernel) w_2 ⟨by decide, by decide⟩ ?_
  refine G_dup (g_da dt_Machine_init 17 rfl) rfl ?_
  refine G_iconst (g_da dt_Machine_init 18 rfl) ?_
  refine G_iconst (g_da dt_Machine_init 19 rfl) ?_
  refine G_iastore (g_da dt_Machine_init 20 rfl) (show Y_81[41]? = some (.inl (0, 4)) by decide +kernel) w_3 ⟨by decide, by decide⟩ ?_
  refine G_putF (S' := Y_82) (g_da dt_Machine_init 21 rfl) (show Y_81[40]? = some (.inr (10, [some none, some none, some none, some none, some none, some none, none, none, none, none, none, none])) by decide +kernel) fq_5_9 rfl rfl (fun _ => rfl) (fun _ => rfl) (by decide +kernel) fr_5_9 rfl ?_
  refine G_aload_n (g_da dt_Machine_init 22 rfl) rfl rfl ?_
  refine G_iconst (g_da dt_Machine_init 23 rfl) ?_
  refine G_newarray (S' := Y_83) (q := 42) (g_da dt_Machine_init 24 rfl) rfl (g_ark0 4) ay_0 w_4 (by decide +kernel) rfl (by decide +kernel) (Nat.le_of_ble_eq_true rfl) (Nat.le_of_ble_eq_true rfl) rfl (by decide +kernel) ?_
  refine G_putF (S' := Y_84) (g_da dt_Machine_init 25 rfl) (show Y_83[40]? = some (.inr (10, [some none, some (some 41), some none, some none, some none, some none, none, none, none, none, none, none])) by decide +kernel) fq_5_15 rfl rfl (fun _ => rfl) (fun _ => rfl) (by decide +kernel) fr_5_15 rfl ?_
  refine G_aload_n (g_da dt_Machine_init 26 rfl) rfl rfl ?_
  refine G_iconst (g_da dt_Machine_init 27 rfl) ?_
  refine G_newarray (S' := Y_85) (q := 43) (g_da dt_Machine_init 28 rfl) rfl (g_ark1 4) ay_1 w_4 (by decide +kernel) rfl (by decide +kernel) (Nat.le_of_ble_eq_true rfl) (Nat.le_of_ble_eq_true rfl) rfl (by decide +kernel) ?_
  refine G_putF (S' := Y_86) (g_da dt_Machine_init 29 rfl) (show Y_85[40]? = some (.inr (10, [some none, some (some 41), some (some 42), some none, some none, some none, none, none, none, none, none, none])) by decide +kernel) fq_5_18 rfl rfl (fun _ => rfl) (fun _ => rfl) (by decide +kernel) fr_5_18 rfl ?_
  refine G_aload_n (g_da dt_Machine_init 30 rfl) rfl rfl ?_
  refine G_iconst (g_da dt_Machine_init 31 rfl) ?_
  refine G_newarray (S' := Y_87) (q := 44) (g_da dt_Machine_init 32 rfl) rfl (g_ark1 4) ay_1 w_4 (by decide +kernel) rfl (by decide +kernel) (Nat.le_of_ble_eq_true rfl) (Nat.le_of_ble_eq_true rfl) rfl (by decide +kernel) ?_
  refine G_putF (S' := Y_88) (g_da dt_Machine_init 33 rfl) (show Y_87[40]? = some (.inr (10, [some none, some (some 41), some (some 42), some (some 43), some none, some none, none, none, none, none, none, none])) by decide +kernel) fq_5_22 rfl rfl (fun _ => rfl) (fun _ => rfl) (by decide +kernel) fr_5_22 rfl ?_
  refine G_aload_n (g_da dt_Machine_init 34 rfl) rfl rfl ?_
  refine G_iconst (g_da dt_Machine_init 35 rfl) ?_
  refine G_newarray (S' := Y_89) (q := 45) (g_da dt_Machine_init 36 rfl) rfl (g_ark0 4) ay_0 w_4 (by decide +kernel) rfl (by decide +kernel) (Nat.le_of_ble_eq_true rfl) (Nat.le_of_ble_eq_true rfl) rfl (by decide +kernel) ?_
  refine G_putF (S' := Y_90) (g_da dt_Machine_init 37 rfl) (show Y_89[40]? = some (.inr (10, [some none, some (some 41), some (some 42), some (some 43), some (some 44), some none, none, none, none, none, none, none])) by decide +kernel) fq_5_25 rfl rfl (fun _ => rfl) (fun _ => rfl) (by decide +kernel) fr_5_25 rfl ?_
  refine G_aload_n (g_da dt_Machine_init 38 rfl) rfl rfl ?_
  refine G_aload_n (g_da dt_Machine_init 39 rfl) rfl rfl ?_
  refine G_putF (S' := Y_91) (g_da dt_Machine_init 40 rfl) (show Y_90[40]? = some (.inr (10, [some none, some (some 41), some (some 42), some (some 43), some (some 44), some (some 45), none, none, none, none, none, none])) by decide +kernel) fq_5_28 rfl rfl (fun _ => rfl) (fun _ => rfl) (by decide +kernel) fr_5_28 rfl ?_
  exact G_return (g_da dt_Machine_init 41 rfl) rfl rfl (fun _ => ⟨rfl, by decide +kernel⟩) (q_c h)
set_option maxHeartbeats 4000000 in
set_option maxRecDepth 100000 in
theorem Packer_init_k0_ok {s : gS} {z0 : Int} {s0 : gS} (h : Packer_init_k0 s = some (z0, s0)) : Ct M_Packer_init Y_93 [.ref 46] s (QC Y_97 s0) := by
  refine Ct_of [some (.ref 46)] (plainFor_of_name (by decide)) rfl (Nat.le_of_ble_eq_true rfl) rfl (by decide) q_rC ?_
  unfold Packer_init_k0 at h
  refine G_aload_n (g_da dt_Packer_init 0 rfl) rfl rfl ?_
  refine G_objInit (g_da dt_Packer_init 1 rfl) oi_2_3 oi_i oi_c rfl ?_
  refine G_aload_n (g_da dt_Packer_init 2 rfl) rfl rfl ?_
  refine G_sipush (g_da dt_Packer_init 3 rfl) s16w_128 ?_
  refine G_newarray (S' := Y_94) (q := 47) (g_da dt_Packer_init 4 rfl) rfl (g_ark0 128) ay_0 w_128 (by decide +kernel) rfl (by decide +kernel) (Nat.le_of_ble_eq_true rfl) (Nat.le_of_ble_eq_true rfl) rfl (by decide +kernel) ?_
  refine G_putF (S' := Y_95) (g_da dt_Packer_init 5 rfl) (show Y_94[46]? = some (.inr (11, [some none, none, some none])) by decide +kernel) fq_2_9 rfl rfl (fun _ => rfl) (fun _ => rfl) (by decide +kernel) fr_2_9 rfl ?_
  refine G_aload_n (g_da dt_Packer_init 6 rfl) rfl rfl ?_
  refine G_bipush (g_da dt_Packer_init 7 rfl) b8w_8 ?_
  refine G_newarray (S' := Y_96) (q := 48) (g_da dt_Packer_init 8 rfl) rfl (g_ark0 8) ay_0 w_8 (by decide +kernel) rfl (by decide +kernel) (Nat.le_of_ble_eq_true rfl) (Nat.le_of_ble_eq_true rfl) rfl (by decide +kernel) ?_
  refine G_putF (S' := Y_97) (g_da dt_Packer_init 9 rfl) (show Y_96[46]? = some (.inr (11, [some (some 47), none, some none])) by decide +kernel) fq_2_15 rfl rfl (fun _ => rfl) (fun _ => rfl) (by decide +kernel) fr_2_15 rfl ?_
  exact G_return (g_da dt_Packer_init 10 rfl) rfl rfl (fun _ => ⟨rfl, by decide +kernel⟩) (q_c h)
set_option maxHeartbeats 4000000 in
set_option maxRecDepth 100000 in
theorem B_init_k0_ok {s : gS} {z0 : Int} {s0 : gS} (h : B_init_k0 s = some (z0, s0)) : Ct M_B_init Y_1 [.ref 0] s (QC Y_98 s0) := by
  refine Ct_of [some (.ref 0)] (plainFor_of_name (by decide)) rfl (Nat.le_of_ble_eq_true rfl) rfl (by decide) q_rC ?_
  unfold B_init_k0 at h
  refine G_aload_n (g_da dt_B_init 0 rfl) rfl rfl ?_
  refine G_objInit (g_da dt_B_init 1 rfl) oi_0_1 oi_i oi_c rfl ?_
  refine G_aload_n (g_da dt_B_init 2 rfl) rfl rfl ?_
  refine G_new (S' := Y_2) (n := 1) (fl := [some none, some none, some none, none]) t_1 (g_da dt_B_init 3 rfl) (show g_cl[1]? = some (R_1, F_1, 4) from rfl) tk_1 cl_0_7 in_1 ii_1 rfl (by decide +kernel) (Nat.le_of_ble_eq_true rfl) (Nat.le_of_ble_eq_true rfl) (by decide +kernel) rfl (by decide +kernel) ?_
  refine G_dup (g_da dt_B_init 4 rfl) rfl ?_
  obtain ⟨_, s1, hc2, h⟩ := o_b h
  refine H_cI (Text_init_k0_ok hc2) (g_da dt_B_init 5 rfl) lk_0_9 mi_Text_init rfl rfl rfl ⟨rfl, rfl⟩ rfl ?_
  refine G_putF (S' := Y_9) (g_da dt_B_init 6 rfl) (show Y_8[0]? = some (.inr (0, [some none, some none, some none, some none, some none])) by decide +kernel) fq_0_10 rfl rfl (fun _ => rfl) (fun _ => rfl) (by decide +kernel) fr_0_10 rfl ?_
  refine G_aload_n (g_da dt_B_init 7 rfl) rfl rfl ?_
  refine G_new (S' := Y_10) (n := 5) (fl := [some none, some none, some none, some none, some none, some none, some none, some none, none, none, none, none, none]) t_2 (g_da dt_B_init 8 rfl) (show g_cl[2]? = some (R_2, F_2, 13) from rfl) tk_2 cl_0_16 in_2 ii_2 rfl (by decide +kernel) (Nat.le_of_ble_eq_true rfl) (Nat.le_of_ble_eq_true rfl) (by decide +kernel) rfl (by decide +kernel) ?_
  refine G_dup (g_da dt_B_init 9 rfl) rfl ?_
  obtain ⟨_, s3, hc4, h⟩ := o_b h
  refine H_cI (Job_init_k0_ok hc4) (g_da dt_B_init 10 rfl) lk_0_18 mi_Job_init rfl rfl rfl ⟨rfl, rfl⟩ rfl ?_
  refine G_putF (S' := Y_73) (g_da dt_B_init 11 rfl) (show Y_72[0]? = some (.inr (0, [some (some 1), some none, some none, some none, some none])) by decide +kernel) fq_0_19 rfl rfl (fun _ => rfl) (fun _ => rfl) (by decide +kernel) fr_0_19 rfl ?_
  refine G_aload_n (g_da dt_B_init 12 rfl) rfl rfl ?_
  refine G_new (S' := Y_74) (n := 37) (fl := [some none, some none, none, none, none, none, none, none]) t_9 (g_da dt_B_init 13 rfl) (show g_cl[9]? = some (R_9, F_9, 8) from rfl) tk_9 cl_0_23 in_9 ii_9 rfl (by decide +kernel) (Nat.le_of_ble_eq_true rfl) (Nat.le_of_ble_eq_true rfl) (by decide +kernel) rfl (by decide +kernel) ?_
  refine G_dup (g_da dt_B_init 14 rfl) rfl ?_
  obtain ⟨_, s5, hc6, h⟩ := o_b h
  refine H_cI (Order_init_k0_ok hc6) (g_da dt_B_init 15 rfl) lk_0_25 mi_Order_init rfl rfl rfl ⟨rfl, rfl⟩ rfl ?_
  refine G_putF (S' := Y_79) (g_da dt_B_init 16 rfl) (show Y_78[0]? = some (.inr (0, [some (some 1), some (some 5), some none, some none, some none])) by decide +kernel) fq_0_26 rfl rfl (fun _ => rfl) (fun _ => rfl) (by decide +kernel) fr_0_26 rfl ?_
  refine G_aload_n (g_da dt_B_init 17 rfl) rfl rfl ?_
  refine G_new (S' := Y_80) (n := 40) (fl := [some none, some none, some none, some none, some none, some none, none, none, none, none, none, none]) t_10 (g_da dt_B_init 18 rfl) (show g_cl[10]? = some (R_10, F_10, 12) from rfl) tk_10 cl_0_30 in_10 ii_10 rfl (by decide +kernel) (Nat.le_of_ble_eq_true rfl) (Nat.le_of_ble_eq_true rfl) (by decide +kernel) rfl (by decide +kernel) ?_
  refine G_dup (g_da dt_B_init 19 rfl) rfl ?_
  refine G_aload_n (g_da dt_B_init 20 rfl) rfl rfl ?_
  refine G_getR (g_da dt_B_init 21 rfl) (show Y_80[0]? = some (.inr (0, [some (some 1), some (some 5), some (some 37), some none, some none])) by decide +kernel) fl_0_26 rfl ?_
  obtain ⟨_, s7, hc8, h⟩ := o_b h
  refine H_cI (Machine_init_k0_ok hc8) (g_da dt_B_init 22 rfl) lk_0_32 mi_Machine_init rfl rfl rfl ⟨rfl, rfl⟩ rfl ?_
  refine G_putF (S' := Y_92) (g_da dt_B_init 23 rfl) (show Y_91[0]? = some (.inr (0, [some (some 1), some (some 5), some (some 37), some none, some none])) by decide +kernel) fq_0_35 rfl rfl (fun _ => rfl) (fun _ => rfl) (by decide +kernel) fr_0_35 rfl ?_
  refine G_aload_n (g_da dt_B_init 24 rfl) rfl rfl ?_
  refine G_new (S' := Y_93) (n := 46) (fl := [some none, none, some none]) t_11 (g_da dt_B_init 25 rfl) (show g_cl[11]? = some (R_11, F_11, 3) from rfl) tk_11 cl_0_39 in_11 ii_11 rfl (by decide +kernel) (Nat.le_of_ble_eq_true rfl) (Nat.le_of_ble_eq_true rfl) (by decide +kernel) rfl (by decide +kernel) ?_
  refine G_dup (g_da dt_B_init 26 rfl) rfl ?_
  obtain ⟨_, s9, hc10, h⟩ := o_b h
  refine H_cI (Packer_init_k0_ok hc10) (g_da dt_B_init 27 rfl) lk_0_41 mi_Packer_init rfl rfl rfl ⟨rfl, rfl⟩ rfl ?_
  refine G_putF (S' := Y_98) (g_da dt_B_init 28 rfl) (show Y_97[0]? = some (.inr (0, [some (some 1), some (some 5), some (some 37), some (some 40), some none])) by decide +kernel) fq_0_42 rfl rfl (fun _ => rfl) (fun _ => rfl) (by decide +kernel) fr_0_42 rfl ?_
  exact G_return (g_da dt_B_init 29 rfl) rfl rfl (fun _ => ⟨rfl, by decide +kernel⟩) (q_c h)
set_option maxHeartbeats 4000000 in
set_option maxRecDepth 100000 in
theorem M_init_k0_ok {s : gS} {z0 : Int} {s0 : gS} (h : M_init_k0 s = some (z0, s0)) : Ct M_M_init Y_99 [.ref 49] s (QC Y_147 s0) := by
  refine Ct_of [some (.ref 49), none] (plainFor_of_name (by decide)) rfl (Nat.le_of_ble_eq_true rfl) rfl (by decide) q_rC ?_
  unfold M_init_k0 at h
  refine G_aload_n (g_da dt_M_init 0 rfl) rfl rfl ?_
  refine G_objInit (g_da dt_M_init 1 rfl) oi_15_1 oi_i oi_c rfl ?_
  refine G_aload_n (g_da dt_M_init 2 rfl) rfl rfl ?_
  refine G_sipush (g_da dt_M_init 3 rfl) s16w_300 ?_
  refine G_newarray (S' := Y_100) (q := 50) (g_da dt_M_init 4 rfl) rfl (g_ark0 300) ay_0 w_300 (by decide +kernel) rfl (by decide +kernel) (Nat.le_of_ble_eq_true rfl) (Nat.le_of_ble_eq_true rfl) rfl (by decide +kernel) ?_
  refine G_putF (S' := Y_101) (g_da dt_M_init 5 rfl) (show Y_100[49]? = some (.inr (12, [none, some none, some none, none, none, none, none, none, none, none, none, none, none, none, some none, some none, some none, none, some none, some none, some none, some none, none, none, none, none, none, none, none, some none, some none, some none, none, some none, some none, some none, none, some none, some none, none, none, none, none, none, none, none, none, none, some none, some none, some none, some none, some none, some none, some none])) by decide +kernel) fq_15_7 rfl rfl (fun _ => rfl) (fun _ => rfl) (by decide +kernel) fr_15_7 rfl ?_
  refine G_aload_n (g_da dt_M_init 6 rfl) rfl rfl ?_
  refine G_sipush (g_da dt_M_init 7 rfl) s16w_300 ?_
  refine G_newarray (S' := Y_102) (q := 51) (g_da dt_M_init 8 rfl) rfl (g_ark0 300) ay_0 w_300 (by decide +kernel) rfl (by decide +kernel) (Nat.le_of_ble_eq_true rfl) (Nat.le_of_ble_eq_true rfl) rfl (by decide +kernel) ?_
  refine G_putF (S' := Y_103) (g_da dt_M_init 9 rfl) (show Y_102[49]? = some (.inr (12, [none, some (some 50), some none, none, none, none, none, none, none, none, none, none, none, none, some none, some none, some none, none, some none, some none, some none, some none, none, none, none, none, none, none, none, some none, some none, some none, none, some none, some none, some none, none, some none, some none, none, none, none, none, none, none, none, none, none, some none, some none, some none, some none, some none, some none, some none])) by decide +kernel) fq_15_13 rfl rfl (fun _ => rfl) (fun _ => rfl) (by decide +kernel) fr_15_13 rfl ?_
  refine G_aload_n (g_da dt_M_init 10 rfl) rfl rfl ?_
  refine G_bipush (g_da dt_M_init 11 rfl) b8w_33 ?_
  refine G_newarray (S' := Y_104) (q := 52) (g_da dt_M_init 12 rfl) rfl (g_ark0 33) ay_0 w_33 (by decide +kernel) rfl (by decide +kernel) (Nat.le_of_ble_eq_true rfl) (Nat.le_of_ble_eq_true rfl) rfl (by decide +kernel) ?_
  refine G_putF (S' := Y_105) (g_da dt_M_init 13 rfl) (show Y_104[49]? = some (.inr (12, [none, some (some 50), some (some 51), none, none, none, none, none, none, none, none, none, none, none, some none, some none, some none, none, some none, some none, some none, some none, none, none, none, none, none, none, none, some none, some none, some none, none, some none, some none, some none, none, some none, some none, none, none, none, none, none, none, none, none, none, some none, some none, some none, some none, some none, some none, some none])) by decide +kernel) fq_15_16 rfl rfl (fun _ => rfl) (fun _ => rfl) (by decide +kernel) fr_15_16 rfl ?_
  refine G_aload_n (g_da dt_M_init 14 rfl) rfl rfl ?_
  refine G_bipush (g_da dt_M_init 15 rfl) b8w_26 ?_
  refine G_newarray (S' := Y_106) (q := 53) (g_da dt_M_init 16 rfl) rfl (g_ark0 26) ay_0 w_26 (by decide +kernel) rfl (by decide +kernel) (Nat.le_of_ble_eq_true rfl) (Nat.le_of_ble_eq_true rfl) rfl (by decide +kernel) ?_
  refine G_putF (S' := Y_107) (g_da dt_M_init 17 rfl) (show Y_106[49]? = some (.inr (12, [none, some (some 50), some (some 51), none, none, none, none, none, none, none, none, none, none, none, some (some 52), some none, some none, none, some none, some none, some none, some none, none, none, none, none, none, none, none, some none, some none, some none, none, some none, some none, some none, none, some none, some none, none, none, none, none, none, none, none, none, none, some none, some none, some none, some none, some none, some none, some none])) by decide +kernel) fq_15_19 rfl rfl (fun _ => rfl) (fun _ => rfl) (by decide +kernel) fr_15_19 rfl ?_
  refine G_aload_n (g_da dt_M_init 18 rfl) rfl rfl ?_
  refine G_bipush (g_da dt_M_init 19 rfl) b8w_33 ?_
  refine G_newarray (S' := Y_108) (q := 54) (g_da dt_M_init 20 rfl) rfl (g_ark1 33) ay_1 w_33 (by decide +kernel) rfl (by decide +kernel) (Nat.le_of_ble_eq_true rfl) (Nat.le_of_ble_eq_true rfl) rfl (by decide +kernel) ?_
  refine G_putF (S' := Y_109) (g_da dt_M_init 21 rfl) (show Y_108[49]? = some (.inr (12, [none, some (some 50), some (some 51), none, none, none, none, none, none, none, none, none, none, none, some (some 52), some (some 53), some none, none, some none, some none, some none, some none, none, none, none, none, none, none, none, some none, some none, some none, none, some none, some none, some none, none, some none, some none, none, none, none, none, none, none, none, none, none, some none, some none, some none, some none, some none, some none, some none])) by decide +kernel) fq_15_22 rfl rfl (fun _ => rfl) (fun _ => rfl) (by decide +kernel) fr_15_22 rfl ?_
  refine G_aload_n (g_da dt_M_init 22 rfl) rfl rfl ?_
  refine G_bipush (g_da dt_M_init 23 rfl) b8w_22 ?_
  refine G_newarray (S' := Y_110) (q := 55) (g_da dt_M_init 24 rfl) rfl (g_ark0 22) ay_0 w_22 (by decide +kernel) rfl (by decide +kernel) (Nat.le_of_ble_eq_true rfl) (Nat.le_of_ble_eq_true rfl) rfl (by decide +kernel) ?_
  refine G_putF (S' := Y_111) (g_da dt_M_init 25 rfl) (show Y_110[49]? = some (.inr (12, [none, some (some 50), some (some 51), none, none, none, none, none, none, none, none, none, none, none, some (some 52), some (some 53), some (some 54), none, some none, some none, some none, some none, none, none, none, none, none, none, none, some none, some none, some none, none, some none, some none, some none, none, some none, some none, none, none, none, none, none, none, none, none, none, some none, some none, some none, some none, some none, some none, some none])) by decide +kernel) fq_15_26 rfl rfl (fun _ => rfl) (fun _ => rfl) (by decide +kernel) fr_15_26 rfl ?_
  refine G_aload_n (g_da dt_M_init 26 rfl) rfl rfl ?_
  refine G_bipush (g_da dt_M_init 27 rfl) b8w_22 ?_
  refine G_newarray (S' := Y_112) (q := 56) (g_da dt_M_init 28 rfl) rfl (g_ark0 22) ay_0 w_22 (by decide +kernel) rfl (by decide +kernel) (Nat.le_of_ble_eq_true rfl) (Nat.le_of_ble_eq_true rfl) rfl (by decide +kernel) ?_
  refine G_putF (S' := Y_113) (g_da dt_M_init 29 rfl) (show Y_112[49]? = some (.inr (12, [none, some (some 50), some (some 51), none, none, none, none, none, none, none, none, none, none, none, some (some 52), some (some 53), some (some 54), none, some (some 55), some none, some none, some none, none, none, none, none, none, none, none, some none, some none, some none, none, some none, some none, some none, none, some none, some none, none, none, none, none, none, none, none, none, none, some none, some none, some none, some none, some none, some none, some none])) by decide +kernel) fq_15_29 rfl rfl (fun _ => rfl) (fun _ => rfl) (by decide +kernel) fr_15_29 rfl ?_
  refine G_aload_n (g_da dt_M_init 30 rfl) rfl rfl ?_
  refine G_bipush (g_da dt_M_init 31 rfl) b8w_22 ?_
  refine G_newarray (S' := Y_114) (q := 57) (g_da dt_M_init 32 rfl) rfl (g_ark0 22) ay_0 w_22 (by decide +kernel) rfl (by decide +kernel) (Nat.le_of_ble_eq_true rfl) (Nat.le_of_ble_eq_true rfl) rfl (by decide +kernel) ?_
  refine G_putF (S' := Y_115) (g_da dt_M_init 33 rfl) (show Y_114[49]? = some (.inr (12, [none, some (some 50), some (some 51), none, none, none, none, none, none, none, none, none, none, none, some (some 52), some (some 53), some (some 54), none, some (some 55), some (some 56), some none, some none, none, none, none, none, none, none, none, some none, some none, some none, none, some none, some none, some none, none, some none, some none, none, none, none, none, none, none, none, none, none, some none, some none, some none, some none, some none, some none, some none])) by decide +kernel) fq_15_32 rfl rfl (fun _ => rfl) (fun _ => rfl) (by decide +kernel) fr_15_32 rfl ?_
  refine G_aload_n (g_da dt_M_init 34 rfl) rfl rfl ?_
  refine G_bipush (g_da dt_M_init 35 rfl) b8w_22 ?_
  refine G_newarray (S' := Y_116) (q := 58) (g_da dt_M_init 36 rfl) rfl (g_ark0 22) ay_0 w_22 (by decide +kernel) rfl (by decide +kernel) (Nat.le_of_ble_eq_true rfl) (Nat.le_of_ble_eq_true rfl) rfl (by decide +kernel) ?_
  refine G_putF (S' := Y_117) (g_da dt_M_init 37 rfl) (show Y_116[49]? = some (.inr (12, [none, some (some 50), some (some 51), none, none, none, none, none, none, none, none, none, none, none, some (some 52), some (some 53), some (some 54), none, some (some 55), some (some 56), some (some 57), some none, none, none, none, none, none, none, none, some none, some none, some none, none, some none, some none, some none, none, some none, some none, none, none, none, none, none, none, none, none, none, some none, some none, some none, some none, some none, some none, some none])) by decide +kernel) fq_15_35 rfl rfl (fun _ => rfl) (fun _ => rfl) (by decide +kernel) fr_15_35 rfl ?_
  refine G_aload_n (g_da dt_M_init 38 rfl) rfl rfl ?_
  refine G_sipush (g_da dt_M_init 39 rfl) s16w_200 ?_
  refine G_newarray (S' := Y_118) (q := 59) (g_da dt_M_init 40 rfl) rfl (g_ark0 200) ay_0 w_200 (by decide +kernel) rfl (by decide +kernel) (Nat.le_of_ble_eq_true rfl) (Nat.le_of_ble_eq_true rfl) rfl (by decide +kernel) ?_
  refine G_putF (S' := Y_119) (g_da dt_M_init 41 rfl) (show Y_118[49]? = some (.inr (12, [none, some (some 50), some (some 51), none, none, none, none, none, none, none, none, none, none, none, some (some 52), some (some 53), some (some 54), none, some (some 55), some (some 56), some (some 57), some (some 58), none, none, none, none, none, none, none, some none, some none, some none, none, some none, some none, some none, none, some none, some none, none, none, none, none, none, none, none, none, none, some none, some none, some none, some none, some none, some none, some none])) by decide +kernel) fq_15_38 rfl rfl (fun _ => rfl) (fun _ => rfl) (by decide +kernel) fr_15_38 rfl ?_
  refine G_aload_n (g_da dt_M_init 42 rfl) rfl rfl ?_
  refine G_sipush (g_da dt_M_init 43 rfl) s16w_200 ?_
  refine G_newarray (S' := Y_120) (q := 60) (g_da dt_M_init 44 rfl) rfl (g_ark0 200) ay_0 w_200 (by decide +kernel) rfl (by decide +kernel) (Nat.le_of_ble_eq_true rfl) (Nat.le_of_ble_eq_true rfl) rfl (by decide +kernel) ?_
  refine G_putF (S' := Y_121) (g_da dt_M_init 45 rfl) (show Y_120[49]? = some (.inr (12, [none, some (some 50), some (some 51), none, none, none, none, none, none, none, none, none, none, none, some (some 52), some (some 53), some (some 54), none, some (some 55), some (some 56), some (some 57), some (some 58), none, none, none, none, none, none, none, some (some 59), some none, some none, none, some none, some none, some none, none, some none, some none, none, none, none, none, none, none, none, none, none, some none, some none, some none, some none, some none, some none, some none])) by decide +kernel) fq_15_41 rfl rfl (fun _ => rfl) (fun _ => rfl) (by decide +kernel) fr_15_41 rfl ?_
  refine G_aload_n (g_da dt_M_init 46 rfl) rfl rfl ?_
  refine G_sipush (g_da dt_M_init 47 rfl) s16w_200 ?_
  refine G_newarray (S' := Y_122) (q := 61) (g_da dt_M_init 48 rfl) rfl (g_ark1 200) ay_1 w_200 (by decide +kernel) rfl (by decide +kernel) (Nat.le_of_ble_eq_true rfl) (Nat.le_of_ble_eq_true rfl) rfl (by decide +kernel) ?_
  refine G_putF (S' := Y_123) (g_da dt_M_init 49 rfl) (show Y_122[49]? = some (.inr (12, [none, some (some 50), some (some 51), none, none, none, none, none, none, none, none, none, none, none, some (some 52), some (some 53), some (some 54), none, some (some 55), some (some 56), some (some 57), some (some 58), none, none, none, none, none, none, none, some (some 59), some (some 60), some none, none, some none, some none, some none, none, some none, some none, none, none, none, none, none, none, none, none, none, some none, some none, some none, some none, some none, some none, some none])) by decide +kernel) fq_15_44 rfl rfl (fun _ => rfl) (fun _ => rfl) (by decide +kernel) fr_15_44 rfl ?_
  refine G_aload_n (g_da dt_M_init 50 rfl) rfl rfl ?_
  refine G_bipush (g_da dt_M_init 51 rfl) b8w_25 ?_
  refine G_newarray (S' := Y_124) (q := 62) (g_da dt_M_init 52 rfl) rfl (g_ark0 25) ay_0 w_25 (by decide +kernel) rfl (by decide +kernel) (Nat.le_of_ble_eq_true rfl) (Nat.le_of_ble_eq_true rfl) rfl (by decide +kernel) ?_
  refine G_putF (S' := Y_125) (g_da dt_M_init 53 rfl) (show Y_124[49]? = some (.inr (12, [none, some (some 50), some (some 51), none, none, none, none, none, none, none, none, none, none, none, some (some 52), some (some 53), some (some 54), none, some (some 55), some (some 56), some (some 57), some (some 58), none, none, none, none, none, none, none, some (some 59), some (some 60), some (some 61), none, some none, some none, some none, none, some none, some none, none, none, none, none, none, none, none, none, none, some none, some none, some none, some none, some none, some none, some none])) by decide +kernel) fq_15_47 rfl rfl (fun _ => rfl) (fun _ => rfl) (by decide +kernel) fr_15_47 rfl ?_
  refine G_aload_n (g_da dt_M_init 54 rfl) rfl rfl ?_
  refine G_sipush (g_da dt_M_init 55 rfl) s16w_15360 ?_
  refine G_newarray (S' := Y_126) (q := 63) (g_da dt_M_init 56 rfl) rfl (g_ark1 15360) ay_1 w_15360 (by decide +kernel) rfl (by decide +kernel) (Nat.le_of_ble_eq_true rfl) (Nat.le_of_ble_eq_true rfl) rfl (by decide +kernel) ?_
  refine G_putF (S' := Y_127) (g_da dt_M_init 57 rfl) (show Y_126[49]? = some (.inr (12, [none, some (some 50), some (some 51), none, none, none, none, none, none, none, none, none, none, none, some (some 52), some (some 53), some (some 54), none, some (some 55), some (some 56), some (some 57), some (some 58), none, none, none, none, none, none, none, some (some 59), some (some 60), some (some 61), none, some (some 62), some none, some none, none, some none, some none, none, none, none, none, none, none, none, none, none, some none, some none, some none, some none, some none, some none, some none])) by decide +kernel) fq_15_50 rfl rfl (fun _ => rfl) (fun _ => rfl) (by decide +kernel) fr_15_50 rfl ?_
  refine G_aload_n (g_da dt_M_init 58 rfl) rfl rfl ?_
  refine G_sipush (g_da dt_M_init 59 rfl) s16w_27648 ?_
  refine G_newarray (S' := Y_128) (q := 64) (g_da dt_M_init 60 rfl) rfl (g_ark1 27648) ay_1 w_27648 (by decide +kernel) rfl (by decide +kernel) (Nat.le_of_ble_eq_true rfl) (Nat.le_of_ble_eq_true rfl) rfl (by decide +kernel) ?_
  refine G_putF (S' := Y_129) (g_da dt_M_init 61 rfl) (show Y_128[49]? = some (.inr (12, [none, some (some 50), some (some 51), none, none, none, none, none, none, none, none, none, none, none, some (some 52), some (some 53), some (some 54), none, some (some 55), some (some 56), some (some 57), some (some 58), none, none, none, none, none, none, none, some (some 59), some (some 60), some (some 61), none, some (some 62), some (some 63), some none, none, some none, some none, none, none, none, none, none, none, none, none, none, some none, some none, some none, some none, some none, some none, some none])) by decide +kernel) fq_15_53 rfl rfl (fun _ => rfl) (fun _ => rfl) (by decide +kernel) fr_15_53 rfl ?_
  refine G_aload_n (g_da dt_M_init 62 rfl) rfl rfl ?_
  refine G_sipush (g_da dt_M_init 63 rfl) s16w_3072 ?_
  refine G_newarray (S' := Y_130) (q := 65) (g_da dt_M_init 64 rfl) rfl (g_ark1 3072) ay_1 w_3072 (by decide +kernel) rfl (by decide +kernel) (Nat.le_of_ble_eq_true rfl) (Nat.le_of_ble_eq_true rfl) rfl (by decide +kernel) ?_
  refine G_putF (S' := Y_131) (g_da dt_M_init 65 rfl) (show Y_130[49]? = some (.inr (12, [none, some (some 50), some (some 51), none, none, none, none, none, none, none, none, none, none, none, some (some 52), some (some 53), some (some 54), none, some (some 55), some (some 56), some (some 57), some (some 58), none, none, none, none, none, none, none, some (some 59), some (some 60), some (some 61), none, some (some 62), some (some 63), some (some 64), none, some none, some none, none, none, none, none, none, none, none, none, none, some none, some none, some none, some none, some none, some none, some none])) by decide +kernel) fq_15_56 rfl rfl (fun _ => rfl) (fun _ => rfl) (by decide +kernel) fr_15_56 rfl ?_
  refine G_aload_n (g_da dt_M_init 66 rfl) rfl rfl ?_
  refine G_sipush (g_da dt_M_init 67 rfl) s16w_640 ?_
  refine G_newarray (S' := Y_132) (q := 66) (g_da dt_M_init 68 rfl) rfl (g_ark0 640) ay_0 w_640 (by decide +kernel) rfl (by decide +kernel) (Nat.le_of_ble_eq_true rfl) (Nat.le_of_ble_eq_true rfl) rfl (by decide +kernel) ?_
  refine G_putF (S' := Y_133) (g_da dt_M_init 69 rfl) (show Y_132[49]? = some (.inr (12, [none, some (some 50), some (some 51), none, none, none, none, none, none, none, none, none, none, none, some (some 52), some (some 53), some (some 54), none, some (some 55), some (some 56), some (some 57), some (some 58), none, none, none, none, none, none, none, some (some 59), some (some 60), some (some 61), none, some (some 62), some (some 63), some (some 64), none, some (some 65), some none, none, none, none, none, none, none, none, none, none, some none, some none, some none, some none, some none, some none, some none])) by decide +kernel) fq_15_59 rfl rfl (fun _ => rfl) (fun _ => rfl) (by decide +kernel) fr_15_59 rfl ?_
  refine G_aload_n (g_da dt_M_init 70 rfl) rfl rfl ?_
  refine G_iconst (g_da dt_M_init 71 rfl) ?_
  refine G_newarray (S' := Y_134) (q := 67) (g_da dt_M_init 72 rfl) rfl (g_ark0 4) ay_0 w_4 (by decide +kernel) rfl (by decide +kernel) (Nat.le_of_ble_eq_true rfl) (Nat.le_of_ble_eq_true rfl) rfl (by decide +kernel) ?_
  refine G_putF (S' := Y_135) (g_da dt_M_init 73 rfl) (show Y_134[49]? = some (.inr (12, [none, some (some 50), some (some 51), none, none, none, none, none, none, none, none, none, none, none, some (some 52), some (some 53), some (some 54), none, some (some 55), some (some 56), some (some 57), some (some 58), none, none, none, none, none, none, none, some (some 59), some (some 60), some (some 61), none, some (some 62), some (some 63), some (some 64), none, some (some 65), some (some 66), none, none, none, none, none, none, none, none, none, some none, some none, some none, some none, some none, some none, some none])) by decide +kernel) fq_15_62 rfl rfl (fun _ => rfl) (fun _ => rfl) (by decide +kernel) fr_15_62 rfl ?_
  refine G_aload_n (g_da dt_M_init 74 rfl) rfl rfl ?_
  refine G_iconst (g_da dt_M_init 75 rfl) ?_
  refine G_newarray (S' := Y_136) (q := 68) (g_da dt_M_init 76 rfl) rfl (g_ark0 4) ay_0 w_4 (by decide +kernel) rfl (by decide +kernel) (Nat.le_of_ble_eq_true rfl) (Nat.le_of_ble_eq_true rfl) rfl (by decide +kernel) ?_
  refine G_putF (S' := Y_137) (g_da dt_M_init 77 rfl) (show Y_136[49]? = some (.inr (12, [none, some (some 50), some (some 51), none, none, none, none, none, none, none, none, none, none, none, some (some 52), some (some 53), some (some 54), none, some (some 55), some (some 56), some (some 57), some (some 58), none, none, none, none, none, none, none, some (some 59), some (some 60), some (some 61), none, some (some 62), some (some 63), some (some 64), none, some (some 65), some (some 66), none, none, none, none, none, none, none, none, none, some (some 67), some none, some none, some none, some none, some none, some none])) by decide +kernel) fq_15_65 rfl rfl (fun _ => rfl) (fun _ => rfl) (by decide +kernel) fr_15_65 rfl ?_
  refine G_aload_n (g_da dt_M_init 78 rfl) rfl rfl ?_
  refine G_iconst (g_da dt_M_init 79 rfl) ?_
  refine G_newarray (S' := Y_138) (q := 69) (g_da dt_M_init 80 rfl) rfl (g_ark0 4) ay_0 w_4 (by decide +kernel) rfl (by decide +kernel) (Nat.le_of_ble_eq_true rfl) (Nat.le_of_ble_eq_true rfl) rfl (by decide +kernel) ?_
  refine G_putF (S' := Y_139) (g_da dt_M_init 81 rfl) (show Y_138[49]? = some (.inr (12, [none, some (some 50), some (some 51), none, none, none, none, none, none, none, none, none, none, none, some (some 52), some (some 53), some (some 54), none, some (some 55), some (some 56), some (some 57), some (some 58), none, none, none, none, none, none, none, some (some 59), some (some 60), some (some 61), none, some (some 62), some (some 63), some (some 64), none, some (some 65), some (some 66), none, none, none, none, none, none, none, none, none, some (some 67), some (some 68), some none, some none, some none, some none, some none])) by decide +kernel) fq_15_68 rfl rfl (fun _ => rfl) (fun _ => rfl) (by decide +kernel) fr_15_68 rfl ?_
  refine G_aload_n (g_da dt_M_init 82 rfl) rfl rfl ?_
  refine G_bipush (g_da dt_M_init 83 rfl) b8w_40 ?_
  refine G_newarray (S' := Y_140) (q := 70) (g_da dt_M_init 84 rfl) rfl (g_ark0 40) ay_0 w_40 (by decide +kernel) rfl (by decide +kernel) (Nat.le_of_ble_eq_true rfl) (Nat.le_of_ble_eq_true rfl) rfl (by decide +kernel) ?_
  refine G_putF (S' := Y_141) (g_da dt_M_init 85 rfl) (show Y_140[49]? = some (.inr (12, [none, some (some 50), some (some 51), none, none, none, none, none, none, none, none, none, none, none, some (some 52), some (some 53), some (some 54), none, some (some 55), some (some 56), some (some 57), some (some 58), none, none, none, none, none, none, none, some (some 59), some (some 60), some (some 61), none, some (some 62), some (some 63), some (some 64), none, some (some 65), some (some 66), none, none, none, none, none, none, none, none, none, some (some 67), some (some 68), some (some 69), some none, some none, some none, some none])) by decide +kernel) fq_15_71 rfl rfl (fun _ => rfl) (fun _ => rfl) (by decide +kernel) fr_15_71 rfl ?_
  refine G_aload_n (g_da dt_M_init 86 rfl) rfl rfl ?_
  refine G_iconst (g_da dt_M_init 87 rfl) ?_
  refine G_newarray (S' := Y_142) (q := 71) (g_da dt_M_init 88 rfl) rfl (g_ark1 4) ay_1 w_4 (by decide +kernel) rfl (by decide +kernel) (Nat.le_of_ble_eq_true rfl) (Nat.le_of_ble_eq_true rfl) rfl (by decide +kernel) ?_
  refine G_putF (S' := Y_143) (g_da dt_M_init 89 rfl) (show Y_142[49]? = some (.inr (12, [none, some (some 50), some (some 51), none, none, none, none, none, none, none, none, none, none, none, some (some 52), some (some 53), some (some 54), none, some (some 55), some (some 56), some (some 57), some (some 58), none, none, none, none, none, none, none, some (some 59), some (some 60), some (some 61), none, some (some 62), some (some 63), some (some 64), none, some (some 65), some (some 66), none, none, none, none, none, none, none, none, none, some (some 67), some (some 68), some (some 69), some (some 70), some none, some none, some none])) by decide +kernel) fq_15_74 rfl rfl (fun _ => rfl) (fun _ => rfl) (by decide +kernel) fr_15_74 rfl ?_
  refine G_aload_n (g_da dt_M_init 90 rfl) rfl rfl ?_
  refine G_iconst (g_da dt_M_init 91 rfl) ?_
  refine G_newarray (S' := Y_144) (q := 72) (g_da dt_M_init 92 rfl) rfl (g_ark1 4) ay_1 w_4 (by decide +kernel) rfl (by decide +kernel) (Nat.le_of_ble_eq_true rfl) (Nat.le_of_ble_eq_true rfl) rfl (by decide +kernel) ?_
  refine G_putF (S' := Y_145) (g_da dt_M_init 93 rfl) (show Y_144[49]? = some (.inr (12, [none, some (some 50), some (some 51), none, none, none, none, none, none, none, none, none, none, none, some (some 52), some (some 53), some (some 54), none, some (some 55), some (some 56), some (some 57), some (some 58), none, none, none, none, none, none, none, some (some 59), some (some 60), some (some 61), none, some (some 62), some (some 63), some (some 64), none, some (some 65), some (some 66), none, none, none, none, none, none, none, none, none, some (some 67), some (some 68), some (some 69), some (some 70), some (some 71), some none, some none])) by decide +kernel) fq_15_77 rfl rfl (fun _ => rfl) (fun _ => rfl) (by decide +kernel) fr_15_77 rfl ?_
  refine G_aload_n (g_da dt_M_init 94 rfl) rfl rfl ?_
  refine G_bipush (g_da dt_M_init 95 rfl) b8w_40 ?_
  refine G_newarray (S' := Y_146) (q := 73) (g_da dt_M_init 96 rfl) rfl (g_ark1 40) ay_1 w_40 (by decide +kernel) rfl (by decide +kernel) (Nat.le_of_ble_eq_true rfl) (Nat.le_of_ble_eq_true rfl) rfl (by decide +kernel) ?_
  refine G_putF (S' := Y_147) (g_da dt_M_init 97 rfl) (show Y_146[49]? = some (.inr (12, [none, some (some 50), some (some 51), none, none, none, none, none, none, none, none, none, none, none, some (some 52), some (some 53), some (some 54), none, some (some 55), some (some 56), some (some 57), some (some 58), none, none, none, none, none, none, none, some (some 59), some (some 60), some (some 61), none, some (some 62), some (some 63), some (some 64), none, some (some 65), some (some 66), none, none, none, none, none, none, none, none, none, some (some 67), some (some 68), some (some 69), some (some 70), some (some 71), some (some 72), some none])) by decide +kernel) fq_15_80 rfl rfl (fun _ => rfl) (fun _ => rfl) (by decide +kernel) fr_15_80 rfl ?_
  refine G_iconst (g_da dt_M_init 98 rfl) ?_
  refine G_istore_n (lv' := [some (.ref 49), some (gi 0)]) (g_da dt_M_init 99 rfl) rfl (Nat.le_of_ble_eq_true rfl) rfl rfl ?_
  refine G_iload_n (g_da dt_M_init 100 rfl) rfl rfl ?_
  refine G_iconst (g_da dt_M_init 101 rfl) ?_
  refine G_icmp_ge (g_da dt_M_init 102 rfl) rfl w_0 w_4 (fun hc => absurd hc (by decide)) (fun _ => ?_)
  refine G_aload_n (g_da dt_M_init 103 rfl) rfl rfl ?_
  refine G_getR (g_da dt_M_init 104 rfl) (show Y_147[49]? = some (.inr (12, [none, some (some 50), some (some 51), none, none, none, none, none, none, none, none, none, none, none, some (some 52), some (some 53), some (some 54), none, some (some 55), some (some 56), some (some 57), some (some 58), none, none, none, none, none, none, none, some (some 59), some (some 60), some (some 61), none, some (some 62), some (some 63), some (some 64), none, some (some 65), some (some 66), none, none, none, none, none, none, none, none, none, some (some 67), some (some 68), some (some 69), some (some 70), some (some 71), some (some 72), some (some 73)])) by decide +kernel) fl_15_62 rfl ?_
  refine G_iload_n (g_da dt_M_init 105 rfl) rfl rfl ?_
  refine G_iconst (g_da dt_M_init 106 rfl) ?_
  refine G_iastore (g_da dt_M_init 107 rfl) (show Y_147[67]? = some (.inl (0, 4)) by decide +kernel) w_0 ⟨by decide, by decide⟩ ?_
  refine G_iinc (lv' := [some (.ref 49), some (gi 1)]) (g_da dt_M_init 108 rfl) rfl (Nat.le_of_ble_eq_true rfl) rfl rfl ?_
  refine G_goto (g_da dt_M_init 109 rfl) rfl ?_
  refine G_iload_n (g_da dt_M_init 100 rfl) rfl rfl ?_
  refine G_iconst (g_da dt_M_init 101 rfl) ?_
  refine G_icmp_ge (g_da dt_M_init 102 rfl) rfl w_1 w_4 (fun hc => absurd hc (by decide)) (fun _ => ?_)
  refine G_aload_n (g_da dt_M_init 103 rfl) rfl rfl ?_
  refine G_getR (g_da dt_M_init 104 rfl) (show Y_147[49]? = some (.inr (12, [none, some (some 50), some (some 51), none, none, none, none, none, none, none, none, none, none, none, some (some 52), some (some 53), some (some 54), none, some (some 55), some (some 56), some (some 57), some (some 58), none, none, none, none, none, none, none, some (some 59), some (some 60), some (some 61), none, some (some 62), some (some 63), some (some 64), none, some (some 65), some (some 66), none, none, none, none, none, none, none, none, none, some (some 67), some (some 68), some (some 69), some (some 70), some (some 71), some (some 72), some (some 73)])) by decide +kernel) fl_15_62 rfl ?_
  refine G_iload_n (g_da dt_M_init 105 rfl) rfl rfl ?_
  refine G_iconst (g_da dt_M_init 106 rfl) ?_
  refine G_iastore (g_da dt_M_init 107 rfl) (show Y_147[67]? = some (.inl (0, 4)) by decide +kernel) w_1 ⟨by decide, by decide⟩ ?_
  refine G_iinc (lv' := [some (.ref 49), some (gi 2)]) (g_da dt_M_init 108 rfl) rfl (Nat.le_of_ble_eq_true rfl) rfl rfl ?_
  refine G_goto (g_da dt_M_init 109 rfl) rfl ?_
  refine G_iload_n (g_da dt_M_init 100 rfl) rfl rfl ?_
  refine G_iconst (g_da dt_M_init 101 rfl) ?_
  refine G_icmp_ge (g_da dt_M_init 102 rfl) rfl w_2 w_4 (fun hc => absurd hc (by decide)) (fun _ => ?_)
  refine G_aload_n (g_da dt_M_init 103 rfl) rfl rfl ?_
  refine G_getR (g_da dt_M_init 104 rfl) (show Y_147[49]? = some (.inr (12, [none, some (some 50), some (some 51), none, none, none, none, none, none, none, none, none, none, none, some (some 52), some (some 53), some (some 54), none, some (some 55), some (some 56), some (some 57), some (some 58), none, none, none, none, none, none, none, some (some 59), some (some 60), some (some 61), none, some (some 62), some (some 63), some (some 64), none, some (some 65), some (some 66), none, none, none, none, none, none, none, none, none, some (some 67), some (some 68), some (some 69), some (some 70), some (some 71), some (some 72), some (some 73)])) by decide +kernel) fl_15_62 rfl ?_
  refine G_iload_n (g_da dt_M_init 105 rfl) rfl rfl ?_
  refine G_iconst (g_da dt_M_init 106 rfl) ?_
  refine G_iastore (g_da dt_M_init 107 rfl) (show Y_147[67]? = some (.inl (0, 4)) by decide +kernel) w_2 ⟨by decide, by decide⟩ ?_
  refine G_iinc (lv' := [some (.ref 49), some (gi 3)]) (g_da dt_M_init 108 rfl) rfl (Nat.le_of_ble_eq_true rfl) rfl rfl ?_
  refine G_goto (g_da dt_M_init 109 rfl) rfl ?_
  refine G_iload_n (g_da dt_M_init 100 rfl) rfl rfl ?_
  refine G_iconst (g_da dt_M_init 101 rfl) ?_
  refine G_icmp_ge (g_da dt_M_init 102 rfl) rfl w_3 w_4 (fun hc => absurd hc (by decide)) (fun _ => ?_)
  refine G_aload_n (g_da dt_M_init 103 rfl) rfl rfl ?_
  refine G_getR (g_da dt_M_init 104 rfl) (show Y_147[49]? = some (.inr (12, [none, some (some 50), some (some 51), none, none, none, none, none, none, none, none, none, none, none, some (some 52), some (some 53), some (some 54), none, some (some 55), some (some 56), some (some 57), some (some 58), none, none, none, none, none, none, none, some (some 59), some (some 60), some (some 61), none, some (some 62), some (some 63), some (some 64), none, some (some 65), some (some 66), none, none, none, none, none, none, none, none, none, some (some 67), some (some 68), some (some 69), some (some 70), some (some 71), some (some 72), some (some 73)])) by decide +kernel) fl_15_62 rfl ?_
  refine G_iload_n (g_da dt_M_init 105 rfl) rfl rfl ?_
  refine G_iconst (g_da dt_M_init 106 rfl) ?_
  refine G_iastore (g_da dt_M_init 107 rfl) (show Y_147[67]? = some (.inl (0, 4)) by decide +kernel) w_3 ⟨by decide, by decide⟩ ?_
  refine G_iinc (lv' := [some (.ref 49), some (gi 4)]) (g_da dt_M_init 108 rfl) rfl (Nat.le_of_ble_eq_true rfl) rfl rfl ?_
  refine G_goto (g_da dt_M_init 109 rfl) rfl ?_
  refine G_iload_n (g_da dt_M_init 100 rfl) rfl rfl ?_
  refine G_iconst (g_da dt_M_init 101 rfl) ?_
  refine G_icmp_ge (g_da dt_M_init 102 rfl) rfl w_4 w_4 (fun _ => ?_) (fun hc => absurd (by decide) hc)
  refine G_aload_n (g_da dt_M_init 110 rfl) rfl rfl ?_
  refine G_getR (g_da dt_M_init 111 rfl) (show Y_147[49]? = some (.inr (12, [none, some (some 50), some (some 51), none, none, none, none, none, none, none, none, none, none, none, some (some 52), some (some 53), some (some 54), none, some (some 55), some (some 56), some (some 57), some (some 58), none, none, none, none, none, none, none, some (some 59), some (some 60), some (some 61), none, some (some 62), some (some 63), some (some 64), none, some (some 65), some (some 66), none, none, none, none, none, none, none, none, none, some (some 67), some (some 68), some (some 69), some (some 70), some (some 71), some (some 72), some (some 73)])) by decide +kernel) fl_15_47 rfl ?_
  refine G_iconst (g_da dt_M_init 112 rfl) ?_
  refine G_bipush (g_da dt_M_init 113 rfl) b8w_16 ?_
  refine G_iastore (g_da dt_M_init 114 rfl) (show Y_147[62]? = some (.inl (0, 25)) by decide +kernel) w_0 ⟨by decide, by decide⟩ ?_
  refine G_aload_n (g_da dt_M_init 115 rfl) rfl rfl ?_
  refine G_getR (g_da dt_M_init 116 rfl) (show Y_147[49]? = some (.inr (12, [none, some (some 50), some (some 51), none, none, none, none, none, none, none, none, none, none, none, some (some 52), some (some 53), some (some 54), none, some (some 55), some (some 56), some (some 57), some (some 58), none, none, none, none, none, none, none, some (some 59), some (some 60), some (some 61), none, some (some 62), some (some 63), some (some 64), none, some (some 65), some (some 66), none, none, none, none, none, none, none, none, none, some (some 67), some (some 68), some (some 69), some (some 70), some (some 71), some (some 72), some (some 73)])) by decide +kernel) fl_15_47 rfl ?_
  refine G_iconst (g_da dt_M_init 117 rfl) ?_
  refine G_bipush (g_da dt_M_init 118 rfl) b8w_16 ?_
  refine G_iastore (g_da dt_M_init 119 rfl) (show Y_147[62]? = some (.inl (0, 25)) by decide +kernel) w_1 ⟨by decide, by decide⟩ ?_
  refine G_aload_n (g_da dt_M_init 120 rfl) rfl rfl ?_
  refine G_getR (g_da dt_M_init 121 rfl) (show Y_147[49]? = some (.inr (12, [none, some (some 50), some (some 51), none, none, none, none, none, none, none, none, none, none, none, some (some 52), some (some 53), some (some 54), none, some (some 55), some (some 56), some (some 57), some (some 58), none, none, none, none, none, none, none, some (some 59), some (some 60), some (some 61), none, some (some 62), some (some 63), some (some 64), none, some (some 65), some (some 66), none, none, none, none, none, none, none, none, none, some (some 67), some (some 68), some (some 69), some (some 70), some (some 71), some (some 72), some (some 73)])) by decide +kernel) fl_15_47 rfl ?_
  refine G_iconst (g_da dt_M_init 122 rfl) ?_
  refine G_bipush (g_da dt_M_init 123 rfl) b8w_16 ?_
  refine G_iastore (g_da dt_M_init 124 rfl) (show Y_147[62]? = some (.inl (0, 25)) by decide +kernel) w_4 ⟨by decide, by decide⟩ ?_
  exact G_return (g_da dt_M_init 125 rfl) rfl rfl (fun _ => ⟨rfl, by decide +kernel⟩) (q_c h)
