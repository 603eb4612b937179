set_option maxHeartbeats 4000000 in
set_option maxRecDepth 100000 in
theorem String_isLatin1_c_ok {J : gS → gS} {z0 : Int} {s0 : gS} {s : gS} (h : String_isLatin1_c s = some (z0, s0)) : Ct M_String_isLatin1 g_S [.ref 1002] (J s) (QE g_S J z0 s0) := by
  refine Ct_of [some (.ref 1002)] (plainFor_of_name (by decide)) rfl (Nat.le_of_ble_eq_true rfl) rfl (by decide) q_rE ?_
  unfold String_isLatin1_c at h
  refine G_compact (g_da dt_String_isLatin1 0 rfl) fw_13_38 ?_
  refine G_if_eq (g_da dt_String_isLatin1 1 rfl) rfl w_1  (fun hc => absurd hc (by decide)) (fun _ => ?_)
  refine G_aload_n (g_da dt_String_isLatin1 2 rfl) rfl rfl ?_
  refine G_getSC (i := 2) (g_da dt_String_isLatin1 3 rfl) (by decide) fw_13_15 ?_
  refine G_if_ne (g_da dt_String_isLatin1 4 rfl) rfl w_0  (fun hc => absurd rfl hc) (fun _ => ?_)
  refine G_iconst (g_da dt_String_isLatin1 5 rfl) ?_
  refine G_goto (g_da dt_String_isLatin1 6 rfl) rfl ?_
  exact G_ireturn (g_da dt_String_isLatin1 8 rfl) rfl (g_bool (Or.inr w_1)).1 rfl (g_nz rfl) (q_e h)
set_option maxHeartbeats 4000000 in
set_option maxRecDepth 100000 in
theorem String_coder_c_ok {J : gS → gS} {z0 : Int} {s0 : gS} {s : gS} (h : String_coder_c s = some (z0, s0)) : Ct M_String_coder g_S [.ref 1002] (J s) (QE g_S J z0 s0) := by
  refine Ct_of [some (.ref 1002)] (plainFor_of_name (by decide)) rfl (Nat.le_of_ble_eq_true rfl) rfl (by decide) q_rE ?_
  unfold String_coder_c at h
  refine G_compact (g_da dt_String_coder 0 rfl) fw_13_38 ?_
  refine G_if_eq (g_da dt_String_coder 1 rfl) rfl w_1  (fun hc => absurd hc (by decide)) (fun _ => ?_)
  refine G_aload_n (g_da dt_String_coder 2 rfl) rfl rfl ?_
  refine G_getSC (i := 2) (g_da dt_String_coder 3 rfl) (by decide) fw_13_15 ?_
  refine G_goto (g_da dt_String_coder 4 rfl) rfl ?_
  exact G_ireturn (g_da dt_String_coder 6 rfl) rfl (by decide) rfl (g_nz rfl) (q_e h)
set_option maxHeartbeats 4000000 in
set_option maxRecDepth 100000 in
theorem String_length_c_ok {J : gS → gS} {z0 : Int} {s0 : gS} {s : gS} (h : String_length_c s = some (z0, s0)) : Ct M_String_length g_S [.ref 1002] (J s) (QE g_S J z0 s0) := by
  refine Ct_of [some (.ref 1002)] (plainFor_of_name (by decide)) rfl (Nat.le_of_ble_eq_true rfl) rfl (by decide) q_rE ?_
  unfold String_length_c at h
  refine G_aload_n (g_da dt_String_length 0 rfl) rfl rfl ?_
  refine G_getSV (i := 2) (g_da dt_String_length 1 rfl) (by decide) fw_13_9 ?_
  refine G_blen (i := 2) (z := 9) (g_da dt_String_length 2 rfl) (by decide) rfl ?_
  refine G_aload_n (g_da dt_String_length 3 rfl) rfl rfl ?_
  refine H_cKE (b := 2) (String_coder_c_ok (z0 := 0) (s0 := s) rfl) (g_da dt_String_length 4 rfl) lk_13_335 mv_String_coder rfl (by decide) rfl rfl rfl rfl rfl rfl ?_
  refine G_ishr (g_da dt_String_length 5 rfl) ?_
  exact G_ireturn (g_da dt_String_length 6 rfl) rfl rfl rfl (g_nz rfl) (q_e h)
set_option maxHeartbeats 4000000 in
set_option maxRecDepth 100000 in
theorem StringLatin1_indexOfChar_c_7_ok {J : gS → gS} {z0 : Int} {s0 : gS} {k7 : Int → Int → Int → gS → gA} (hk7 : ∀ (l3 l4 l5 : Int) (s : gS), k7 l3 l4 l5 s = some (z0, s0) → G M_StringLatin1_indexOfChar (QE g_S J z0 s0) (g_S, 0, 0) (J s) 7 [some (.ref 2002), none, none, some (gi l3), some (gi l4), some (gi l5)] [])  {l3 l4 l5 : Int} {s : gS} (h : StringLatin1_indexOfChar_c_7 k7 l3 l4 l5 s = some (z0, s0)) : G M_StringLatin1_indexOfChar (QE g_S J z0 s0) (g_S, 0, 0) (J s) 7 [some (.ref 2002), none, none, some (gi l3), some (gi l4), some (gi l5)] [] := by
  unfold StringLatin1_indexOfChar_c_7 at h
  refine G_iload (g_da dt_StringLatin1_indexOfChar 5 rfl) rfl ?_
  refine G_iload_n (g_da dt_StringLatin1_indexOfChar 6 rfl) rfl rfl ?_
  refine G_icmp_ge (g_da dt_StringLatin1_indexOfChar 7 rfl) rfl rfl rfl (fun hc3 => ?_) (fun hc3 => ?_)
  · have h := o_t hc3 h
    refine G_iconst (g_da dt_StringLatin1_indexOfChar 17 rfl) ?_
    exact G_ireturn (g_da dt_StringLatin1_indexOfChar 18 rfl) rfl rfl rfl (g_nz rfl) (q_e h)
  · have h := o_f hc3 h
    refine G_aload_n (g_da dt_StringLatin1_indexOfChar 8 rfl) rfl rfl ?_
    refine G_iload (g_da dt_StringLatin1_indexOfChar 9 rfl) rfl ?_
    obtain ⟨hb4, h⟩ := o_g h
    refine G_bald (i := 2) (g_da dt_StringLatin1_indexOfChar 10 rfl) (by decide) rfl hb4 ?_
    refine G_iload (g_da dt_StringLatin1_indexOfChar 11 rfl) rfl ?_
    refine G_icmp_ne (g_da dt_StringLatin1_indexOfChar 12 rfl) rfl rfl rfl (fun hc5 => ?_) (fun hc5 => ?_)
    · have h := o_f hc5 h
      refine G_iinc (lv' := [_, none, none, _, _, _]) (g_da dt_StringLatin1_indexOfChar 15 rfl) rfl (Nat.le_of_ble_eq_true rfl) rfl rfl ?_
      refine G_goto (g_da dt_StringLatin1_indexOfChar 16 rfl) rfl ?_
      exact G_subK (hk7 _ _ _ _ h) ⟨rfl, ⟨rfl, ⟨rfl, ⟨rfl, trivial⟩⟩⟩⟩
    · have h := o_t hc5 h
      refine G_iload (g_da dt_StringLatin1_indexOfChar 13 rfl) rfl ?_
      exact G_ireturn (g_da dt_StringLatin1_indexOfChar 14 rfl) rfl rfl rfl (g_nz rfl) (q_e h)
set_option maxHeartbeats 4000000 in
set_option maxRecDepth 100000 in
theorem StringLatin1_indexOfChar_c_7L_ok {J : gS → gS} {z0 : Int} {s0 : gS} : ∀ (n : Nat) {l3 l4 l5 : Int} {s : gS}, StringLatin1_indexOfChar_c_7L n l3 l4 l5 s = some (z0, s0) → G M_StringLatin1_indexOfChar (QE g_S J z0 s0) (g_S, 0, 0) (J s) 7 [some (.ref 2002), none, none, some (gi l3), some (gi l4), some (gi l5)] [] := by
  intro n
  induction n with
  | zero => intro _ _ _ _ h; cases h
  | succ n ih => intro _ _ _ _ h; exact StringLatin1_indexOfChar_c_7_ok (fun _ _ _ _ h => ih h) h
set_option maxHeartbeats 4000000 in
set_option maxRecDepth 100000 in
theorem StringLatin1_indexOfChar_c_ok {J : gS → gS} {z0 : Int} {s0 : gS} {a1 a2 a3 : Int} {s : gS} (h : StringLatin1_indexOfChar_c a1 a2 a3 s = some (z0, s0)) : Ct M_StringLatin1_indexOfChar g_S [.ref 2002, gi a1, gi a2, gi a3] (J s) (QE g_S J z0 s0) := by
  refine Ct_of [some (.ref 2002), some (gi a1), some (gi a2), some (gi a3), none, none] (plainFor_of_name (by decide)) rfl (Nat.le_of_ble_eq_true rfl) rfl (by decide) q_rE ?_
  unfold StringLatin1_indexOfChar_c at h
  refine G_iload_n (g_da dt_StringLatin1_indexOfChar 0 rfl) rfl rfl ?_
  refine G_i2b (g_da dt_StringLatin1_indexOfChar 1 rfl) ?_
  refine H_topi (fun v1 e2 => ?_)
  have h := o_l h v1 e2
  refine G_istore (lv' := [_, _, _, _, _, none]) (g_da dt_StringLatin1_indexOfChar 2 rfl) (Nat.le_of_ble_eq_true rfl) rfl rfl ?_
  refine G_iload_n (g_da dt_StringLatin1_indexOfChar 3 rfl) rfl rfl ?_
  refine G_istore (lv' := [_, _, _, _, _, _]) (g_da dt_StringLatin1_indexOfChar 4 rfl) (Nat.le_of_ble_eq_true rfl) rfl rfl ?_
  exact G_subK (StringLatin1_indexOfChar_c_7L_ok gFu h) ⟨rfl, ⟨rfl, ⟨rfl, ⟨rfl, trivial⟩⟩⟩⟩
set_option maxHeartbeats 4000000 in
set_option maxRecDepth 100000 in
theorem StringLatin1_indexOf_c_ok {J : gS → gS} {z0 : Int} {s0 : gS} {a1 a2 a3 : Int} {s : gS} (h : StringLatin1_indexOf_c a1 a2 a3 s = some (z0, s0)) : Ct M_StringLatin1_indexOf g_S [.ref 2002, gi a1, gi a2, gi a3] (J s) (QE g_S J z0 s0) := by
  refine Ct_of [some (.ref 2002), some (gi a1), some (gi a2), some (gi a3)] (plainFor_of_name (by decide)) rfl (Nat.le_of_ble_eq_true rfl) rfl (by decide) q_rE ?_
  unfold StringLatin1_indexOf_c at h
  refine G_iload_n (g_da dt_StringLatin1_indexOf 0 rfl) rfl rfl ?_
  obtain ⟨r1, s2, hc3, h⟩ := o_b h
  refine H_cSE (StringLatin1_canEncode_ok hc3) (g_da dt_StringLatin1_indexOf 1 rfl) lk_14_88 ms_StringLatin1_canEncode rfl rfl rfl rfl rfl rfl ?_
  refine G_if_ne (g_da dt_StringLatin1_indexOf 2 rfl) rfl rfl  (fun hc4 => ?_) (fun hc4 => ?_)
  · have h := o_f hc4 h
    refine G_iload_n (g_da dt_StringLatin1_indexOf 5 rfl) rfl rfl ?_
    refine G_iconst (g_da dt_StringLatin1_indexOf 6 rfl) ?_
    obtain ⟨r5, s6, hc7, h⟩ := o_b h
    refine H_cSE (Math_max_ok hc7) (g_da dt_StringLatin1_indexOf 7 rfl) lk_14_92 ms_Math_max rfl rfl rfl rfl rfl rfl ?_
    refine G_istore_n (lv' := [_, _, _, _]) (g_da dt_StringLatin1_indexOf 8 rfl) rfl (Nat.le_of_ble_eq_true rfl) rfl rfl ?_
    refine G_iload_n (g_da dt_StringLatin1_indexOf 9 rfl) rfl rfl ?_
    refine G_aload_n (g_da dt_StringLatin1_indexOf 10 rfl) rfl rfl ?_
    refine G_blen (i := 2) (z := 9) (g_da dt_StringLatin1_indexOf 11 rfl) (by decide) rfl ?_
    obtain ⟨r8, s9, hc10, h⟩ := o_b h
    refine H_cSE (Math_min1_ok hc10) (g_da dt_StringLatin1_indexOf 12 rfl) lk_14_38 ms_Math_min1 rfl rfl rfl rfl rfl rfl ?_
    refine G_istore_n (lv' := [_, _, _, _]) (g_da dt_StringLatin1_indexOf 13 rfl) rfl (Nat.le_of_ble_eq_true rfl) rfl rfl ?_
    refine G_iload_n (g_da dt_StringLatin1_indexOf 14 rfl) rfl rfl ?_
    refine G_iload_n (g_da dt_StringLatin1_indexOf 15 rfl) rfl rfl ?_
    refine G_icmp_lt (g_da dt_StringLatin1_indexOf 16 rfl) rfl rfl rfl (fun hc11 => ?_) (fun hc11 => ?_)
    · have h := o_t hc11 h
      refine G_aload_n (g_da dt_StringLatin1_indexOf 19 rfl) rfl rfl ?_
      refine G_iload_n (g_da dt_StringLatin1_indexOf 20 rfl) rfl rfl ?_
      refine G_iload_n (g_da dt_StringLatin1_indexOf 21 rfl) rfl rfl ?_
      refine G_iload_n (g_da dt_StringLatin1_indexOf 22 rfl) rfl rfl ?_
      obtain ⟨r12, s13, hc14, h⟩ := o_b h
      refine H_cSE (StringLatin1_indexOfChar_c_ok hc14) (g_da dt_StringLatin1_indexOf 23 rfl) lk_14_95 ms_StringLatin1_indexOfChar rfl rfl rfl rfl rfl rfl ?_
      exact G_ireturn (g_da dt_StringLatin1_indexOf 24 rfl) rfl rfl rfl (g_nz rfl) (q_e h)
    · have h := o_f hc11 h
      refine G_iconst (g_da dt_StringLatin1_indexOf 17 rfl) ?_
      exact G_ireturn (g_da dt_StringLatin1_indexOf 18 rfl) rfl rfl rfl (g_nz rfl) (q_e h)
  · have h := o_t hc4 h
    refine G_iconst (g_da dt_StringLatin1_indexOf 3 rfl) ?_
    exact G_ireturn (g_da dt_StringLatin1_indexOf 4 rfl) rfl rfl rfl (g_nz rfl) (q_e h)
set_option maxHeartbeats 4000000 in
set_option maxRecDepth 100000 in
theorem String_indexOf1_c_ok {J : gS → gS} {z0 : Int} {s0 : gS} {a1 a2 : Int} {s : gS} (h : String_indexOf1_c a1 a2 s = some (z0, s0)) : Ct M_String_indexOf1 g_S [.ref 1002, gi a1, gi a2] (J s) (QE g_S J z0 s0) := by
  refine Ct_of [some (.ref 1002), some (gi a1), some (gi a2)] (plainFor_of_name (by decide)) rfl (Nat.le_of_ble_eq_true rfl) rfl (by decide) q_rE ?_
  unfold String_indexOf1_c at h
  refine G_aload_n (g_da dt_String_indexOf1 0 rfl) rfl rfl ?_
  refine H_cKE (b := 2) (String_isLatin1_c_ok (z0 := 1) (s0 := s) rfl) (g_da dt_String_indexOf1 1 rfl) lk_13_492 mv_String_isLatin1 rfl (by decide) rfl rfl rfl rfl rfl rfl ?_
  refine G_if_eq (g_da dt_String_indexOf1 2 rfl) rfl w_1  (fun hc => absurd hc (by decide)) (fun _ => ?_)
  refine G_aload_n (g_da dt_String_indexOf1 3 rfl) rfl rfl ?_
  refine G_getSV (i := 2) (g_da dt_String_indexOf1 4 rfl) (by decide) fw_13_9 ?_
  refine G_iload_n (g_da dt_String_indexOf1 5 rfl) rfl rfl ?_
  refine G_iload_n (g_da dt_String_indexOf1 6 rfl) rfl rfl ?_
  refine G_aload_n (g_da dt_String_indexOf1 7 rfl) rfl rfl ?_
  obtain ⟨r1, s2, hc3, h⟩ := o_b h
  refine H_cKE (b := 2) (String_length_c_ok hc3) (g_da dt_String_indexOf1 8 rfl) lk_13_505 mv_String_length rfl (by decide) rfl rfl rfl rfl rfl rfl ?_
  obtain ⟨r4, s5, hc6, h⟩ := o_b h
  refine H_cSE (StringLatin1_indexOf_c_ok hc6) (g_da dt_String_indexOf1 9 rfl) lk_13_637 ms_StringLatin1_indexOf rfl rfl rfl rfl rfl rfl ?_
  refine G_goto (g_da dt_String_indexOf1 10 rfl) rfl ?_
  exact G_ireturn (g_da dt_String_indexOf1 18 rfl) rfl rfl rfl (g_nz rfl) (q_e h)
set_option maxHeartbeats 4000000 in
set_option maxRecDepth 100000 in
theorem String_indexOf_c_ok {J : gS → gS} {z0 : Int} {s0 : gS} {a1 : Int} {s : gS} (h : String_indexOf_c a1 s = some (z0, s0)) : Ct M_String_indexOf g_S [.ref 1002, gi a1] (J s) (QE g_S J z0 s0) := by
  refine Ct_of [some (.ref 1002), some (gi a1)] (plainFor_of_name (by decide)) rfl (Nat.le_of_ble_eq_true rfl) rfl (by decide) q_rE ?_
  unfold String_indexOf_c at h
  refine G_aload_n (g_da dt_String_indexOf 0 rfl) rfl rfl ?_
  refine G_iload_n (g_da dt_String_indexOf 1 rfl) rfl rfl ?_
  refine G_iconst (g_da dt_String_indexOf 2 rfl) ?_
  obtain ⟨r1, s2, hc3, h⟩ := o_b h
  refine H_cKE (b := 2) (String_indexOf1_c_ok hc3) (g_da dt_String_indexOf 3 rfl) lk_13_633 mv_String_indexOf1 rfl (by decide) rfl rfl rfl rfl rfl rfl ?_
  exact G_ireturn (g_da dt_String_indexOf 4 rfl) rfl rfl rfl (g_nz rfl) (q_e h)
set_option maxHeartbeats 4000000 in
set_option maxRecDepth 100000 in
theorem B_isOneOf_c_ok {J : gS → gS} {z0 : Int} {s0 : gS} {a1 : Int} {s : gS} (h : B_isOneOf_c a1 s = some (z0, s0)) : Ct M_B_isOneOf g_S [.ref 1002, gi a1] (J s) (QE g_S J z0 s0) := by
  refine Ct_of [some (.ref 1002), some (gi a1)] (plainFor_of_name (by decide)) rfl (Nat.le_of_ble_eq_true rfl) rfl (by decide) q_rE ?_
  unfold B_isOneOf_c at h
  refine G_aload_n (g_da dt_B_isOneOf 0 rfl) rfl rfl ?_
  refine G_iload_n (g_da dt_B_isOneOf 1 rfl) rfl rfl ?_
  refine G_i2c (g_da dt_B_isOneOf 2 rfl) ?_
  obtain ⟨r1, s2, hc3, h⟩ := o_b h
  refine H_cKE (b := 2) (String_indexOf_c_ok hc3) (g_da dt_B_isOneOf 3 rfl) lk_0_219 mv_String_indexOf rfl (by decide) rfl rfl rfl rfl rfl rfl ?_
  refine G_if_lt (g_da dt_B_isOneOf 4 rfl) rfl rfl  (fun hc4 => ?_) (fun hc4 => ?_)
  · have h := o_t hc4 h
    refine G_iconst (g_da dt_B_isOneOf 7 rfl) ?_
    exact G_ireturn (g_da dt_B_isOneOf 8 rfl) rfl (g_bool (Or.inl w_0)).1 rfl (g_nz rfl) (q_e h)
  · have h := o_f hc4 h
    refine G_iconst (g_da dt_B_isOneOf 5 rfl) ?_
    refine G_goto (g_da dt_B_isOneOf 6 rfl) rfl ?_
    exact G_ireturn (g_da dt_B_isOneOf 8 rfl) rfl (g_bool (Or.inr w_1)).1 rfl (g_nz rfl) (q_e h)
set_option maxHeartbeats 4000000 in
set_option maxRecDepth 100000 in
theorem Settings_cutClip_2_ok {J : gS → gS} (hJc : g_jc J) {z0 : Int} {s0 : gS} {k2 : Int → gS → gA} (hk2 : ∀ (l2 : Int) (s : gS), k2 l2 s = some (z0, s0) → G M_Settings_cutClip (QG g_S J z0 s0) (g_S, 0, 0) (J s) 2 [some (.ref 21), some (.ref 16), some (gi l2)] [])  {l2 : Int} {s : gS} (h : Settings_cutClip_2 k2 l2 s = some (z0, s0)) : G M_Settings_cutClip (QG g_S J z0 s0) (g_S, 0, 0) (J s) 2 [some (.ref 21), some (.ref 16), some (gi l2)] [] := by
  unfold Settings_cutClip_2 at h
  refine G_iload_n (g_da dt_Settings_cutClip 2 rfl) rfl rfl ?_
  refine G_bipush (g_da dt_Settings_cutClip 3 rfl) b8w_48 ?_
  refine G_icmp_ge (g_da dt_Settings_cutClip 4 rfl) rfl rfl w_48 (fun hc1 => ?_) (fun hc1 => ?_)
  · have h := o_t hc1 h
    exact G_return (g_da dt_Settings_cutClip 22 rfl) rfl rfl (g_nz rfl) (q_g h)
  · have h := o_f hc1 h
    refine G_aload_n (g_da dt_Settings_cutClip 5 rfl) rfl rfl ?_
    refine G_getR (g_da dt_Settings_cutClip 6 rfl) sh_21 fl_3_27 rfl ?_
    refine G_aload_n (g_da dt_Settings_cutClip 7 rfl) rfl rfl ?_
    refine H_getI (g_da dt_Settings_cutClip 8 rfl) sh_21 fl_3_39 rfl (hJc 21 rfl) ?_
    refine G_bipush (g_da dt_Settings_cutClip 9 rfl) b8w_48 ?_
    refine G_imul (g_da dt_Settings_cutClip 10 rfl) ?_
    refine G_iload_n (g_da dt_Settings_cutClip 11 rfl) rfl rfl ?_
    refine G_iadd (g_da dt_Settings_cutClip 12 rfl) ?_
    refine G_dup2_11 (g_da dt_Settings_cutClip 13 rfl) rfl rfl ?_
    obtain ⟨hb2, h⟩ := o_g h
    refine H_laload (g_da dt_Settings_cutClip 14 rfl) sh_27 (hJc 27 rfl) rfl hb2 rfl ?_
    refine G_aload_n (g_da dt_Settings_cutClip 15 rfl) rfl rfl ?_
    refine G_iload_n (g_da dt_Settings_cutClip 16 rfl) rfl rfl ?_
    obtain ⟨hb3, h⟩ := o_g h
    refine H_laload (g_da dt_Settings_cutClip 17 rfl) sh_16 (hJc 16 rfl) rfl hb3 rfl ?_
    refine G_land (g_da dt_Settings_cutClip 18 rfl) ?_
    obtain ⟨hb4, h⟩ := o_g h
    refine H_lastore (g_da dt_Settings_cutClip 19 rfl) sh_27 (hJc 27 rfl) rfl hb4 rfl (fun s5 e6 => ?_)
    have h := o_l h s5 e6
    refine G_iinc (lv' := [_, _, _]) (g_da dt_Settings_cutClip 20 rfl) rfl (Nat.le_of_ble_eq_true rfl) rfl rfl ?_
    refine G_goto (g_da dt_Settings_cutClip 21 rfl) rfl ?_
    exact G_subK (hk2 _ _ h) ⟨rfl, ⟨rfl, ⟨rfl, trivial⟩⟩⟩
set_option maxHeartbeats 4000000 in
set_option maxRecDepth 100000 in
theorem Settings_cutClip_2L_ok {J : gS → gS} (hJc : g_jc J) {z0 : Int} {s0 : gS} : ∀ (n : Nat) {l2 : Int} {s : gS}, Settings_cutClip_2L n l2 s = some (z0, s0) → G M_Settings_cutClip (QG g_S J z0 s0) (g_S, 0, 0) (J s) 2 [some (.ref 21), some (.ref 16), some (gi l2)] [] := by
  intro n
  induction n with
  | zero => intro _ _ h; cases h
  | succ n ih => intro _ _ h; exact Settings_cutClip_2_ok hJc (fun _ _ h => ih h) h
set_option maxHeartbeats 4000000 in
set_option maxRecDepth 100000 in
theorem Settings_cutClip_ok {J : gS → gS} (hJc : g_jc J) {z0 : Int} {s0 : gS} {s : gS} (h : Settings_cutClip s = some (z0, s0)) : Ct M_Settings_cutClip g_S [.ref 21, .ref 16] (J s) (QG g_S J z0 s0) := by
  refine Ct_of [some (.ref 21), some (.ref 16), none] (plainFor_of_name (by decide)) rfl (Nat.le_of_ble_eq_true rfl) rfl (by decide) q_rG ?_
  unfold Settings_cutClip at h
  refine G_iconst (g_da dt_Settings_cutClip 0 rfl) ?_
  refine G_istore_n (lv' := [_, _, _]) (g_da dt_Settings_cutClip 1 rfl) rfl (Nat.le_of_ble_eq_true rfl) rfl rfl ?_
  exact G_subK (Settings_cutClip_2L_ok hJc gFu h) ⟨rfl, ⟨rfl, ⟨rfl, trivial⟩⟩⟩
set_option maxHeartbeats 4000000 in
set_option maxRecDepth 100000 in
theorem Settings_save_ok {J : gS → gS} (hJc : g_jc J) {z0 : Int} {s0 : gS} {s : gS} (h : Settings_save s = some (z0, s0)) : Ct M_Settings_save g_S [.ref 21] (J s) (QG g_S J z0 s0) := by
  refine Ct_of [some (.ref 21), none] (plainFor_of_name (by decide)) rfl (Nat.le_of_ble_eq_true rfl) rfl (by decide) q_rG ?_
  unfold Settings_save at h
  refine G_aload_n (g_da dt_Settings_save 0 rfl) rfl rfl ?_
  refine H_getI (g_da dt_Settings_save 1 rfl) sh_21 fl_3_39 rfl (hJc 21 rfl) ?_
  refine G_iconst (g_da dt_Settings_save 2 rfl) ?_
  refine G_icmp_ge (g_da dt_Settings_save 3 rfl) rfl rfl w_4 (fun hc1 => ?_) (fun hc1 => ?_)
  · have h := o_t hc1 h
    exact G_return (g_da dt_Settings_save 70 rfl) rfl rfl (g_nz rfl) (q_g h)
  · have h := o_f hc1 h
    refine G_aload_n (g_da dt_Settings_save 4 rfl) rfl rfl ?_
    refine H_getI (g_da dt_Settings_save 5 rfl) sh_21 fl_3_39 rfl (hJc 21 rfl) ?_
    refine G_iconst (g_da dt_Settings_save 6 rfl) ?_
    refine G_iadd (g_da dt_Settings_save 7 rfl) ?_
    refine H_topi (fun v2 e3 => ?_)
    have h := o_l h v2 e3
    refine G_istore_n (lv' := [_, _]) (g_da dt_Settings_save 8 rfl) rfl (Nat.le_of_ble_eq_true rfl) rfl rfl ?_
    refine G_aload_n (g_da dt_Settings_save 9 rfl) rfl rfl ?_
    refine G_getR (g_da dt_Settings_save 10 rfl) sh_21 fl_3_9 rfl ?_
    refine G_iload_n (g_da dt_Settings_save 11 rfl) rfl rfl ?_
    refine G_aload_n (g_da dt_Settings_save 12 rfl) rfl rfl ?_
    refine G_getR (g_da dt_Settings_save 13 rfl) sh_21 fl_3_9 rfl ?_
    refine G_aload_n (g_da dt_Settings_save 14 rfl) rfl rfl ?_
    refine H_getI (g_da dt_Settings_save 15 rfl) sh_21 fl_3_39 rfl (hJc 21 rfl) ?_
    obtain ⟨hb4, h⟩ := o_g h
    refine H_iaload (g_da dt_Settings_save 16 rfl) sh_22 (hJc 22 rfl) rfl hb4 rfl ?_
    obtain ⟨hb5, h⟩ := o_g h
    refine H_iastore (g_da dt_Settings_save 17 rfl) sh_22 (hJc 22 rfl) rfl hb5 rfl (fun s6 e7 => ?_)
    have h := o_l h s6 e7
    refine G_aload_n (g_da dt_Settings_save 18 rfl) rfl rfl ?_
    refine G_getR (g_da dt_Settings_save 19 rfl) sh_21 fl_3_15 rfl ?_
    refine G_iload_n (g_da dt_Settings_save 20 rfl) rfl rfl ?_
    refine G_aload_n (g_da dt_Settings_save 21 rfl) rfl rfl ?_
    refine G_getR (g_da dt_Settings_save 22 rfl) sh_21 fl_3_15 rfl ?_
    refine G_aload_n (g_da dt_Settings_save 23 rfl) rfl rfl ?_
    refine H_getI (g_da dt_Settings_save 24 rfl) sh_21 fl_3_39 rfl (hJc 21 rfl) ?_
    obtain ⟨hb8, h⟩ := o_g h
    refine H_iaload (g_da dt_Settings_save 25 rfl) sh_23 (hJc 23 rfl) rfl hb8 rfl ?_
    obtain ⟨hb9, h⟩ := o_g h
    refine H_iastore (g_da dt_Settings_save 26 rfl) sh_23 (hJc 23 rfl) rfl hb9 rfl (fun s10 e11 => ?_)
    have h := o_l h s10 e11
    refine G_aload_n (g_da dt_Settings_save 27 rfl) rfl rfl ?_
    refine G_getR (g_da dt_Settings_save 28 rfl) sh_21 fl_3_18 rfl ?_
    refine G_iload_n (g_da dt_Settings_save 29 rfl) rfl rfl ?_
    refine G_aload_n (g_da dt_Settings_save 30 rfl) rfl rfl ?_
    refine G_getR (g_da dt_Settings_save 31 rfl) sh_21 fl_3_18 rfl ?_
    refine G_aload_n (g_da dt_Settings_save 32 rfl) rfl rfl ?_
    refine H_getI (g_da dt_Settings_save 33 rfl) sh_21 fl_3_39 rfl (hJc 21 rfl) ?_
    obtain ⟨hb12, h⟩ := o_g h
    refine H_iaload (g_da dt_Settings_save 34 rfl) sh_24 (hJc 24 rfl) rfl hb12 rfl ?_
    obtain ⟨hb13, h⟩ := o_g h
    refine H_iastore (g_da dt_Settings_save 35 rfl) sh_24 (hJc 24 rfl) rfl hb13 rfl (fun s14 e15 => ?_)
    have h := o_l h s14 e15
    refine G_aload_n (g_da dt_Settings_save 36 rfl) rfl rfl ?_
    refine G_getR (g_da dt_Settings_save 37 rfl) sh_21 fl_3_21 rfl ?_
    refine G_iload_n (g_da dt_Settings_save 38 rfl) rfl rfl ?_
    refine G_aload_n (g_da dt_Settings_save 39 rfl) rfl rfl ?_
    refine G_getR (g_da dt_Settings_save 40 rfl) sh_21 fl_3_21 rfl ?_
    refine G_aload_n (g_da dt_Settings_save 41 rfl) rfl rfl ?_
    refine H_getI (g_da dt_Settings_save 42 rfl) sh_21 fl_3_39 rfl (hJc 21 rfl) ?_
    obtain ⟨hb16, h⟩ := o_g h
    refine H_iaload (g_da dt_Settings_save 43 rfl) sh_25 (hJc 25 rfl) rfl hb16 rfl ?_
    obtain ⟨hb17, h⟩ := o_g h
    refine H_iastore (g_da dt_Settings_save 44 rfl) sh_25 (hJc 25 rfl) rfl hb17 rfl (fun s18 e19 => ?_)
    have h := o_l h s18 e19
    refine G_aload_n (g_da dt_Settings_save 45 rfl) rfl rfl ?_
    refine G_getR (g_da dt_Settings_save 46 rfl) sh_21 fl_3_24 rfl ?_
    refine G_iload_n (g_da dt_Settings_save 47 rfl) rfl rfl ?_
    refine G_aload_n (g_da dt_Settings_save 48 rfl) rfl rfl ?_
    refine G_getR (g_da dt_Settings_save 49 rfl) sh_21 fl_3_24 rfl ?_
    refine G_aload_n (g_da dt_Settings_save 50 rfl) rfl rfl ?_
    refine H_getI (g_da dt_Settings_save 51 rfl) sh_21 fl_3_39 rfl (hJc 21 rfl) ?_
    obtain ⟨hb20, h⟩ := o_g h
    refine H_iaload (g_da dt_Settings_save 52 rfl) sh_26 (hJc 26 rfl) rfl hb20 rfl ?_
    obtain ⟨hb21, h⟩ := o_g h
    refine H_iastore (g_da dt_Settings_save 53 rfl) sh_26 (hJc 26 rfl) rfl hb21 rfl (fun s22 e23 => ?_)
    have h := o_l h s22 e23
    refine G_aload_n (g_da dt_Settings_save 54 rfl) rfl rfl ?_
    refine G_getR (g_da dt_Settings_save 55 rfl) sh_21 fl_3_27 rfl ?_
    refine G_aload_n (g_da dt_Settings_save 56 rfl) rfl rfl ?_
    refine H_getI (g_da dt_Settings_save 57 rfl) sh_21 fl_3_39 rfl (hJc 21 rfl) ?_
    refine G_bipush (g_da dt_Settings_save 58 rfl) b8w_48 ?_
    refine G_imul (g_da dt_Settings_save 59 rfl) ?_
    refine G_aload_n (g_da dt_Settings_save 60 rfl) rfl rfl ?_
    refine G_getR (g_da dt_Settings_save 61 rfl) sh_21 fl_3_27 rfl ?_
    refine G_iload_n (g_da dt_Settings_save 62 rfl) rfl rfl ?_
    refine G_bipush (g_da dt_Settings_save 63 rfl) b8w_48 ?_
    refine G_imul (g_da dt_Settings_save 64 rfl) ?_
    refine G_bipush (g_da dt_Settings_save 65 rfl) b8w_48 ?_
    obtain ⟨hb24, h⟩ := o_g h
    refine H_copyL (g_da dt_Settings_save 66 rfl) ac_3_43 sh_27 sh_27 rfl (hJc 27 rfl) (hJc 27 rfl) rfl rfl w_48 rfl rfl rfl hb24 (fun s25 e26 => ?_)
    have h := o_l h s25 e26
    refine G_aload_n (g_da dt_Settings_save 67 rfl) rfl rfl ?_
    refine G_iload_n (g_da dt_Settings_save 68 rfl) rfl rfl ?_
    refine H_putI (g_da dt_Settings_save 69 rfl) sh_21 fp_3_39 rfl (hJc 21 rfl) (fun s27 e28 => ?_)
    have h := o_l h s27 e28
    exact G_return (g_da dt_Settings_save 70 rfl) rfl rfl (g_nz rfl) (q_g h)
set_option maxHeartbeats 4000000 in
set_option maxRecDepth 100000 in
theorem Settings_move_ok {J : gS → gS} (hJc : g_jc J) {z0 : Int} {s0 : gS} {a1 a2 : Int} {s : gS} (h : Settings_move a1 a2 s = some (z0, s0)) : Ct M_Settings_move g_S [.ref 21, gi a1, gi a2] (J s) (QG g_S J z0 s0) := by
  refine Ct_of [some (.ref 21), some (gi a1), some (gi a2)] (plainFor_of_name (by decide)) rfl (Nat.le_of_ble_eq_true rfl) rfl (by decide) q_rG ?_
  unfold Settings_move at h
  refine G_aload_n (g_da dt_Settings_move 0 rfl) rfl rfl ?_
  refine G_getR (g_da dt_Settings_move 1 rfl) sh_21 fl_3_18 rfl ?_
  refine G_aload_n (g_da dt_Settings_move 2 rfl) rfl rfl ?_
  refine H_getI (g_da dt_Settings_move 3 rfl) sh_21 fl_3_39 rfl (hJc 21 rfl) ?_
  refine G_aload_n (g_da dt_Settings_move 4 rfl) rfl rfl ?_
  refine G_iload_n (g_da dt_Settings_move 5 rfl) rfl rfl ?_
  obtain ⟨r1, s2, hc3, h⟩ := o_b h
  refine H_cVF (Settings_placedX_ok hJc hc3) (g_da dt_Settings_move 6 rfl) lk_3_64 mv_Settings_placedX rfl sh_21 rfl rfl rfl rfl rfl rfl ?_
  refine G_l2i (g_da dt_Settings_move 7 rfl) ?_
  obtain ⟨hb4, h⟩ := o_g h
  refine H_iastore (g_da dt_Settings_move 8 rfl) sh_24 (hJc 24 rfl) rfl hb4 rfl (fun s5 e6 => ?_)
  have h := o_l h s5 e6
  refine G_aload_n (g_da dt_Settings_move 9 rfl) rfl rfl ?_
  refine G_getR (g_da dt_Settings_move 10 rfl) sh_21 fl_3_21 rfl ?_
  refine G_aload_n (g_da dt_Settings_move 11 rfl) rfl rfl ?_
  refine H_getI (g_da dt_Settings_move 12 rfl) sh_21 fl_3_39 rfl (hJc 21 rfl) ?_
  refine G_aload_n (g_da dt_Settings_move 13 rfl) rfl rfl ?_
  refine G_iload_n (g_da dt_Settings_move 14 rfl) rfl rfl ?_
  obtain ⟨r7, s8, hc9, h⟩ := o_b h
  refine H_cVF (Settings_placedY_ok hJc hc9) (g_da dt_Settings_move 15 rfl) lk_3_67 mv_Settings_placedY rfl sh_21 rfl rfl rfl rfl rfl rfl ?_
  refine G_l2i (g_da dt_Settings_move 16 rfl) ?_
  obtain ⟨hb10, h⟩ := o_g h
  refine H_iastore (g_da dt_Settings_move 17 rfl) sh_25 (hJc 25 rfl) rfl hb10 rfl (fun s11 e12 => ?_)
  have h := o_l h s11 e12
  exact G_return (g_da dt_Settings_move 18 rfl) rfl rfl (g_nz rfl) (q_g h)
set_option maxHeartbeats 4000000 in
set_option maxRecDepth 100000 in
theorem Settings_stretch_ok {J : gS → gS} (hJc : g_jc J) {z0 : Int} {s0 : gS} {a1 a2 : Int} {s : gS} (h : Settings_stretch a1 a2 s = some (z0, s0)) : Ct M_Settings_stretch g_S [.ref 21, gi a1, gi a2] (J s) (QG g_S J z0 s0) := by
  refine Ct_of [some (.ref 21), some (gi a1), some (gi a2)] (plainFor_of_name (by decide)) rfl (Nat.le_of_ble_eq_true rfl) rfl (by decide) q_rG ?_
  unfold Settings_stretch at h
  refine G_aload_n (g_da dt_Settings_stretch 0 rfl) rfl rfl ?_
  refine G_getR (g_da dt_Settings_stretch 1 rfl) sh_21 fl_3_9 rfl ?_
  refine G_aload_n (g_da dt_Settings_stretch 2 rfl) rfl rfl ?_
  refine H_getI (g_da dt_Settings_stretch 3 rfl) sh_21 fl_3_39 rfl (hJc 21 rfl) ?_
  refine G_aload_n (g_da dt_Settings_stretch 4 rfl) rfl rfl ?_
  refine G_iload_n (g_da dt_Settings_stretch 5 rfl) rfl rfl ?_
  obtain ⟨r1, s2, hc3, h⟩ := o_b h
  refine H_cVF (Settings_stretchedX_ok hJc hc3) (g_da dt_Settings_stretch 6 rfl) lk_3_57 mv_Settings_stretchedX rfl sh_21 rfl rfl rfl rfl rfl rfl ?_
  refine G_l2i (g_da dt_Settings_stretch 7 rfl) ?_
  obtain ⟨hb4, h⟩ := o_g h
  refine H_iastore (g_da dt_Settings_stretch 8 rfl) sh_22 (hJc 22 rfl) rfl hb4 rfl (fun s5 e6 => ?_)
  have h := o_l h s5 e6
  refine G_aload_n (g_da dt_Settings_stretch 9 rfl) rfl rfl ?_
  refine G_getR (g_da dt_Settings_stretch 10 rfl) sh_21 fl_3_15 rfl ?_
  refine G_aload_n (g_da dt_Settings_stretch 11 rfl) rfl rfl ?_
  refine H_getI (g_da dt_Settings_stretch 12 rfl) sh_21 fl_3_39 rfl (hJc 21 rfl) ?_
  refine G_aload_n (g_da dt_Settings_stretch 13 rfl) rfl rfl ?_
  refine G_iload_n (g_da dt_Settings_stretch 14 rfl) rfl rfl ?_
  obtain ⟨r7, s8, hc9, h⟩ := o_b h
  refine H_cVF (Settings_stretchedY_ok hJc hc9) (g_da dt_Settings_stretch 15 rfl) lk_3_61 mv_Settings_stretchedY rfl sh_21 rfl rfl rfl rfl rfl rfl ?_
  refine G_l2i (g_da dt_Settings_stretch 16 rfl) ?_
  obtain ⟨hb10, h⟩ := o_g h
  refine H_iastore (g_da dt_Settings_stretch 17 rfl) sh_23 (hJc 23 rfl) rfl hb10 rfl (fun s11 e12 => ?_)
  have h := o_l h s11 e12
  exact G_return (g_da dt_Settings_stretch 18 rfl) rfl rfl (g_nz rfl) (q_g h)
set_option maxHeartbeats 4000000 in
set_option maxRecDepth 100000 in
theorem Arrays_fill_6_ok {J : gS → gS} (hJc : g_jc J) {z0 : Int} {s0 : gS} {k6 : Int → Int → Int → gS → gA} (hk6 : ∀ (l1 l3 l4 : Int) (s : gS), k6 l1 l3 l4 s = some (z0, s0) → G M_Arrays_fill (QG g_S J z0 s0) (g_S, 0, 0) (J s) 6 [some (.ref 36), some (gl l1), none, some (gi l3), some (gi l4)] [])  {l1 l3 l4 : Int} {s : gS} (h : Arrays_fill_6 k6 l1 l3 l4 s = some (z0, s0)) : G M_Arrays_fill (QG g_S J z0 s0) (g_S, 0, 0) (J s) 6 [some (.ref 36), some (gl l1), none, some (gi l3), some (gi l4)] [] := by
  unfold Arrays_fill_6 at h
  refine G_iload_n (g_da dt_Arrays_fill 5 rfl) rfl rfl ?_
  refine G_iload (g_da dt_Arrays_fill 6 rfl) rfl ?_
  refine G_icmp_ge (g_da dt_Arrays_fill 7 rfl) rfl rfl rfl (fun hc1 => ?_) (fun hc1 => ?_)
  · have h := o_t hc1 h
    exact G_return (g_da dt_Arrays_fill 14 rfl) rfl rfl (g_nz rfl) (q_g h)
  · have h := o_f hc1 h
    refine G_aload_n (g_da dt_Arrays_fill 8 rfl) rfl rfl ?_
    refine G_iload_n (g_da dt_Arrays_fill 9 rfl) rfl rfl ?_
    refine G_lload_n (g_da dt_Arrays_fill 10 rfl) rfl rfl ?_
    obtain ⟨hb2, h⟩ := o_g h
    refine H_lastore (g_da dt_Arrays_fill 11 rfl) sh_36 (hJc 36 rfl) rfl hb2 rfl (fun s3 e4 => ?_)
    have h := o_l h s3 e4
    refine G_iinc (lv' := [_, _, none, _, _]) (g_da dt_Arrays_fill 12 rfl) rfl (Nat.le_of_ble_eq_true rfl) rfl rfl ?_
    refine G_goto (g_da dt_Arrays_fill 13 rfl) rfl ?_
    exact G_subK (hk6 _ _ _ _ h) ⟨rfl, ⟨rfl, ⟨rfl, ⟨rfl, trivial⟩⟩⟩⟩
set_option maxHeartbeats 4000000 in
set_option maxRecDepth 100000 in
theorem Arrays_fill_6L_ok {J : gS → gS} (hJc : g_jc J) {z0 : Int} {s0 : gS} : ∀ (n : Nat) {l1 l3 l4 : Int} {s : gS}, Arrays_fill_6L n l1 l3 l4 s = some (z0, s0) → G M_Arrays_fill (QG g_S J z0 s0) (g_S, 0, 0) (J s) 6 [some (.ref 36), some (gl l1), none, some (gi l3), some (gi l4)] [] := by
  intro n
  induction n with
  | zero => intro _ _ _ _ h; cases h
  | succ n ih => intro _ _ _ _ h; exact Arrays_fill_6_ok hJc (fun _ _ _ _ h => ih h) h
set_option maxHeartbeats 4000000 in
set_option maxRecDepth 100000 in
theorem Arrays_fill_ok {J : gS → gS} (hJc : g_jc J) {z0 : Int} {s0 : gS} {a1 : Int} {s : gS} (h : Arrays_fill a1 s = some (z0, s0)) : Ct M_Arrays_fill g_S [.ref 36, gl a1] (J s) (QG g_S J z0 s0) := by
  refine Ct_of [some (.ref 36), some (gl a1), none, none, none] (plainFor_of_name (by decide)) rfl (Nat.le_of_ble_eq_true rfl) rfl (by decide) q_rG ?_
  unfold Arrays_fill at h
  refine G_iconst (g_da dt_Arrays_fill 0 rfl) ?_
  refine G_istore_n (lv' := [_, _, none, _, none]) (g_da dt_Arrays_fill 1 rfl) rfl (Nat.le_of_ble_eq_true rfl) rfl rfl ?_
  refine G_aload_n (g_da dt_Arrays_fill 2 rfl) rfl rfl ?_
  refine G_alen (z := 48) (g_da dt_Arrays_fill 3 rfl) sh_36 (by decide) rfl ?_
  refine G_istore (lv' := [_, _, none, _, _]) (g_da dt_Arrays_fill 4 rfl) (Nat.le_of_ble_eq_true rfl) rfl rfl ?_
  exact G_subK (Arrays_fill_6L_ok hJc gFu h) ⟨rfl, ⟨rfl, ⟨rfl, ⟨rfl, trivial⟩⟩⟩⟩
set_option maxHeartbeats 4000000 in
set_option maxRecDepth 100000 in
theorem Pages_clean_ok {J : gS → gS} (hJc : g_jc J) {z0 : Int} {s0 : gS} {s : gS} (h : Pages_clean s = some (z0, s0)) : Ct M_Pages_clean g_S [.ref 34] (J s) (QG g_S J z0 s0) := by
  refine Ct_of [some (.ref 34)] (plainFor_of_name (by decide)) rfl (Nat.le_of_ble_eq_true rfl) rfl (by decide) q_rG ?_
  unfold Pages_clean at h
  refine G_aload_n (g_da dt_Pages_clean 0 rfl) rfl rfl ?_
  refine G_getR (g_da dt_Pages_clean 1 rfl) sh_34 fl_1_15 rfl ?_
  refine G_lconst (z := 0) (g_da dt_Pages_clean 2 rfl) rfl ?_
  obtain ⟨r1, s2, hc3, h⟩ := o_b h
  refine H_cSG (Arrays_fill_ok hJc hc3) (g_da dt_Pages_clean 3 rfl) lk_1_64 ms_Arrays_fill rfl rfl rfl rfl rfl rfl ?_
  refine G_aload_n (g_da dt_Pages_clean 4 rfl) rfl rfl ?_
  refine G_iconst (g_da dt_Pages_clean 5 rfl) ?_
  refine H_putI (g_da dt_Pages_clean 6 rfl) sh_34 fp_1_49 rfl (hJc 34 rfl) (fun s4 e5 => ?_)
  have h := o_l h s4 e5
  exact G_return (g_da dt_Pages_clean 7 rfl) rfl rfl (g_nz rfl) (q_g h)
set_option maxHeartbeats 4000000 in
set_option maxRecDepth 100000 in
theorem Pages_keep_ok {J : gS → gS} (hJc : g_jc J) {z0 : Int} {s0 : gS} {s : gS} (h : Pages_keep s = some (z0, s0)) : Ct M_Pages_keep g_S [.ref 34] (J s) (QG g_S J z0 s0) := by
  refine Ct_of [some (.ref 34)] (plainFor_of_name (by decide)) rfl (Nat.le_of_ble_eq_true rfl) rfl (by decide) q_rG ?_
  unfold Pages_keep at h
  refine G_aload_n (g_da dt_Pages_keep 0 rfl) rfl rfl ?_
  refine H_getI (g_da dt_Pages_keep 1 rfl) sh_34 fl_1_18 rfl (hJc 34 rfl) ?_
  refine G_bipush (g_da dt_Pages_keep 2 rfl) b8w_8 ?_
  refine G_icmp_ge (g_da dt_Pages_keep 3 rfl) rfl rfl w_8 (fun hc1 => ?_) (fun hc1 => ?_)
  · have h := o_t hc1 h
    exact G_return (g_da dt_Pages_keep 23 rfl) rfl rfl (g_nz rfl) (q_g h)
  · have h := o_f hc1 h
    refine G_aload_n (g_da dt_Pages_keep 4 rfl) rfl rfl ?_
    refine G_getR (g_da dt_Pages_keep 5 rfl) sh_34 fl_1_15 rfl ?_
    refine G_iconst (g_da dt_Pages_keep 6 rfl) ?_
    refine G_aload_n (g_da dt_Pages_keep 7 rfl) rfl rfl ?_
    refine G_getR (g_da dt_Pages_keep 8 rfl) sh_34 fl_1_9 rfl ?_
    refine G_aload_n (g_da dt_Pages_keep 9 rfl) rfl rfl ?_
    refine H_getI (g_da dt_Pages_keep 10 rfl) sh_34 fl_1_18 rfl (hJc 34 rfl) ?_
    refine G_bipush (g_da dt_Pages_keep 11 rfl) b8w_48 ?_
    refine G_imul (g_da dt_Pages_keep 12 rfl) ?_
    refine G_bipush (g_da dt_Pages_keep 13 rfl) b8w_48 ?_
    obtain ⟨hb2, h⟩ := o_g h
    refine H_copyL (g_da dt_Pages_keep 14 rfl) ac_1_29 sh_36 sh_35 rfl (hJc 36 rfl) (hJc 35 rfl) w_0 rfl w_48 rfl rfl rfl hb2 (fun s3 e4 => ?_)
    have h := o_l h s3 e4
    refine G_aload_n (g_da dt_Pages_keep 15 rfl) rfl rfl ?_
    refine G_dup (g_da dt_Pages_keep 16 rfl) rfl ?_
    refine H_getI (g_da dt_Pages_keep 17 rfl) sh_34 fl_1_18 rfl (hJc 34 rfl) ?_
    refine G_iconst (g_da dt_Pages_keep 18 rfl) ?_
    refine G_iadd (g_da dt_Pages_keep 19 rfl) ?_
    refine H_putI (g_da dt_Pages_keep 20 rfl) sh_34 fp_1_18 rfl (hJc 34 rfl) (fun s5 e6 => ?_)
    have h := o_l h s5 e6
    refine G_aload_n (g_da dt_Pages_keep 21 rfl) rfl rfl ?_
    obtain ⟨r7, s8, hc9, h⟩ := o_b h
    refine H_cVG (Pages_clean_ok hJc hc9) (g_da dt_Pages_keep 22 rfl) lk_1_22 mv_Pages_clean rfl sh_34 rfl rfl rfl rfl rfl rfl ?_
    exact G_return (g_da dt_Pages_keep 23 rfl) rfl rfl (g_nz rfl) (q_g h)
set_option maxHeartbeats 4000000 in
set_option maxRecDepth 100000 in
theorem Settings_setGrey_ok {J : gS → gS} (hJc : g_jc J) {z0 : Int} {s0 : gS} {a1 : Int} {s : gS} (h : Settings_setGrey a1 s = some (z0, s0)) : Ct M_Settings_setGrey g_S [.ref 21, gi a1] (J s) (QG g_S J z0 s0) := by
  refine Ct_of [some (.ref 21), some (gi a1)] (plainFor_of_name (by decide)) rfl (Nat.le_of_ble_eq_true rfl) rfl (by decide) q_rG ?_
  unfold Settings_setGrey at h
  refine G_aload_n (g_da dt_Settings_setGrey 0 rfl) rfl rfl ?_
  refine G_getR (g_da dt_Settings_setGrey 1 rfl) sh_21 fl_3_24 rfl ?_
  refine G_aload_n (g_da dt_Settings_setGrey 2 rfl) rfl rfl ?_
  refine H_getI (g_da dt_Settings_setGrey 3 rfl) sh_21 fl_3_39 rfl (hJc 21 rfl) ?_
  refine G_iload_n (g_da dt_Settings_setGrey 4 rfl) rfl rfl ?_
  obtain ⟨hb1, h⟩ := o_g h
  refine H_iastore (g_da dt_Settings_setGrey 5 rfl) sh_26 (hJc 26 rfl) rfl hb1 rfl (fun s2 e3 => ?_)
  have h := o_l h s2 e3
  exact G_return (g_da dt_Settings_setGrey 6 rfl) rfl rfl (g_nz rfl) (q_g h)
set_option maxHeartbeats 4000000 in
set_option maxRecDepth 100000 in
theorem Pages_dots_35_ok {J : gS → gS} {z0 : Int} {s0 : gS} {k5 : Int → Int → Int → Int → gS → gA} (hk5 : ∀ (l0 l1 l2 l4 : Int) (s : gS), k5 l0 l1 l2 l4 s = some (z0, s0) → G M_Pages_dots (QF g_S J z0 s0) (g_S, 0, 0) (J s) 5 [some (gi l0), some (gi l1), some (gl l2), none, some (gi l4)] [])  {l0 l1 l4 t0 t1 : Int} {s : gS} (h : Pages_dots_35 k5 l0 l1 l4 t0 t1 s = some (z0, s0)) : G M_Pages_dots (QF g_S J z0 s0) (g_S, 0, 0) (J s) 35 [some (gi l0), some (gi l1), none, none, some (gi l4)] [gl t1, gl t0] := by
  unfold Pages_dots_35 at h
  refine G_lor (g_da dt_Pages_dots 24 rfl) ?_
  refine H_topl (fun v5 e6 => ?_)
  have h := o_l h v5 e6
  refine G_lstore_n (lv' := [_, _, _, none, _]) (g_da dt_Pages_dots 25 rfl) rfl (Nat.le_of_ble_eq_true rfl) rfl rfl ?_
  refine G_iinc (lv' := [_, _, _, none, _]) (g_da dt_Pages_dots 26 rfl) rfl (Nat.le_of_ble_eq_true rfl) rfl rfl ?_
  refine G_goto (g_da dt_Pages_dots 27 rfl) rfl ?_
  exact G_subK (hk5 _ _ _ _ _ h) ⟨rfl, ⟨rfl, ⟨rfl, ⟨rfl, trivial⟩⟩⟩⟩
set_option maxHeartbeats 4000000 in
set_option maxRecDepth 100000 in
theorem Pages_dots_5_ok {J : gS → gS} {z0 : Int} {s0 : gS} {k5 : Int → Int → Int → Int → gS → gA} (hk5 : ∀ (l0 l1 l2 l4 : Int) (s : gS), k5 l0 l1 l2 l4 s = some (z0, s0) → G M_Pages_dots (QF g_S J z0 s0) (g_S, 0, 0) (J s) 5 [some (gi l0), some (gi l1), some (gl l2), none, some (gi l4)] [])  {l0 l1 l2 l4 : Int} {s : gS} (h : Pages_dots_5 k5 l0 l1 l2 l4 s = some (z0, s0)) : G M_Pages_dots (QF g_S J z0 s0) (g_S, 0, 0) (J s) 5 [some (gi l0), some (gi l1), some (gl l2), none, some (gi l4)] [] := by
  unfold Pages_dots_5 at h
  refine G_iload (g_da dt_Pages_dots 4 rfl) rfl ?_
  refine G_iconst (g_da dt_Pages_dots 5 rfl) ?_
  refine G_icmp_ge (g_da dt_Pages_dots 6 rfl) rfl rfl w_4 (fun hc1 => ?_) (fun hc1 => ?_)
  · have h := o_t hc1 h
    refine G_lload_n (g_da dt_Pages_dots 28 rfl) rfl rfl ?_
    refine G_ldc2 (z := 1229782938247303441) (g_da dt_Pages_dots 29 rfl) cn_1_74 rfl ?_
    refine G_lmul (g_da dt_Pages_dots 30 rfl) ?_
    exact G_lreturn (g_da dt_Pages_dots 31 rfl) rfl rfl (g_nz rfl) (q_f h)
  · have h := o_f hc1 h
    refine G_lload_n (g_da dt_Pages_dots 7 rfl) rfl rfl ?_
    refine G_iconst (g_da dt_Pages_dots 8 rfl) ?_
    refine G_lshl (g_da dt_Pages_dots 9 rfl) ?_
    refine G_cellS (g_da dt_Pages_dots 10 rfl) fw_1_70 ?_
    refine G_iload_n (g_da dt_Pages_dots 11 rfl) rfl rfl ?_
    refine G_iconst (g_da dt_Pages_dots 12 rfl) ?_
    refine G_irem (g_da dt_Pages_dots 13 rfl) (by rw [w_4]; decide) ?_
    refine G_iconst (g_da dt_Pages_dots 14 rfl) ?_
    refine G_imul (g_da dt_Pages_dots 15 rfl) ?_
    refine G_iload (g_da dt_Pages_dots 16 rfl) rfl ?_
    refine G_iadd (g_da dt_Pages_dots 17 rfl) ?_
    obtain ⟨hb3, h⟩ := o_g h
    refine G_cald (g_da dt_Pages_dots 18 rfl) rfl hb3 ?_
    refine G_iload_n (g_da dt_Pages_dots 19 rfl) rfl rfl ?_
    refine G_icmp_ge (g_da dt_Pages_dots 20 rfl) rfl rfl rfl (fun hc4 => ?_) (fun hc4 => ?_)
    · have h := o_t hc4 h
      refine G_lconst (z := 0) (g_da dt_Pages_dots 23 rfl) rfl ?_
      exact G_subK (Pages_dots_35_ok hk5 h) ⟨rfl, ⟨rfl, ⟨rfl, trivial⟩⟩⟩
    · have h := o_f hc4 h
      refine G_lconst (z := 1) (g_da dt_Pages_dots 21 rfl) rfl ?_
      refine G_goto (g_da dt_Pages_dots 22 rfl) rfl ?_
      exact G_subK (Pages_dots_35_ok hk5 h) ⟨rfl, ⟨rfl, ⟨rfl, trivial⟩⟩⟩
set_option maxHeartbeats 4000000 in
set_option maxRecDepth 100000 in
theorem Pages_dots_5L_ok {J : gS → gS} {z0 : Int} {s0 : gS} : ∀ (n : Nat) {l0 l1 l2 l4 : Int} {s : gS}, Pages_dots_5L n l0 l1 l2 l4 s = some (z0, s0) → G M_Pages_dots (QF g_S J z0 s0) (g_S, 0, 0) (J s) 5 [some (gi l0), some (gi l1), some (gl l2), none, some (gi l4)] [] := by
  intro n
  induction n with
  | zero => intro _ _ _ _ _ h; cases h
  | succ n ih => intro _ _ _ _ _ h; exact Pages_dots_5_ok (fun _ _ _ _ _ h => ih h) h
set_option maxHeartbeats 4000000 in
set_option maxRecDepth 100000 in
theorem Pages_dots_ok {J : gS → gS} {z0 : Int} {s0 : gS} {a0 a1 : Int} {s : gS} (h : Pages_dots a0 a1 s = some (z0, s0)) : Ct M_Pages_dots g_S [gi a0, gi a1] (J s) (QF g_S J z0 s0) := by
  refine Ct_of [some (gi a0), some (gi a1), none, none, none] (plainFor_of_name (by decide)) rfl (Nat.le_of_ble_eq_true rfl) rfl (by decide) q_rF ?_
  unfold Pages_dots at h
  refine G_lconst (z := 0) (g_da dt_Pages_dots 0 rfl) rfl ?_
  refine G_lstore_n (lv' := [_, _, _, none, none]) (g_da dt_Pages_dots 1 rfl) rfl (Nat.le_of_ble_eq_true rfl) rfl rfl ?_
  refine G_iconst (g_da dt_Pages_dots 2 rfl) ?_
  refine G_istore (lv' := [_, _, _, none, _]) (g_da dt_Pages_dots 3 rfl) (Nat.le_of_ble_eq_true rfl) rfl rfl ?_
  exact G_subK (Pages_dots_5L_ok gFu h) ⟨rfl, ⟨rfl, ⟨rfl, ⟨rfl, trivial⟩⟩⟩⟩
set_option maxHeartbeats 4000000 in
set_option maxRecDepth 100000 in
theorem Pages_paint_16_ok {J : gS → gS} (hJc : g_jc J) {z0 : Int} {s0 : gS} {k16 : Int → gS → gA} (hk16 : ∀ (l3 : Int) (s : gS), k16 l3 s = some (z0, s0) → G M_Pages_paint (QG g_S J z0 s0) (g_S, 0, 0) (J s) 16 [some (.ref 34), some (.ref 16), some (.ref 21), some (gi l3), none, none] [])  {l3 : Int} {s : gS} (h : Pages_paint_16 k16 l3 s = some (z0, s0)) : G M_Pages_paint (QG g_S J z0 s0) (g_S, 0, 0) (J s) 16 [some (.ref 34), some (.ref 16), some (.ref 21), some (gi l3), none, none] [] := by
  unfold Pages_paint_16 at h
  refine G_iload_n (g_da dt_Pages_paint 10 rfl) rfl rfl ?_
  refine G_bipush (g_da dt_Pages_paint 11 rfl) b8w_48 ?_
  refine G_icmp_ge (g_da dt_Pages_paint 12 rfl) rfl rfl w_48 (fun hc6 => ?_) (fun hc6 => ?_)
  · have h := o_t hc6 h
    exact G_return (g_da dt_Pages_paint 42 rfl) rfl rfl (g_nz rfl) (q_g h)
  · have h := o_f hc6 h
    refine G_aload_n (g_da dt_Pages_paint 13 rfl) rfl rfl ?_
    refine G_iload_n (g_da dt_Pages_paint 14 rfl) rfl rfl ?_
    obtain ⟨hb7, h⟩ := o_g h
    refine H_laload (g_da dt_Pages_paint 15 rfl) sh_16 (hJc 16 rfl) rfl hb7 rfl ?_
    refine G_aload_n (g_da dt_Pages_paint 16 rfl) rfl rfl ?_
    refine G_iload_n (g_da dt_Pages_paint 17 rfl) rfl rfl ?_
    obtain ⟨r8, s9, hc10, h⟩ := o_b h
    refine H_cVF (Settings_clipLine_ok hJc hc10) (g_da dt_Pages_paint 18 rfl) lk_1_35 mv_Settings_clipLine rfl sh_21 rfl rfl rfl rfl rfl rfl ?_
    refine G_land (g_da dt_Pages_paint 19 rfl) ?_
    refine H_topl (fun v11 e12 => ?_)
    have h := o_l h v11 e12
    refine G_lstore (lv' := [_, _, _, _, _, none]) (g_da dt_Pages_paint 20 rfl) (Nat.le_of_ble_eq_true rfl) rfl rfl ?_
    refine G_aload_n (g_da dt_Pages_paint 21 rfl) rfl rfl ?_
    refine G_getR (g_da dt_Pages_paint 22 rfl) sh_34 fl_1_15 rfl ?_
    refine G_iload_n (g_da dt_Pages_paint 23 rfl) rfl rfl ?_
    refine G_aload_n (g_da dt_Pages_paint 24 rfl) rfl rfl ?_
    refine G_getR (g_da dt_Pages_paint 25 rfl) sh_34 fl_1_15 rfl ?_
    refine G_iload_n (g_da dt_Pages_paint 26 rfl) rfl rfl ?_
    obtain ⟨hb13, h⟩ := o_g h
    refine H_laload (g_da dt_Pages_paint 27 rfl) sh_36 (hJc 36 rfl) rfl hb13 rfl ?_
    refine G_lload (g_da dt_Pages_paint 28 rfl) rfl ?_
    refine G_ldc2 (z := (-1)) (g_da dt_Pages_paint 29 rfl) cn_1_41 rfl ?_
    refine G_lxor (g_da dt_Pages_paint 30 rfl) ?_
    refine G_land (g_da dt_Pages_paint 31 rfl) ?_
    refine G_lload (g_da dt_Pages_paint 32 rfl) rfl ?_
    refine G_iload_n (g_da dt_Pages_paint 33 rfl) rfl rfl ?_
    refine G_aload_n (g_da dt_Pages_paint 34 rfl) rfl rfl ?_
    obtain ⟨r14, s15, hc16, h⟩ := o_b h
    refine H_cVE (Settings_greyNow_ok hJc hc16) (g_da dt_Pages_paint 35 rfl) lk_1_56 mv_Settings_greyNow rfl sh_21 rfl rfl rfl rfl rfl rfl ?_
    obtain ⟨r17, s18, hc19, h⟩ := o_b h
    refine H_cSF (Pages_dots_ok hc19) (g_da dt_Pages_paint 36 rfl) lk_1_60 ms_Pages_dots rfl rfl rfl rfl rfl rfl ?_
    refine G_land (g_da dt_Pages_paint 37 rfl) ?_
    refine G_lor (g_da dt_Pages_paint 38 rfl) ?_
    obtain ⟨hb20, h⟩ := o_g h
    refine H_lastore (g_da dt_Pages_paint 39 rfl) sh_36 (hJc 36 rfl) rfl hb20 rfl (fun s21 e22 => ?_)
    have h := o_l h s21 e22
    refine G_iinc (lv' := [_, _, _, _, _, none]) (g_da dt_Pages_paint 40 rfl) rfl (Nat.le_of_ble_eq_true rfl) rfl rfl ?_
    refine G_goto (g_da dt_Pages_paint 41 rfl) rfl ?_
    exact G_subK (hk16 _ _ h) ⟨rfl, ⟨rfl, ⟨rfl, ⟨rfl, trivial⟩⟩⟩⟩
set_option maxHeartbeats 4000000 in
set_option maxRecDepth 100000 in
theorem Pages_paint_16L_ok {J : gS → gS} (hJc : g_jc J) {z0 : Int} {s0 : gS} : ∀ (n : Nat) {l3 : Int} {s : gS}, Pages_paint_16L n l3 s = some (z0, s0) → G M_Pages_paint (QG g_S J z0 s0) (g_S, 0, 0) (J s) 16 [some (.ref 34), some (.ref 16), some (.ref 21), some (gi l3), none, none] [] := by
  intro n
  induction n with
  | zero => intro _ _ h; cases h
  | succ n ih => intro _ _ h; exact Pages_paint_16_ok hJc (fun _ _ h => ih h) h
set_option maxHeartbeats 4000000 in
set_option maxRecDepth 100000 in
theorem Pages_paint_ok {J : gS → gS} (hJc : g_jc J) {z0 : Int} {s0 : gS} {s : gS} (h : Pages_paint s = some (z0, s0)) : Ct M_Pages_paint g_S [.ref 34, .ref 16, .ref 21] (J s) (QG g_S J z0 s0) := by
  refine Ct_of [some (.ref 34), some (.ref 16), some (.ref 21), none, none, none] (plainFor_of_name (by decide)) rfl (Nat.le_of_ble_eq_true rfl) rfl (by decide) q_rG ?_
  unfold Pages_paint at h
  refine G_aload_n (g_da dt_Pages_paint 0 rfl) rfl rfl ?_
  refine G_dup (g_da dt_Pages_paint 1 rfl) rfl ?_
  refine H_getI (g_da dt_Pages_paint 2 rfl) sh_34 fl_1_49 rfl (hJc 34 rfl) ?_
  refine G_aload_n (g_da dt_Pages_paint 3 rfl) rfl rfl ?_
  refine G_aload_n (g_da dt_Pages_paint 4 rfl) rfl rfl ?_
  obtain ⟨r1, s2, hc3, h⟩ := o_b h
  refine H_cSE (Pages_marksOf_ok hJc hc3) (g_da dt_Pages_paint 5 rfl) lk_1_52 ms_Pages_marksOf rfl rfl rfl rfl rfl rfl ?_
  refine G_iadd (g_da dt_Pages_paint 6 rfl) ?_
  refine H_putI (g_da dt_Pages_paint 7 rfl) sh_34 fp_1_49 rfl (hJc 34 rfl) (fun s4 e5 => ?_)
  have h := o_l h s4 e5
  refine G_iconst (g_da dt_Pages_paint 8 rfl) ?_
  refine G_istore_n (lv' := [_, _, _, _, none, none]) (g_da dt_Pages_paint 9 rfl) rfl (Nat.le_of_ble_eq_true rfl) rfl rfl ?_
  exact G_subK (Pages_paint_16L_ok hJc gFu h) ⟨rfl, ⟨rfl, ⟨rfl, ⟨rfl, trivial⟩⟩⟩⟩
set_option maxHeartbeats 4000000 in
set_option maxRecDepth 100000 in
theorem Settings_takeBack_ok {J : gS → gS} (hJc : g_jc J) {z0 : Int} {s0 : gS} {s : gS} (h : Settings_takeBack s = some (z0, s0)) : Ct M_Settings_takeBack g_S [.ref 21] (J s) (QG g_S J z0 s0) := by
  refine Ct_of [some (.ref 21)] (plainFor_of_name (by decide)) rfl (Nat.le_of_ble_eq_true rfl) rfl (by decide) q_rG ?_
  unfold Settings_takeBack at h
  refine G_aload_n (g_da dt_Settings_takeBack 0 rfl) rfl rfl ?_
  refine H_getI (g_da dt_Settings_takeBack 1 rfl) sh_21 fl_3_39 rfl (hJc 21 rfl) ?_
  refine G_if_le (g_da dt_Settings_takeBack 2 rfl) rfl rfl  (fun hc1 => ?_) (fun hc1 => ?_)
  · have h := o_t hc1 h
    exact G_return (g_da dt_Settings_takeBack 9 rfl) rfl rfl (g_nz rfl) (q_g h)
  · have h := o_f hc1 h
    refine G_aload_n (g_da dt_Settings_takeBack 3 rfl) rfl rfl ?_
    refine G_dup (g_da dt_Settings_takeBack 4 rfl) rfl ?_
    refine H_getI (g_da dt_Settings_takeBack 5 rfl) sh_21 fl_3_39 rfl (hJc 21 rfl) ?_
    refine G_iconst (g_da dt_Settings_takeBack 6 rfl) ?_
    refine G_isub (g_da dt_Settings_takeBack 7 rfl) ?_
    refine H_putI (g_da dt_Settings_takeBack 8 rfl) sh_21 fp_3_39 rfl (hJc 21 rfl) (fun s2 e3 => ?_)
    have h := o_l h s2 e3
    exact G_return (g_da dt_Settings_takeBack 9 rfl) rfl rfl (g_nz rfl) (q_g h)
set_option maxHeartbeats 4000000 in
set_option maxRecDepth 100000 in
theorem Job_use_260_ok {J : gS → gS} (hJc : g_jc J) {z0 : Int} {s0 : gS}  {l1 : Int} {s : gS} (h : Job_use_260 l1 s = some (z0, s0)) : G M_Job_use (QG g_S J z0 s0) (g_S, 0, 0) (J s) 260 [some (.ref 5), some (gi l1)] [] := by
  unfold Job_use_260 at h
  refine G_aload_n (g_da dt_Job_use 76 rfl) rfl rfl ?_
  refine G_getR (g_da dt_Job_use 77 rfl) sh_5 fl_6_35 rfl ?_
  refine G_iload_n (g_da dt_Job_use 78 rfl) rfl rfl ?_
  obtain ⟨r26, s27, hc28, h⟩ := o_b h
  refine H_cSE (Job_needs_ok hc28) (g_da dt_Job_use 79 rfl) lk_6_135 ms_Job_needs rfl rfl rfl rfl rfl rfl ?_
  obtain ⟨r29, s30, hc31, h⟩ := o_b h
  refine H_cVG (Values_drop_ok hJc hc31) (g_da dt_Job_use 80 rfl) lk_6_75 mv_Values_drop rfl sh_18 rfl rfl rfl rfl rfl rfl ?_
  exact G_return (g_da dt_Job_use 81 rfl) rfl rfl (g_nz rfl) (q_g h)
set_option maxHeartbeats 4000000 in
set_option maxRecDepth 100000 in
theorem Job_use_92_ok {J : gS → gS} (hJc : g_jc J) {z0 : Int} {s0 : gS}  {l1 : Int} {s : gS} (h : Job_use_92 l1 s = some (z0, s0)) : G M_Job_use (QG g_S J z0 s0) (g_S, 0, 0) (J s) 92 [some (.ref 5), some (gi l1)] [] := by
  unfold Job_use_92 at h
  refine G_aload_n (g_da dt_Job_use 2 rfl) rfl rfl ?_
  refine G_getR (g_da dt_Job_use 3 rfl) sh_5 fl_6_60 rfl ?_
  refine G_aload_n (g_da dt_Job_use 4 rfl) rfl rfl ?_
  refine G_getR (g_da dt_Job_use 5 rfl) sh_5 fl_6_28 rfl ?_
  refine G_getR (g_da dt_Job_use 6 rfl) sh_15 fl_6_221 rfl ?_
  refine G_aload_n (g_da dt_Job_use 7 rfl) rfl rfl ?_
  refine G_getR (g_da dt_Job_use 8 rfl) sh_5 fl_6_46 rfl ?_
  obtain ⟨r20, s21, hc22, h⟩ := o_b h
  refine H_cVG (Pages_paint_ok hJc hc22) (g_da dt_Job_use 9 rfl) lk_6_287 mv_Pages_paint rfl sh_34 rfl rfl rfl rfl rfl rfl ?_
  refine G_aload_n (g_da dt_Job_use 10 rfl) rfl rfl ?_
  refine G_getR (g_da dt_Job_use 11 rfl) sh_5 fl_6_53 rfl ?_
  obtain ⟨r23, s24, hc25, h⟩ := o_b h
  refine H_cVG (Path_clear_ok hJc hc25) (g_da dt_Job_use 12 rfl) lk_6_88 mv_Path_clear rfl sh_28 rfl rfl rfl rfl rfl rfl ?_
  refine G_goto (g_da dt_Job_use 13 rfl) rfl ?_
  exact G_subK (Job_use_260_ok hJc h) ⟨rfl, ⟨rfl, trivial⟩⟩
set_option maxHeartbeats 4000000 in
set_option maxRecDepth 100000 in
theorem Job_use_253_ok {J : gS → gS} (hJc : g_jc J) {z0 : Int} {s0 : gS}  {l1 : Int} {s : gS} (h : Job_use_253 l1 s = some (z0, s0)) : G M_Job_use (QG g_S J z0 s0) (g_S, 0, 0) (J s) 253 [some (.ref 5), some (gi l1)] [] := by
  unfold Job_use_253 at h
  refine G_aload_n (g_da dt_Job_use 73 rfl) rfl rfl ?_
  refine G_getR (g_da dt_Job_use 74 rfl) sh_5 fl_6_46 rfl ?_
  obtain ⟨r38, s39, hc40, h⟩ := o_b h
  refine H_cVG (Settings_takeBack_ok hJc hc40) (g_da dt_Job_use 75 rfl) lk_6_310 mv_Settings_takeBack rfl sh_21 rfl rfl rfl rfl rfl rfl ?_
  exact G_subK (Job_use_260_ok hJc h) ⟨rfl, ⟨rfl, trivial⟩⟩
set_option maxHeartbeats 4000000 in
set_option maxRecDepth 100000 in
theorem Job_use_ok {J : gS → gS} (hJc : g_jc J) {z0 : Int} {s0 : gS} {a1 : Int} {s : gS} (h : Job_use a1 s = some (z0, s0)) : Ct M_Job_use g_S [.ref 5, gi a1] (J s) (QG g_S J z0 s0) := by
  refine Ct_of [some (.ref 5), some (gi a1)] (plainFor_of_name (by decide)) rfl (Nat.le_of_ble_eq_true rfl) rfl (by decide) q_rG ?_
  unfold Job_use at h
  refine G_iload_n (g_da dt_Job_use 0 rfl) rfl rfl ?_
  refine G_table [(69, 92), (70, 92), (71, 225), (72, 253), (73, 253), (74, 253), (75, 253), (76, 253), (77, 253), (78, 253), (79, 253), (80, 156), (81, 253), (82, 253), (83, 199), (84, 173), (85, 243), (86, 253), (87, 120)] 253 (g_da dt_Job_use 1 rfl) rfl rfl rfl ⟨fun hc1 => ?_, fun hc1 => ⟨fun hc2 => ?_, fun hc2 => ⟨fun hc3 => ?_, fun hc3 => ⟨fun hc4 => ?_, fun hc4 => ⟨fun hc5 => ?_, fun hc5 => ⟨fun hc6 => ?_, fun hc6 => ⟨fun hc7 => ?_, fun hc7 => ⟨fun hc8 => ?_, fun hc8 => ⟨fun hc9 => ?_, fun hc9 => ⟨fun hc10 => ?_, fun hc10 => ⟨fun hc11 => ?_, fun hc11 => ⟨fun hc12 => ?_, fun hc12 => ⟨fun hc13 => ?_, fun hc13 => ⟨fun hc14 => ?_, fun hc14 => ⟨fun hc15 => ?_, fun hc15 => ⟨fun hc16 => ?_, fun hc16 => ⟨fun hc17 => ?_, fun hc17 => ⟨fun hc18 => ?_, fun hc18 => ⟨fun hc19 => ?_, fun hc19 => ?_⟩⟩⟩⟩⟩⟩⟩⟩⟩⟩⟩⟩⟩⟩⟩⟩⟩⟩⟩
  · have h := o_t hc1 h
    exact G_subK (Job_use_92_ok hJc h) ⟨rfl, ⟨rfl, trivial⟩⟩
  · have h := o_f hc1 h
    have h := o_t hc2 h
    exact G_subK (Job_use_92_ok hJc h) ⟨rfl, ⟨rfl, trivial⟩⟩
  · have h := o_f hc1 h
    have h := o_f hc2 h
    have h := o_t hc3 h
    refine G_aload_n (g_da dt_Job_use 61 rfl) rfl rfl ?_
    refine G_getR (g_da dt_Job_use 62 rfl) sh_5 fl_6_46 rfl ?_
    refine G_aload_n (g_da dt_Job_use 63 rfl) rfl rfl ?_
    refine G_getR (g_da dt_Job_use 64 rfl) sh_5 fl_6_35 rfl ?_
    refine G_iconst (g_da dt_Job_use 65 rfl) ?_
    obtain ⟨r32, s33, hc34, h⟩ := o_b h
    refine H_cVE (Values_peek_ok hJc hc34) (g_da dt_Job_use 66 rfl) lk_6_149 mv_Values_peek rfl sh_18 rfl rfl rfl rfl rfl rfl ?_
    obtain ⟨r35, s36, hc37, h⟩ := o_b h
    refine H_cVG (Settings_setGrey_ok hJc hc37) (g_da dt_Job_use 67 rfl) lk_6_304 mv_Settings_setGrey rfl sh_21 rfl rfl rfl rfl rfl rfl ?_
    refine G_goto (g_da dt_Job_use 68 rfl) rfl ?_
    exact G_subK (Job_use_260_ok hJc h) ⟨rfl, ⟨rfl, trivial⟩⟩
  · have h := o_f hc1 h
    have h := o_f hc2 h
    have h := o_f hc3 h
    have h := o_t hc4 h
    exact G_subK (Job_use_253_ok hJc h) ⟨rfl, ⟨rfl, trivial⟩⟩
  · have h := o_f hc1 h
    have h := o_f hc2 h
    have h := o_f hc3 h
    have h := o_f hc4 h
    have h := o_t hc5 h
    exact G_subK (Job_use_253_ok hJc h) ⟨rfl, ⟨rfl, trivial⟩⟩
  · have h := o_f hc1 h
    have h := o_f hc2 h
    have h := o_f hc3 h
    have h := o_f hc4 h
    have h := o_f hc5 h
    have h := o_t hc6 h
    exact G_subK (Job_use_253_ok hJc h) ⟨rfl, ⟨rfl, trivial⟩⟩
  · have h := o_f hc1 h
    have h := o_f hc2 h
    have h := o_f hc3 h
    have h := o_f hc4 h
    have h := o_f hc5 h
    have h := o_f hc6 h
    have h := o_t hc7 h
    exact G_subK (Job_use_253_ok hJc h) ⟨rfl, ⟨rfl, trivial⟩⟩
  · have h := o_f hc1 h
    have h := o_f hc2 h
    have h := o_f hc3 h
    have h := o_f hc4 h
    have h := o_f hc5 h
    have h := o_f hc6 h
    have h := o_f hc7 h
    have h := o_t hc8 h
    exact G_subK (Job_use_253_ok hJc h) ⟨rfl, ⟨rfl, trivial⟩⟩
  · have h := o_f hc1 h
    have h := o_f hc2 h
    have h := o_f hc3 h
    have h := o_f hc4 h
    have h := o_f hc5 h
    have h := o_f hc6 h
    have h := o_f hc7 h
    have h := o_f hc8 h
    have h := o_t hc9 h
    exact G_subK (Job_use_253_ok hJc h) ⟨rfl, ⟨rfl, trivial⟩⟩
  · have h := o_f hc1 h
    have h := o_f hc2 h
    have h := o_f hc3 h
    have h := o_f hc4 h
    have h := o_f hc5 h
    have h := o_f hc6 h
    have h := o_f hc7 h
    have h := o_f hc8 h
    have h := o_f hc9 h
    have h := o_t hc10 h
    exact G_subK (Job_use_253_ok hJc h) ⟨rfl, ⟨rfl, trivial⟩⟩
  · have h := o_f hc1 h
    have h := o_f hc2 h
    have h := o_f hc3 h
    have h := o_f hc4 h
    have h := o_f hc5 h
    have h := o_f hc6 h
    have h := o_f hc7 h
    have h := o_f hc8 h
    have h := o_f hc9 h
    have h := o_f hc10 h
    have h := o_t hc11 h
    exact G_subK (Job_use_253_ok hJc h) ⟨rfl, ⟨rfl, trivial⟩⟩
  · have h := o_f hc1 h
    have h := o_f hc2 h
    have h := o_f hc3 h
    have h := o_f hc4 h
    have h := o_f hc5 h
    have h := o_f hc6 h
    have h := o_f hc7 h
    have h := o_f hc8 h
    have h := o_f hc9 h
    have h := o_f hc10 h
    have h := o_f hc11 h
    have h := o_t hc12 h
    refine G_aload_n (g_da dt_Job_use 30 rfl) rfl rfl ?_
    refine G_getR (g_da dt_Job_use 31 rfl) sh_5 fl_6_60 rfl ?_
    obtain ⟨r41, s42, hc43, h⟩ := o_b h
    refine H_cVG (Pages_keep_ok hJc hc43) (g_da dt_Job_use 32 rfl) lk_6_295 mv_Pages_keep rfl sh_34 rfl rfl rfl rfl rfl rfl ?_
    refine G_aload_n (g_da dt_Job_use 33 rfl) rfl rfl ?_
    refine G_getR (g_da dt_Job_use 34 rfl) sh_5 fl_6_53 rfl ?_
    obtain ⟨r44, s45, hc46, h⟩ := o_b h
    refine H_cVG (Path_clear_ok hJc hc46) (g_da dt_Job_use 35 rfl) lk_6_88 mv_Path_clear rfl sh_28 rfl rfl rfl rfl rfl rfl ?_
    refine G_goto (g_da dt_Job_use 36 rfl) rfl ?_
    exact G_subK (Job_use_260_ok hJc h) ⟨rfl, ⟨rfl, trivial⟩⟩
  · have h := o_f hc1 h
    have h := o_f hc2 h
    have h := o_f hc3 h
    have h := o_f hc4 h
    have h := o_f hc5 h
    have h := o_f hc6 h
    have h := o_f hc7 h
    have h := o_f hc8 h
    have h := o_f hc9 h
    have h := o_f hc10 h
    have h := o_f hc11 h
    have h := o_f hc12 h
    have h := o_t hc13 h
    exact G_subK (Job_use_253_ok hJc h) ⟨rfl, ⟨rfl, trivial⟩⟩
  · have h := o_f hc1 h
    have h := o_f hc2 h
    have h := o_f hc3 h
    have h := o_f hc4 h
    have h := o_f hc5 h
    have h := o_f hc6 h
    have h := o_f hc7 h
    have h := o_f hc8 h
    have h := o_f hc9 h
    have h := o_f hc10 h
    have h := o_f hc11 h
    have h := o_f hc12 h
    have h := o_f hc13 h
    have h := o_t hc14 h
    exact G_subK (Job_use_253_ok hJc h) ⟨rfl, ⟨rfl, trivial⟩⟩
  · have h := o_f hc1 h
    have h := o_f hc2 h
    have h := o_f hc3 h
    have h := o_f hc4 h
    have h := o_f hc5 h
    have h := o_f hc6 h
    have h := o_f hc7 h
    have h := o_f hc8 h
    have h := o_f hc9 h
    have h := o_f hc10 h
    have h := o_f hc11 h
    have h := o_f hc12 h
    have h := o_f hc13 h
    have h := o_f hc14 h
    have h := o_t hc15 h
    refine G_aload_n (g_da dt_Job_use 49 rfl) rfl rfl ?_
    refine G_getR (g_da dt_Job_use 50 rfl) sh_5 fl_6_46 rfl ?_
    refine G_aload_n (g_da dt_Job_use 51 rfl) rfl rfl ?_
    refine G_getR (g_da dt_Job_use 52 rfl) sh_5 fl_6_35 rfl ?_
    refine G_iconst (g_da dt_Job_use 53 rfl) ?_
    obtain ⟨r47, s48, hc49, h⟩ := o_b h
    refine H_cVE (Values_peek_ok hJc hc49) (g_da dt_Job_use 54 rfl) lk_6_149 mv_Values_peek rfl sh_18 rfl rfl rfl rfl rfl rfl ?_
    refine G_aload_n (g_da dt_Job_use 55 rfl) rfl rfl ?_
    refine G_getR (g_da dt_Job_use 56 rfl) sh_5 fl_6_35 rfl ?_
    refine G_iconst (g_da dt_Job_use 57 rfl) ?_
    obtain ⟨r50, s51, hc52, h⟩ := o_b h
    refine H_cVE (Values_peek_ok hJc hc52) (g_da dt_Job_use 58 rfl) lk_6_149 mv_Values_peek rfl sh_18 rfl rfl rfl rfl rfl rfl ?_
    obtain ⟨r53, s54, hc55, h⟩ := o_b h
    refine H_cVG (Settings_stretch_ok hJc hc55) (g_da dt_Job_use 59 rfl) lk_6_301 mv_Settings_stretch rfl sh_21 rfl rfl rfl rfl rfl rfl ?_
    refine G_goto (g_da dt_Job_use 60 rfl) rfl ?_
    exact G_subK (Job_use_260_ok hJc h) ⟨rfl, ⟨rfl, trivial⟩⟩
  · have h := o_f hc1 h
    have h := o_f hc2 h
    have h := o_f hc3 h
    have h := o_f hc4 h
    have h := o_f hc5 h
    have h := o_f hc6 h
    have h := o_f hc7 h
    have h := o_f hc8 h
    have h := o_f hc9 h
    have h := o_f hc10 h
    have h := o_f hc11 h
    have h := o_f hc12 h
    have h := o_f hc13 h
    have h := o_f hc14 h
    have h := o_f hc15 h
    have h := o_t hc16 h
    refine G_aload_n (g_da dt_Job_use 37 rfl) rfl rfl ?_
    refine G_getR (g_da dt_Job_use 38 rfl) sh_5 fl_6_46 rfl ?_
    refine G_aload_n (g_da dt_Job_use 39 rfl) rfl rfl ?_
    refine G_getR (g_da dt_Job_use 40 rfl) sh_5 fl_6_35 rfl ?_
    refine G_iconst (g_da dt_Job_use 41 rfl) ?_
    obtain ⟨r56, s57, hc58, h⟩ := o_b h
    refine H_cVE (Values_peek_ok hJc hc58) (g_da dt_Job_use 42 rfl) lk_6_149 mv_Values_peek rfl sh_18 rfl rfl rfl rfl rfl rfl ?_
    refine G_aload_n (g_da dt_Job_use 43 rfl) rfl rfl ?_
    refine G_getR (g_da dt_Job_use 44 rfl) sh_5 fl_6_35 rfl ?_
    refine G_iconst (g_da dt_Job_use 45 rfl) ?_
    obtain ⟨r59, s60, hc61, h⟩ := o_b h
    refine H_cVE (Values_peek_ok hJc hc61) (g_da dt_Job_use 46 rfl) lk_6_149 mv_Values_peek rfl sh_18 rfl rfl rfl rfl rfl rfl ?_
    obtain ⟨r62, s63, hc64, h⟩ := o_b h
    refine H_cVG (Settings_move_ok hJc hc64) (g_da dt_Job_use 47 rfl) lk_6_298 mv_Settings_move rfl sh_21 rfl rfl rfl rfl rfl rfl ?_
    refine G_goto (g_da dt_Job_use 48 rfl) rfl ?_
    exact G_subK (Job_use_260_ok hJc h) ⟨rfl, ⟨rfl, trivial⟩⟩
  · have h := o_f hc1 h
    have h := o_f hc2 h
    have h := o_f hc3 h
    have h := o_f hc4 h
    have h := o_f hc5 h
    have h := o_f hc6 h
    have h := o_f hc7 h
    have h := o_f hc8 h
    have h := o_f hc9 h
    have h := o_f hc10 h
    have h := o_f hc11 h
    have h := o_f hc12 h
    have h := o_f hc13 h
    have h := o_f hc14 h
    have h := o_f hc15 h
    have h := o_f hc16 h
    have h := o_t hc17 h
    refine G_aload_n (g_da dt_Job_use 69 rfl) rfl rfl ?_
    refine G_getR (g_da dt_Job_use 70 rfl) sh_5 fl_6_46 rfl ?_
    obtain ⟨r65, s66, hc67, h⟩ := o_b h
    refine H_cVG (Settings_save_ok hJc hc67) (g_da dt_Job_use 71 rfl) lk_6_307 mv_Settings_save rfl sh_21 rfl rfl rfl rfl rfl rfl ?_
    refine G_goto (g_da dt_Job_use 72 rfl) rfl ?_
    exact G_subK (Job_use_260_ok hJc h) ⟨rfl, ⟨rfl, trivial⟩⟩
  · have h := o_f hc1 h
    have h := o_f hc2 h
    have h := o_f hc3 h
    have h := o_f hc4 h
    have h := o_f hc5 h
    have h := o_f hc6 h
    have h := o_f hc7 h
    have h := o_f hc8 h
    have h := o_f hc9 h
    have h := o_f hc10 h
    have h := o_f hc11 h
    have h := o_f hc12 h
    have h := o_f hc13 h
    have h := o_f hc14 h
    have h := o_f hc15 h
    have h := o_f hc16 h
    have h := o_f hc17 h
    have h := o_t hc18 h
    exact G_subK (Job_use_253_ok hJc h) ⟨rfl, ⟨rfl, trivial⟩⟩
  · have h := o_f hc1 h
    have h := o_f hc2 h
    have h := o_f hc3 h
    have h := o_f hc4 h
    have h := o_f hc5 h
    have h := o_f hc6 h
    have h := o_f hc7 h
    have h := o_f hc8 h
    have h := o_f hc9 h
    have h := o_f hc10 h
    have h := o_f hc11 h
    have h := o_f hc12 h
    have h := o_f hc13 h
    have h := o_f hc14 h
    have h := o_f hc15 h
    have h := o_f hc16 h
    have h := o_f hc17 h
    have h := o_f hc18 h
    have h := o_t hc19 h
    refine G_aload_n (g_da dt_Job_use 14 rfl) rfl rfl ?_
    refine G_getR (g_da dt_Job_use 15 rfl) sh_5 fl_6_28 rfl ?_
    refine G_aload_n (g_da dt_Job_use 16 rfl) rfl rfl ?_
    refine G_getR (g_da dt_Job_use 17 rfl) sh_5 fl_6_53 rfl ?_
    refine G_iconst (g_da dt_Job_use 18 rfl) ?_
    obtain ⟨r68, s69, hc70, h⟩ := o_b h
    refine H_cVG (Filler_trace_ok hJc hc70) (g_da dt_Job_use 19 rfl) lk_6_214 mv_Filler_trace rfl sh_15 rfl rfl rfl rfl rfl rfl ?_
    refine G_aload_n (g_da dt_Job_use 20 rfl) rfl rfl ?_
    refine G_getR (g_da dt_Job_use 21 rfl) sh_5 fl_6_46 rfl ?_
    refine G_aload_n (g_da dt_Job_use 22 rfl) rfl rfl ?_
    refine G_getR (g_da dt_Job_use 23 rfl) sh_5 fl_6_28 rfl ?_
    refine G_getR (g_da dt_Job_use 24 rfl) sh_15 fl_6_221 rfl ?_
    obtain ⟨r71, s72, hc73, h⟩ := o_b h
    refine H_cVG (Settings_cutClip_ok hJc hc73) (g_da dt_Job_use 25 rfl) lk_6_291 mv_Settings_cutClip rfl sh_21 rfl rfl rfl rfl rfl rfl ?_
    refine G_aload_n (g_da dt_Job_use 26 rfl) rfl rfl ?_
    refine G_getR (g_da dt_Job_use 27 rfl) sh_5 fl_6_53 rfl ?_
    obtain ⟨r74, s75, hc76, h⟩ := o_b h
    refine H_cVG (Path_clear_ok hJc hc76) (g_da dt_Job_use 28 rfl) lk_6_88 mv_Path_clear rfl sh_28 rfl rfl rfl rfl rfl rfl ?_
    refine G_goto (g_da dt_Job_use 29 rfl) rfl ?_
    exact G_subK (Job_use_260_ok hJc h) ⟨rfl, ⟨rfl, trivial⟩⟩
  · have h := o_f hc1 h
    have h := o_f hc2 h
    have h := o_f hc3 h
    have h := o_f hc4 h
    have h := o_f hc5 h
    have h := o_f hc6 h
    have h := o_f hc7 h
    have h := o_f hc8 h
    have h := o_f hc9 h
    have h := o_f hc10 h
    have h := o_f hc11 h
    have h := o_f hc12 h
    have h := o_f hc13 h
    have h := o_f hc14 h
    have h := o_f hc15 h
    have h := o_f hc16 h
    have h := o_f hc17 h
    have h := o_f hc18 h
    have h := o_f hc19 h
    exact G_subK (Job_use_253_ok hJc h) ⟨rfl, ⟨rfl, trivial⟩⟩
set_option maxHeartbeats 4000000 in
set_option maxRecDepth 100000 in
theorem Job_reckon_43_ok {J : gS → gS} (hJc : g_jc J) {z0 : Int} {s0 : gS}  {l1 l2 l3 l4 : Int} {s : gS} (h : Job_reckon_43 l1 l2 l3 l4 s = some (z0, s0)) : G M_Job_reckon (QG g_S J z0 s0) (g_S, 0, 0) (J s) 43 [some (.ref 5), some (gi l1), some (gi l2), some (gi l3), some (gi l4)] [] := by
  unfold Job_reckon_43 at h
  refine G_iload_n (g_da dt_Job_reckon 23 rfl) rfl rfl ?_
  refine G_lookup [(68, 91), (79, 88), (88, 102), (126, 121)] 133 (g_da dt_Job_reckon 24 rfl) rfl rfl rfl ⟨fun hc11 => ?_, fun hc11 => ⟨fun hc12 => ?_, fun hc12 => ⟨fun hc13 => ?_, fun hc13 => ⟨fun hc14 => ?_, fun hc14 => ?_⟩⟩⟩⟩
  · have h := o_t hc11 h
    refine G_aload_n (g_da dt_Job_reckon 26 rfl) rfl rfl ?_
    refine G_getR (g_da dt_Job_reckon 27 rfl) sh_5 fl_6_35 rfl ?_
    refine G_iload_n (g_da dt_Job_reckon 28 rfl) rfl rfl ?_
    obtain ⟨r15, s16, hc17, h⟩ := o_b h
    refine H_cVG (Values_push_ok hJc hc17) (g_da dt_Job_reckon 29 rfl) lk_6_232 mv_Values_push rfl sh_18 rfl rfl rfl rfl rfl rfl ?_
    refine G_goto (g_da dt_Job_reckon 30 rfl) rfl ?_
    exact G_return (g_da dt_Job_reckon 50 rfl) rfl rfl (g_nz rfl) (q_g h)
  · have h := o_f hc11 h
    have h := o_t hc12 h
    refine G_goto (g_da dt_Job_reckon 25 rfl) rfl ?_
    exact G_return (g_da dt_Job_reckon 50 rfl) rfl rfl (g_nz rfl) (q_g h)
  · have h := o_f hc11 h
    have h := o_f hc12 h
    have h := o_t hc13 h
    refine G_aload_n (g_da dt_Job_reckon 31 rfl) rfl rfl ?_
    refine G_getR (g_da dt_Job_reckon 32 rfl) sh_5 fl_6_35 rfl ?_
    refine G_iload_n (g_da dt_Job_reckon 33 rfl) rfl rfl ?_
    obtain ⟨r18, s19, hc20, h⟩ := o_b h
    refine H_cVG (Values_push_ok hJc hc20) (g_da dt_Job_reckon 34 rfl) lk_6_232 mv_Values_push rfl sh_18 rfl rfl rfl rfl rfl rfl ?_
    refine G_aload_n (g_da dt_Job_reckon 35 rfl) rfl rfl ?_
    refine G_getR (g_da dt_Job_reckon 36 rfl) sh_5 fl_6_35 rfl ?_
    refine G_iload_n (g_da dt_Job_reckon 37 rfl) rfl rfl ?_
    obtain ⟨r21, s22, hc23, h⟩ := o_b h
    refine H_cVG (Values_push_ok hJc hc23) (g_da dt_Job_reckon 38 rfl) lk_6_232 mv_Values_push rfl sh_18 rfl rfl rfl rfl rfl rfl ?_
    refine G_goto (g_da dt_Job_reckon 39 rfl) rfl ?_
    exact G_return (g_da dt_Job_reckon 50 rfl) rfl rfl (g_nz rfl) (q_g h)
  · have h := o_f hc11 h
    have h := o_f hc12 h
    have h := o_f hc13 h
    have h := o_t hc14 h
    refine G_aload_n (g_da dt_Job_reckon 40 rfl) rfl rfl ?_
    refine G_getR (g_da dt_Job_reckon 41 rfl) sh_5 fl_6_35 rfl ?_
    refine G_iload_n (g_da dt_Job_reckon 42 rfl) rfl rfl ?_
    refine G_ineg (g_da dt_Job_reckon 43 rfl) ?_
    obtain ⟨r24, s25, hc26, h⟩ := o_b h
    refine H_cVG (Values_push_ok hJc hc26) (g_da dt_Job_reckon 44 rfl) lk_6_232 mv_Values_push rfl sh_18 rfl rfl rfl rfl rfl rfl ?_
    refine G_goto (g_da dt_Job_reckon 45 rfl) rfl ?_
    exact G_return (g_da dt_Job_reckon 50 rfl) rfl rfl (g_nz rfl) (q_g h)
  · have h := o_f hc11 h
    have h := o_f hc12 h
    have h := o_f hc13 h
    have h := o_f hc14 h
    refine G_aload_n (g_da dt_Job_reckon 46 rfl) rfl rfl ?_
    refine G_getR (g_da dt_Job_reckon 47 rfl) sh_5 fl_6_35 rfl ?_
    refine G_iload (g_da dt_Job_reckon 48 rfl) rfl ?_
    obtain ⟨r27, s28, hc29, h⟩ := o_b h
    refine H_cVG (Values_push_ok hJc hc29) (g_da dt_Job_reckon 49 rfl) lk_6_232 mv_Values_push rfl sh_18 rfl rfl rfl rfl rfl rfl ?_
    exact G_return (g_da dt_Job_reckon 50 rfl) rfl rfl (g_nz rfl) (q_g h)
set_option maxHeartbeats 4000000 in
set_option maxRecDepth 100000 in
theorem Job_reckon_ok {J : gS → gS} (hJc : g_jc J) {z0 : Int} {s0 : gS} {a1 : Int} {s : gS} (h : Job_reckon a1 s = some (z0, s0)) : Ct M_Job_reckon g_S [.ref 5, gi a1] (J s) (QG g_S J z0 s0) := by
  refine Ct_of [some (.ref 5), some (gi a1), none, none, none] (plainFor_of_name (by decide)) rfl (Nat.le_of_ble_eq_true rfl) rfl (by decide) q_rG ?_
  unfold Job_reckon at h
  refine G_aload_n (g_da dt_Job_reckon 0 rfl) rfl rfl ?_
  refine G_getR (g_da dt_Job_reckon 1 rfl) sh_5 fl_6_35 rfl ?_
  refine G_iconst (g_da dt_Job_reckon 2 rfl) ?_
  obtain ⟨r1, s2, hc3, h⟩ := o_b h
  refine H_cVE (Values_peek_ok hJc hc3) (g_da dt_Job_reckon 3 rfl) lk_6_149 mv_Values_peek rfl sh_18 rfl rfl rfl rfl rfl rfl ?_
  refine G_istore_n (lv' := [_, _, _, none, none]) (g_da dt_Job_reckon 4 rfl) rfl (Nat.le_of_ble_eq_true rfl) rfl rfl ?_
  refine G_aload_n (g_da dt_Job_reckon 5 rfl) rfl rfl ?_
  refine G_getR (g_da dt_Job_reckon 6 rfl) sh_5 fl_6_35 rfl ?_
  refine G_iconst (g_da dt_Job_reckon 7 rfl) ?_
  obtain ⟨r4, s5, hc6, h⟩ := o_b h
  refine H_cVE (Values_peek_ok hJc hc6) (g_da dt_Job_reckon 8 rfl) lk_6_149 mv_Values_peek rfl sh_18 rfl rfl rfl rfl rfl rfl ?_
  refine G_istore_n (lv' := [_, _, _, _, none]) (g_da dt_Job_reckon 9 rfl) rfl (Nat.le_of_ble_eq_true rfl) rfl rfl ?_
  refine G_aload_n (g_da dt_Job_reckon 10 rfl) rfl rfl ?_
  refine G_iload_n (g_da dt_Job_reckon 11 rfl) rfl rfl ?_
  obtain ⟨r7, s8, hc9, h⟩ := o_b h
  refine H_cVF (Job_resultOf_ok hJc hc9) (g_da dt_Job_reckon 12 rfl) lk_6_174 mv_Job_resultOf rfl sh_5 rfl rfl rfl rfl rfl rfl ?_
  refine G_l2i (g_da dt_Job_reckon 13 rfl) ?_
  refine G_istore (lv' := [_, _, _, _, _]) (g_da dt_Job_reckon 14 rfl) (Nat.le_of_ble_eq_true rfl) rfl rfl ?_
  refine G_iload_n (g_da dt_Job_reckon 15 rfl) rfl rfl ?_
  refine G_bipush (g_da dt_Job_reckon 16 rfl) b8w_68 ?_
  refine G_icmp_eq (g_da dt_Job_reckon 17 rfl) rfl rfl w_68 (fun hc10 => ?_) (fun hc10 => ?_)
  · have h := o_t hc10 h
    exact G_subK (Job_reckon_43_ok hJc h) ⟨rfl, ⟨rfl, ⟨rfl, ⟨rfl, ⟨rfl, trivial⟩⟩⟩⟩⟩
  · have h := o_f hc10 h
    refine G_aload_n (g_da dt_Job_reckon 18 rfl) rfl rfl ?_
    refine G_getR (g_da dt_Job_reckon 19 rfl) sh_5 fl_6_35 rfl ?_
    refine G_iload_n (g_da dt_Job_reckon 20 rfl) rfl rfl ?_
    obtain ⟨r30, s31, hc32, h⟩ := o_b h
    refine H_cSE (Job_needs_ok hc32) (g_da dt_Job_reckon 21 rfl) lk_6_135 ms_Job_needs rfl rfl rfl rfl rfl rfl ?_
    obtain ⟨r33, s34, hc35, h⟩ := o_b h
    refine H_cVG (Values_drop_ok hJc hc35) (g_da dt_Job_reckon 22 rfl) lk_6_75 mv_Values_drop rfl sh_18 rfl rfl rfl rfl rfl rfl ?_
    exact G_subK (Job_reckon_43_ok hJc h) ⟨rfl, ⟨rfl, ⟨rfl, ⟨rfl, ⟨rfl, trivial⟩⟩⟩⟩⟩
set_option maxHeartbeats 4000000 in
set_option maxRecDepth 100000 in
theorem Job_perform_ok {J : gS → gS} (hJc : g_jc J) {z0 : Int} {s0 : gS} {a1 a2 : Int} {s : gS} (h : Job_perform a1 a2 s = some (z0, s0)) : Ct M_Job_perform g_S [.ref 5, gi a1, gi a2] (J s) (QG g_S J z0 s0) := by
  refine Ct_of [some (.ref 5), some (gi a1), some (gi a2)] (plainFor_of_name (by decide)) rfl (Nat.le_of_ble_eq_true rfl) rfl (by decide) q_rG ?_
  unfold Job_perform at h
  refine G_iload_n (g_da dt_Job_perform 0 rfl) rfl rfl ?_
  obtain ⟨r1, s2, hc3, h⟩ := o_b h
  refine H_cSE (B_isDigit_ok hc3) (g_da dt_Job_perform 1 rfl) lk_6_205 ms_B_isDigit rfl rfl rfl rfl rfl rfl ?_
  refine G_if_eq (g_da dt_Job_perform 2 rfl) rfl rfl  (fun hc4 => ?_) (fun hc4 => ?_)
  · have h := o_t hc4 h
    refine G_iload_n (g_da dt_Job_perform 11 rfl) rfl rfl ?_
    obtain ⟨r5, s6, hc7, h⟩ := o_b h
    refine H_cSE (B_isLetter_ok hc7) (g_da dt_Job_perform 12 rfl) lk_6_208 ms_B_isLetter rfl rfl rfl rfl rfl rfl ?_
    refine G_if_eq (g_da dt_Job_perform 13 rfl) rfl rfl  (fun hc8 => ?_) (fun hc8 => ?_)
    · have h := o_t hc8 h
      refine G_iload_n (g_da dt_Job_perform 24 rfl) rfl rfl ?_
      refine G_bipush (g_da dt_Job_perform 25 rfl) b8w_123 ?_
      refine G_icmp_ne (g_da dt_Job_perform 26 rfl) rfl rfl w_123 (fun hc9 => ?_) (fun hc9 => ?_)
      · have h := o_f hc9 h
        refine G_iload_n (g_da dt_Job_perform 34 rfl) rfl rfl ?_
        refine G_bipush (g_da dt_Job_perform 35 rfl) b8w_58 ?_
        refine G_icmp_ne (g_da dt_Job_perform 36 rfl) rfl rfl w_58 (fun hc10 => ?_) (fun hc10 => ?_)
        · have h := o_f hc10 h
          refine G_ldcS (g_da dt_Job_perform 46 rfl) ld_6_239 ?_
          refine G_iload_n (g_da dt_Job_perform 47 rfl) rfl rfl ?_
          obtain ⟨r11, s12, hc13, h⟩ := o_b h
          refine H_cSE (B_isOneOf_ok hc13) (g_da dt_Job_perform 48 rfl) lk_6_241 ms_B_isOneOf rfl rfl rfl rfl rfl rfl ?_
          refine G_if_eq (g_da dt_Job_perform 49 rfl) rfl rfl  (fun hc14 => ?_) (fun hc14 => ?_)
          · have h := o_t hc14 h
            refine G_ldcS (g_da dt_Job_perform 54 rfl) ld_6_248 ?_
            refine G_iload_n (g_da dt_Job_perform 55 rfl) rfl rfl ?_
            obtain ⟨r15, s16, hc17, h⟩ := o_b h
            refine H_cSE (B_isOneOf_b_ok hc17) (g_da dt_Job_perform 56 rfl) lk_6_241 ms_B_isOneOf rfl rfl rfl rfl rfl rfl ?_
            refine G_if_eq (g_da dt_Job_perform 57 rfl) rfl rfl  (fun hc18 => ?_) (fun hc18 => ?_)
            · have h := o_t hc18 h
              refine G_ldcS (g_da dt_Job_perform 62 rfl) ld_6_253 ?_
              refine G_iload_n (g_da dt_Job_perform 63 rfl) rfl rfl ?_
              obtain ⟨r19, s20, hc21, h⟩ := o_b h
              refine H_cSE (B_isOneOf_c_ok hc21) (g_da dt_Job_perform 64 rfl) lk_6_241 ms_B_isOneOf rfl rfl rfl rfl rfl rfl ?_
              refine G_if_eq (g_da dt_Job_perform 65 rfl) rfl rfl  (fun hc22 => ?_) (fun hc22 => ?_)
              · have h := o_t hc22 h
                refine G_aload_n (g_da dt_Job_perform 70 rfl) rfl rfl ?_
                refine G_iload_n (g_da dt_Job_perform 71 rfl) rfl rfl ?_
                obtain ⟨r23, s24, hc25, h⟩ := o_b h
                refine H_cVG (Job_reckon_ok hJc hc25) (g_da dt_Job_perform 72 rfl) lk_6_258 mv_Job_reckon rfl sh_5 rfl rfl rfl rfl rfl rfl ?_
                exact G_return (g_da dt_Job_perform 73 rfl) rfl rfl (g_nz rfl) (q_g h)
              · have h := o_f hc22 h
                refine G_aload_n (g_da dt_Job_perform 66 rfl) rfl rfl ?_
                refine G_iload_n (g_da dt_Job_perform 67 rfl) rfl rfl ?_
                obtain ⟨r26, s27, hc28, h⟩ := o_b h
                refine H_cVG (Job_use_ok hJc hc28) (g_da dt_Job_perform 68 rfl) lk_6_255 mv_Job_use rfl sh_5 rfl rfl rfl rfl rfl rfl ?_
                refine G_goto (g_da dt_Job_perform 69 rfl) rfl ?_
                exact G_return (g_da dt_Job_perform 73 rfl) rfl rfl (g_nz rfl) (q_g h)
            · have h := o_f hc18 h
              refine G_aload_n (g_da dt_Job_perform 58 rfl) rfl rfl ?_
              refine G_iload_n (g_da dt_Job_perform 59 rfl) rfl rfl ?_
              obtain ⟨r29, s30, hc31, h⟩ := o_b h
              refine H_cVG (Job_draw_ok hJc hc31) (g_da dt_Job_perform 60 rfl) lk_6_250 mv_Job_draw rfl sh_5 rfl rfl rfl rfl rfl rfl ?_
              refine G_goto (g_da dt_Job_perform 61 rfl) rfl ?_
              exact G_return (g_da dt_Job_perform 73 rfl) rfl rfl (g_nz rfl) (q_g h)
          · have h := o_f hc14 h
            refine G_aload_n (g_da dt_Job_perform 50 rfl) rfl rfl ?_
            refine G_iload_n (g_da dt_Job_perform 51 rfl) rfl rfl ?_
            obtain ⟨r32, s33, hc34, h⟩ := o_b h
            refine H_cVG (Job_control_ok hJc hc34) (g_da dt_Job_perform 52 rfl) lk_6_245 mv_Job_control rfl sh_5 rfl rfl rfl rfl rfl rfl ?_
            refine G_goto (g_da dt_Job_perform 53 rfl) rfl ?_
            exact G_return (g_da dt_Job_perform 73 rfl) rfl rfl (g_nz rfl) (q_g h)
        · have h := o_t hc10 h
          refine G_aload_n (g_da dt_Job_perform 37 rfl) rfl rfl ?_
          refine G_aload_n (g_da dt_Job_perform 38 rfl) rfl rfl ?_
          refine G_getR (g_da dt_Job_perform 39 rfl) sh_5 fl_6_12 rfl ?_
          refine G_iload_n (g_da dt_Job_perform 40 rfl) rfl rfl ?_
          refine G_iconst (g_da dt_Job_perform 41 rfl) ?_
          refine G_iadd (g_da dt_Job_perform 42 rfl) ?_
          obtain ⟨r35, s36, hc37, h⟩ := o_b h
          refine H_cVE (Text_sign_ok hJc hc37) (g_da dt_Job_perform 43 rfl) lk_6_112 mv_Text_sign rfl sh_6 rfl rfl rfl rfl rfl rfl ?_
          obtain ⟨r38, s39, hc40, h⟩ := o_b h
          refine H_cVG (Job_assign_ok hJc hc40) (g_da dt_Job_perform 44 rfl) lk_6_236 mv_Job_assign rfl sh_5 rfl rfl rfl rfl rfl rfl ?_
          refine G_goto (g_da dt_Job_perform 45 rfl) rfl ?_
          exact G_return (g_da dt_Job_perform 73 rfl) rfl rfl (g_nz rfl) (q_g h)
      · have h := o_t hc9 h
        refine G_aload_n (g_da dt_Job_perform 27 rfl) rfl rfl ?_
        refine G_getR (g_da dt_Job_perform 28 rfl) sh_5 fl_6_35 rfl ?_
        refine G_ldc (z := 2000000) (g_da dt_Job_perform 29 rfl) cn_6_235 rfl ?_
        refine G_iload_n (g_da dt_Job_perform 30 rfl) rfl rfl ?_
        refine G_iadd (g_da dt_Job_perform 31 rfl) ?_
        obtain ⟨r41, s42, hc43, h⟩ := o_b h
        refine H_cVG (Values_push_ok hJc hc43) (g_da dt_Job_perform 32 rfl) lk_6_232 mv_Values_push rfl sh_18 rfl rfl rfl rfl rfl rfl ?_
        refine G_goto (g_da dt_Job_perform 33 rfl) rfl ?_
        exact G_return (g_da dt_Job_perform 73 rfl) rfl rfl (g_nz rfl) (q_g h)
    · have h := o_f hc8 h
      refine G_aload_n (g_da dt_Job_perform 14 rfl) rfl rfl ?_
      refine G_getR (g_da dt_Job_perform 15 rfl) sh_5 fl_6_35 rfl ?_
      refine G_aload_n (g_da dt_Job_perform 16 rfl) rfl rfl ?_
      refine G_getR (g_da dt_Job_perform 17 rfl) sh_5 fl_6_39 rfl ?_
      refine G_iload_n (g_da dt_Job_perform 18 rfl) rfl rfl ?_
      refine G_bipush (g_da dt_Job_perform 19 rfl) b8w_97 ?_
      refine G_isub (g_da dt_Job_perform 20 rfl) ?_
      obtain ⟨hb44, h⟩ := o_g h
      refine H_iaload (g_da dt_Job_perform 21 rfl) sh_20 (hJc 20 rfl) rfl hb44 rfl ?_
      obtain ⟨r45, s46, hc47, h⟩ := o_b h
      refine H_cVG (Values_push_ok hJc hc47) (g_da dt_Job_perform 22 rfl) lk_6_232 mv_Values_push rfl sh_18 rfl rfl rfl rfl rfl rfl ?_
      refine G_goto (g_da dt_Job_perform 23 rfl) rfl ?_
      exact G_return (g_da dt_Job_perform 73 rfl) rfl rfl (g_nz rfl) (q_g h)
  · have h := o_f hc4 h
    refine G_aload_n (g_da dt_Job_perform 3 rfl) rfl rfl ?_
    refine G_getR (g_da dt_Job_perform 4 rfl) sh_5 fl_6_35 rfl ?_
    refine G_aload_n (g_da dt_Job_perform 5 rfl) rfl rfl ?_
    refine G_getR (g_da dt_Job_perform 6 rfl) sh_5 fl_6_12 rfl ?_
    refine G_iload_n (g_da dt_Job_perform 7 rfl) rfl rfl ?_
    obtain ⟨r48, s49, hc50, h⟩ := o_b h
    refine H_cVE (Text_number_ok hJc hc50) (g_da dt_Job_perform 8 rfl) lk_6_229 mv_Text_number rfl sh_6 rfl rfl rfl rfl rfl rfl ?_
    obtain ⟨r51, s52, hc53, h⟩ := o_b h
    refine H_cVG (Values_push_ok hJc hc53) (g_da dt_Job_perform 9 rfl) lk_6_232 mv_Values_push rfl sh_18 rfl rfl rfl rfl rfl rfl ?_
    refine G_goto (g_da dt_Job_perform 10 rfl) rfl ?_
    exact G_return (g_da dt_Job_perform 73 rfl) rfl rfl (g_nz rfl) (q_g h)
set_option maxHeartbeats 4000000 in
set_option maxRecDepth 100000 in
theorem Calls_settle_5_ok {J : gS → gS} (hJc : g_jc J) {z0 : Int} {s0 : gS} {k5 : Int → gS → gA} (hk5 : ∀ (l2 : Int) (s : gS), k5 l2 s = some (z0, s0) → G M_Calls_settle (QG g_S J z0 s0) (g_S, 0, 0) (J s) 5 [some (.ref 10), some (.ref 6), some (gi l2)] [])  {l2 : Int} {s : gS} (h : Calls_settle_5 k5 l2 s = some (z0, s0)) : G M_Calls_settle (QG g_S J z0 s0) (g_S, 0, 0) (J s) 5 [some (.ref 10), some (.ref 6), some (gi l2)] [] := by
  unfold Calls_settle_5 at h
  refine G_iload_n (g_da dt_Calls_settle 3 rfl) rfl rfl ?_
  refine G_if_lt (g_da dt_Calls_settle 4 rfl) rfl rfl  (fun hc3 => ?_) (fun hc3 => ?_)
  · have h := o_t hc3 h
    exact G_return (g_da dt_Calls_settle 66 rfl) rfl rfl (g_nz rfl) (q_g h)
  · have h := o_f hc3 h
    refine G_aload_n (g_da dt_Calls_settle 5 rfl) rfl rfl ?_
    refine G_getR (g_da dt_Calls_settle 6 rfl) sh_10 fl_7_9 rfl ?_
    refine G_iload_n (g_da dt_Calls_settle 7 rfl) rfl rfl ?_
    refine G_aload_n (g_da dt_Calls_settle 8 rfl) rfl rfl ?_
    refine G_aload_n (g_da dt_Calls_settle 9 rfl) rfl rfl ?_
    refine G_getR (g_da dt_Calls_settle 10 rfl) sh_10 fl_7_9 rfl ?_
    refine G_iload_n (g_da dt_Calls_settle 11 rfl) rfl rfl ?_
    obtain ⟨hb4, h⟩ := o_g h
    refine H_iaload (g_da dt_Calls_settle 12 rfl) sh_11 (hJc 11 rfl) rfl hb4 rfl ?_
    refine G_aload_n (g_da dt_Calls_settle 13 rfl) rfl rfl ?_
    refine G_getR (g_da dt_Calls_settle 14 rfl) sh_10 fl_7_18 rfl ?_
    refine G_iload_n (g_da dt_Calls_settle 15 rfl) rfl rfl ?_
    obtain ⟨hb5, h⟩ := o_g h
    refine H_iaload (g_da dt_Calls_settle 16 rfl) sh_13 (hJc 13 rfl) rfl hb5 rfl ?_
    obtain ⟨r6, s7, hc8, h⟩ := o_b h
    refine H_cVE (Text_skipBlanks_ok hJc hc8) (g_da dt_Calls_settle 17 rfl) lk_7_46 mv_Text_skipBlanks rfl sh_6 rfl rfl rfl rfl rfl rfl ?_
    obtain ⟨hb9, h⟩ := o_g h
    refine H_iastore (g_da dt_Calls_settle 18 rfl) sh_11 (hJc 11 rfl) rfl hb9 rfl (fun s10 e11 => ?_)
    have h := o_l h s10 e11
    refine G_aload_n (g_da dt_Calls_settle 19 rfl) rfl rfl ?_
    refine G_getR (g_da dt_Calls_settle 20 rfl) sh_10 fl_7_9 rfl ?_
    refine G_iload_n (g_da dt_Calls_settle 21 rfl) rfl rfl ?_
    obtain ⟨hb12, h⟩ := o_g h
    refine H_iaload (g_da dt_Calls_settle 22 rfl) sh_11 (hJc 11 rfl) rfl hb12 rfl ?_
    refine G_aload_n (g_da dt_Calls_settle 23 rfl) rfl rfl ?_
    refine G_getR (g_da dt_Calls_settle 24 rfl) sh_10 fl_7_18 rfl ?_
    refine G_iload_n (g_da dt_Calls_settle 25 rfl) rfl rfl ?_
    obtain ⟨hb13, h⟩ := o_g h
    refine H_iaload (g_da dt_Calls_settle 26 rfl) sh_13 (hJc 13 rfl) rfl hb13 rfl ?_
    refine G_icmp_ge (g_da dt_Calls_settle 27 rfl) rfl rfl rfl (fun hc14 => ?_) (fun hc14 => ?_)
    · have h := o_t hc14 h
      refine G_aload_n (g_da dt_Calls_settle 29 rfl) rfl rfl ?_
      refine G_getR (g_da dt_Calls_settle 30 rfl) sh_10 fl_7_21 rfl ?_
      refine G_iload_n (g_da dt_Calls_settle 31 rfl) rfl rfl ?_
      obtain ⟨hb15, h⟩ := o_g h
      refine H_iaload (g_da dt_Calls_settle 32 rfl) sh_14 (hJc 14 rfl) rfl hb15 rfl ?_
      refine G_iconst (g_da dt_Calls_settle 33 rfl) ?_
      refine G_icmp_le (g_da dt_Calls_settle 34 rfl) rfl rfl w_1 (fun hc16 => ?_) (fun hc16 => ?_)
      · have h := o_t hc16 h
        refine G_aload_n (g_da dt_Calls_settle 58 rfl) rfl rfl ?_
        refine G_dup (g_da dt_Calls_settle 59 rfl) rfl ?_
        refine H_getI (g_da dt_Calls_settle 60 rfl) sh_10 fl_7_24 rfl (hJc 10 rfl) ?_
        refine G_iconst (g_da dt_Calls_settle 61 rfl) ?_
        refine G_isub (g_da dt_Calls_settle 62 rfl) ?_
        refine H_putI (g_da dt_Calls_settle 63 rfl) sh_10 fp_7_24 rfl (hJc 10 rfl) (fun s17 e18 => ?_)
        have h := o_l h s17 e18
        refine G_iinc (lv' := [_, _, _]) (g_da dt_Calls_settle 64 rfl) rfl (Nat.le_of_ble_eq_true rfl) rfl rfl ?_
        refine G_goto (g_da dt_Calls_settle 65 rfl) rfl ?_
        exact G_subK (hk5 _ _ h) ⟨rfl, ⟨rfl, ⟨rfl, trivial⟩⟩⟩
      · have h := o_f hc16 h
        refine G_aload_n (g_da dt_Calls_settle 35 rfl) rfl rfl ?_
        refine G_getR (g_da dt_Calls_settle 36 rfl) sh_10 fl_7_21 rfl ?_
        refine G_iload_n (g_da dt_Calls_settle 37 rfl) rfl rfl ?_
        refine G_dup2_11 (g_da dt_Calls_settle 38 rfl) rfl rfl ?_
        obtain ⟨hb19, h⟩ := o_g h
        refine H_iaload (g_da dt_Calls_settle 39 rfl) sh_14 (hJc 14 rfl) rfl hb19 rfl ?_
        refine G_iconst (g_da dt_Calls_settle 40 rfl) ?_
        refine G_isub (g_da dt_Calls_settle 41 rfl) ?_
        obtain ⟨hb20, h⟩ := o_g h
        refine H_iastore (g_da dt_Calls_settle 42 rfl) sh_14 (hJc 14 rfl) rfl hb20 rfl (fun s21 e22 => ?_)
        have h := o_l h s21 e22
        refine G_aload_n (g_da dt_Calls_settle 43 rfl) rfl rfl ?_
        refine G_getR (g_da dt_Calls_settle 44 rfl) sh_10 fl_7_9 rfl ?_
        refine G_iload_n (g_da dt_Calls_settle 45 rfl) rfl rfl ?_
        refine G_aload_n (g_da dt_Calls_settle 46 rfl) rfl rfl ?_
        refine G_aload_n (g_da dt_Calls_settle 47 rfl) rfl rfl ?_
        refine G_getR (g_da dt_Calls_settle 48 rfl) sh_10 fl_7_15 rfl ?_
        refine G_iload_n (g_da dt_Calls_settle 49 rfl) rfl rfl ?_
        obtain ⟨hb23, h⟩ := o_g h
        refine H_iaload (g_da dt_Calls_settle 50 rfl) sh_12 (hJc 12 rfl) rfl hb23 rfl ?_
        refine G_aload_n (g_da dt_Calls_settle 51 rfl) rfl rfl ?_
        refine G_getR (g_da dt_Calls_settle 52 rfl) sh_10 fl_7_18 rfl ?_
        refine G_iload_n (g_da dt_Calls_settle 53 rfl) rfl rfl ?_
        obtain ⟨hb24, h⟩ := o_g h
        refine H_iaload (g_da dt_Calls_settle 54 rfl) sh_13 (hJc 13 rfl) rfl hb24 rfl ?_
        obtain ⟨r25, s26, hc27, h⟩ := o_b h
        refine H_cVE (Text_skipBlanks_ok hJc hc27) (g_da dt_Calls_settle 55 rfl) lk_7_46 mv_Text_skipBlanks rfl sh_6 rfl rfl rfl rfl rfl rfl ?_
        obtain ⟨hb28, h⟩ := o_g h
        refine H_iastore (g_da dt_Calls_settle 56 rfl) sh_11 (hJc 11 rfl) rfl hb28 rfl (fun s29 e30 => ?_)
        have h := o_l h s29 e30
        exact G_return (g_da dt_Calls_settle 57 rfl) rfl rfl (g_nz rfl) (q_g h)
    · have h := o_f hc14 h
      exact G_return (g_da dt_Calls_settle 28 rfl) rfl rfl (g_nz rfl) (q_g h)
set_option maxHeartbeats 4000000 in
set_option maxRecDepth 100000 in
theorem Calls_settle_5L_ok {J : gS → gS} (hJc : g_jc J) {z0 : Int} {s0 : gS} : ∀ (n : Nat) {l2 : Int} {s : gS}, Calls_settle_5L n l2 s = some (z0, s0) → G M_Calls_settle (QG g_S J z0 s0) (g_S, 0, 0) (J s) 5 [some (.ref 10), some (.ref 6), some (gi l2)] [] := by
  intro n
  induction n with
  | zero => intro _ _ h; cases h
  | succ n ih => intro _ _ h; exact Calls_settle_5_ok hJc (fun _ _ h => ih h) h
set_option maxHeartbeats 4000000 in
set_option maxRecDepth 100000 in
theorem Calls_settle_ok {J : gS → gS} (hJc : g_jc J) {z0 : Int} {s0 : gS} {s : gS} (h : Calls_settle s = some (z0, s0)) : Ct M_Calls_settle g_S [.ref 10, .ref 6] (J s) (QG g_S J z0 s0) := by
  refine Ct_of [some (.ref 10), some (.ref 6), none] (plainFor_of_name (by decide)) rfl (Nat.le_of_ble_eq_true rfl) rfl (by decide) q_rG ?_
  unfold Calls_settle at h
  refine G_aload_n (g_da dt_Calls_settle 0 rfl) rfl rfl ?_
  refine H_getI (g_da dt_Calls_settle 1 rfl) sh_10 fl_7_24 rfl (hJc 10 rfl) ?_
  refine H_topi (fun v1 e2 => ?_)
  have h := o_l h v1 e2
  refine G_istore_n (lv' := [_, _, _]) (g_da dt_Calls_settle 2 rfl) rfl (Nat.le_of_ble_eq_true rfl) rfl rfl ?_
  exact G_subK (Calls_settle_5L_ok hJc gFu h) ⟨rfl, ⟨rfl, ⟨rfl, trivial⟩⟩⟩
set_option maxHeartbeats 4000000 in
set_option maxRecDepth 100000 in
theorem Job_step_ok {J : gS → gS} (hJc : g_jc J) {z0 : Int} {s0 : gS} {s : gS} (h : Job_step s = some (z0, s0)) : Ct M_Job_step g_S [.ref 5] (J s) (QG g_S J z0 s0) := by
  refine Ct_of [some (.ref 5), none, none] (plainFor_of_name (by decide)) rfl (Nat.le_of_ble_eq_true rfl) rfl (by decide) q_rG ?_
  unfold Job_step at h
  refine G_aload_n (g_da dt_Job_step 0 rfl) rfl rfl ?_
  refine G_getR (g_da dt_Job_step 1 rfl) sh_5 fl_6_21 rfl ?_
  obtain ⟨r1, s2, hc3, h⟩ := o_b h
  refine H_cVE (Calls_place_ok hJc hc3) (g_da dt_Job_step 2 rfl) lk_6_108 mv_Calls_place rfl sh_10 rfl rfl rfl rfl rfl rfl ?_
  refine G_istore_n (lv' := [_, _, none]) (g_da dt_Job_step 3 rfl) rfl (Nat.le_of_ble_eq_true rfl) rfl rfl ?_
  refine G_aload_n (g_da dt_Job_step 4 rfl) rfl rfl ?_
  refine G_getR (g_da dt_Job_step 5 rfl) sh_5 fl_6_12 rfl ?_
  refine G_iload_n (g_da dt_Job_step 6 rfl) rfl rfl ?_
  obtain ⟨r4, s5, hc6, h⟩ := o_b h
  refine H_cVE (Text_sign_ok hJc hc6) (g_da dt_Job_step 7 rfl) lk_6_112 mv_Text_sign rfl sh_6 rfl rfl rfl rfl rfl rfl ?_
  refine G_istore_n (lv' := [_, _, _]) (g_da dt_Job_step 8 rfl) rfl (Nat.le_of_ble_eq_true rfl) rfl rfl ?_
  refine G_aload_n (g_da dt_Job_step 9 rfl) rfl rfl ?_
  refine G_aload_n (g_da dt_Job_step 10 rfl) rfl rfl ?_
  refine G_iload_n (g_da dt_Job_step 11 rfl) rfl rfl ?_
  obtain ⟨r7, s8, hc9, h⟩ := o_b h
  refine H_cVE (Job_errorOf_ok hJc hc9) (g_da dt_Job_step 12 rfl) lk_6_116 mv_Job_errorOf rfl sh_5 rfl rfl rfl rfl rfl rfl ?_
  refine H_putI (g_da dt_Job_step 13 rfl) sh_5 fp_6_92 rfl (hJc 5 rfl) (fun s10 e11 => ?_)
  have h := o_l h s10 e11
  refine G_aload_n (g_da dt_Job_step 14 rfl) rfl rfl ?_
  refine H_getI (g_da dt_Job_step 15 rfl) sh_5 fl_6_92 rfl (hJc 5 rfl) ?_
  refine G_if_eq (g_da dt_Job_step 16 rfl) rfl rfl  (fun hc12 => ?_) (fun hc12 => ?_)
  · have h := o_t hc12 h
    refine G_aload_n (g_da dt_Job_step 24 rfl) rfl rfl ?_
    refine G_getR (g_da dt_Job_step 25 rfl) sh_5 fl_6_21 rfl ?_
    refine G_aload_n (g_da dt_Job_step 26 rfl) rfl rfl ?_
    refine G_getR (g_da dt_Job_step 27 rfl) sh_5 fl_6_12 rfl ?_
    refine G_iload_n (g_da dt_Job_step 28 rfl) rfl rfl ?_
    obtain ⟨r13, s14, hc15, h⟩ := o_b h
    refine H_cVE (Text_behind_ok hJc hc15) (g_da dt_Job_step 29 rfl) lk_6_119 mv_Text_behind rfl sh_6 rfl rfl rfl rfl rfl rfl ?_
    obtain ⟨r16, s17, hc18, h⟩ := o_b h
    refine H_cVG (Calls_goTo_ok hJc hc18) (g_da dt_Job_step 30 rfl) lk_6_122 mv_Calls_goTo rfl sh_10 rfl rfl rfl rfl rfl rfl ?_
    refine G_aload_n (g_da dt_Job_step 31 rfl) rfl rfl ?_
    refine G_iload_n (g_da dt_Job_step 32 rfl) rfl rfl ?_
    refine G_iload_n (g_da dt_Job_step 33 rfl) rfl rfl ?_
    obtain ⟨r19, s20, hc21, h⟩ := o_b h
    refine H_cVG (Job_perform_ok hJc hc21) (g_da dt_Job_step 34 rfl) lk_6_125 mv_Job_perform rfl sh_5 rfl rfl rfl rfl rfl rfl ?_
    refine G_aload_n (g_da dt_Job_step 35 rfl) rfl rfl ?_
    refine G_dup (g_da dt_Job_step 36 rfl) rfl ?_
    refine H_getI (g_da dt_Job_step 37 rfl) sh_5 fl_6_98 rfl (hJc 5 rfl) ?_
    refine G_iconst (g_da dt_Job_step 38 rfl) ?_
    refine G_iadd (g_da dt_Job_step 39 rfl) ?_
    refine H_putI (g_da dt_Job_step 40 rfl) sh_5 fp_6_98 rfl (hJc 5 rfl) (fun s22 e23 => ?_)
    have h := o_l h s22 e23
    refine G_aload_n (g_da dt_Job_step 41 rfl) rfl rfl ?_
    refine G_getR (g_da dt_Job_step 42 rfl) sh_5 fl_6_21 rfl ?_
    refine G_aload_n (g_da dt_Job_step 43 rfl) rfl rfl ?_
    refine G_getR (g_da dt_Job_step 44 rfl) sh_5 fl_6_12 rfl ?_
    obtain ⟨r24, s25, hc26, h⟩ := o_b h
    refine H_cVG (Calls_settle_ok hJc hc26) (g_da dt_Job_step 45 rfl) lk_6_129 mv_Calls_settle rfl sh_10 rfl rfl rfl rfl rfl rfl ?_
    refine G_aload_n (g_da dt_Job_step 46 rfl) rfl rfl ?_
    obtain ⟨r27, s28, hc29, h⟩ := o_b h
    refine H_cVG (Job_endIfOver_ok hJc hc29) (g_da dt_Job_step 47 rfl) lk_6_132 mv_Job_endIfOver rfl sh_5 rfl rfl rfl rfl rfl rfl ?_
    exact G_return (g_da dt_Job_step 48 rfl) rfl rfl (g_nz rfl) (q_g h)
  · have h := o_f hc12 h
    refine G_aload_n (g_da dt_Job_step 17 rfl) rfl rfl ?_
    refine G_iload_n (g_da dt_Job_step 18 rfl) rfl rfl ?_
    refine H_putI (g_da dt_Job_step 19 rfl) sh_5 fp_6_95 rfl (hJc 5 rfl) (fun s30 e31 => ?_)
    have h := o_l h s30 e31
    refine G_aload_n (g_da dt_Job_step 20 rfl) rfl rfl ?_
    refine G_iconst (g_da dt_Job_step 21 rfl) ?_
    refine H_putI (g_da dt_Job_step 22 rfl) sh_5 fp_6_64 rfl (hJc 5 rfl) (fun s32 e33 => ?_)
    have h := o_l h s32 e33
    exact G_return (g_da dt_Job_step 23 rfl) rfl rfl (g_nz rfl) (q_g h)
set_option maxHeartbeats 4000000 in
set_option maxRecDepth 100000 in
theorem Order_complete_28_ok {J : gS → gS} (hJc : g_jc J) {z0 : Int} {s0 : gS}  {t1 : Int} {s : gS} (h : Order_complete_28 t1 s = some (z0, s0)) : G M_Order_complete (QG g_S J z0 s0) (g_S, 0, 0) (J s) 28 [some (.ref 37), none] [gi t1, .ref 37] := by
  unfold Order_complete_28 at h
  refine H_putI (g_da dt_Order_complete 16 rfl) sh_37 fp_4_30 rfl (hJc 37 rfl) (fun s4 e5 => ?_)
  have h := o_l h s4 e5
  refine G_aload_n (g_da dt_Order_complete 17 rfl) rfl rfl ?_
  refine G_aload_n (g_da dt_Order_complete 18 rfl) rfl rfl ?_
  refine H_getI (g_da dt_Order_complete 19 rfl) sh_37 fl_4_19 rfl (hJc 37 rfl) ?_
  refine G_aload_n (g_da dt_Order_complete 20 rfl) rfl rfl ?_
  refine H_getI (g_da dt_Order_complete 21 rfl) sh_37 fl_4_30 rfl (hJc 37 rfl) ?_
  refine G_imul (g_da dt_Order_complete 22 rfl) ?_
  refine G_bipush (g_da dt_Order_complete 23 rfl) b8w_32 ?_
  obtain ⟨r6, s7, hc8, h⟩ := o_b h
  refine H_cSE (Math_min1_ok hc8) (g_da dt_Order_complete 24 rfl) lk_4_39 ms_Math_min1 rfl rfl rfl rfl rfl rfl ?_
  refine H_putI (g_da dt_Order_complete 25 rfl) sh_37 fp_4_33 rfl (hJc 37 rfl) (fun s9 e10 => ?_)
  have h := o_l h s9 e10
  exact G_return (g_da dt_Order_complete 26 rfl) rfl rfl (g_nz rfl) (q_g h)
set_option maxHeartbeats 4000000 in
set_option maxRecDepth 100000 in
theorem Order_complete_ok {J : gS → gS} (hJc : g_jc J) {z0 : Int} {s0 : gS} {a1 : Int} {s : gS} (h : Order_complete a1 s = some (z0, s0)) : Ct M_Order_complete g_S [.ref 37, gi a1] (J s) (QG g_S J z0 s0) := by
  refine Ct_of [some (.ref 37), some (gi a1)] (plainFor_of_name (by decide)) rfl (Nat.le_of_ble_eq_true rfl) rfl (by decide) q_rG ?_
  unfold Order_complete at h
  refine G_aload_n (g_da dt_Order_complete 0 rfl) rfl rfl ?_
  refine G_iload_n (g_da dt_Order_complete 1 rfl) rfl rfl ?_
  refine H_putI (g_da dt_Order_complete 2 rfl) sh_37 fp_4_27 rfl (hJc 37 rfl) (fun s1 e2 => ?_)
  have h := o_l h s1 e2
  refine G_aload_n (g_da dt_Order_complete 3 rfl) rfl rfl ?_
  refine G_aload_n (g_da dt_Order_complete 4 rfl) rfl rfl ?_
  refine H_getI (g_da dt_Order_complete 5 rfl) sh_37 fl_4_23 rfl (hJc 37 rfl) ?_
  refine G_if_eq (g_da dt_Order_complete 6 rfl) rfl rfl  (fun hc3 => ?_) (fun hc3 => ?_)
  · have h := o_t hc3 h
    refine G_aload_n (g_da dt_Order_complete 14 rfl) rfl rfl ?_
    refine H_getI (g_da dt_Order_complete 15 rfl) sh_37 fl_4_27 rfl (hJc 37 rfl) ?_
    exact G_subK (Order_complete_28_ok hJc h) ⟨rfl, trivial⟩
  · have h := o_f hc3 h
    refine G_aload_n (g_da dt_Order_complete 7 rfl) rfl rfl ?_
    refine H_getI (g_da dt_Order_complete 8 rfl) sh_37 fl_4_27 rfl (hJc 37 rfl) ?_
    refine G_iconst (g_da dt_Order_complete 9 rfl) ?_
    refine G_iadd (g_da dt_Order_complete 10 rfl) ?_
    refine G_iconst (g_da dt_Order_complete 11 rfl) ?_
    refine G_idiv (g_da dt_Order_complete 12 rfl) (by rw [w_2]; decide) ?_
    refine G_goto (g_da dt_Order_complete 13 rfl) rfl ?_
    exact G_subK (Order_complete_28_ok hJc h) ⟨rfl, trivial⟩
set_option maxHeartbeats 4000000 in
set_option maxRecDepth 100000 in
theorem B_run_30_ok {J : gS → gS} (hJc : g_jc J) {t0 z0 : Int} {s0 : gS}  {s : gS} (h : B_run_30 s = some (t0, z0, s0)) : G M_B_run (QX g_S J t0 z0 s0) (g_S, 0, 0) (J s) 30 [none, none, none] [] := by
  unfold B_run_30 at h
  exact G_throw 1 (g_da dt_B_run 14 rfl) (g_da dt_B_run 15 rfl) (g_da dt_B_run 16 rfl) (g_da dt_B_run 17 rfl) ex_0_74_76 (by decide) rfl rfl (q_t h)
set_option maxHeartbeats 4000000 in
set_option maxRecDepth 100000 in
theorem B_run_47_ok {J : gS → gS} (hJc : g_jc J) {t0 z0 : Int} {s0 : gS} {k47 : Int → Int → gS → gT} {k75 : gS → gT} (hk47 : ∀ (l1 l2 : Int) (s : gS), k47 l1 l2 s = some (t0, z0, s0) → G M_B_run (QX g_S J t0 z0 s0) (g_S, 0, 0) (J s) 47 [some (.ref 0), some (gi l1), some (gi l2)] []) (hk75 : ∀ (s : gS), k75 s = some (t0, z0, s0) → G M_B_run (QX g_S J t0 z0 s0) (g_S, 0, 0) (J s) 75 [some (.ref 0), none, none] [])  {l1 l2 : Int} {s : gS} (h : B_run_47 k47 k75 l1 l2 s = some (t0, z0, s0)) : G M_B_run (QX g_S J t0 z0 s0) (g_S, 0, 0) (J s) 47 [some (.ref 0), some (gi l1), some (gi l2)] [] := by
  unfold B_run_47 at h
  refine G_iload_n (g_da dt_B_run 23 rfl) rfl rfl ?_
  refine G_iload_n (g_da dt_B_run 24 rfl) rfl rfl ?_
  refine G_icmp_ge (g_da dt_B_run 25 rfl) rfl rfl rfl (fun hc10 => ?_) (fun hc10 => ?_)
  · have h := o_t hc10 h
    exact G_subK (hk75 _ h) ⟨rfl, trivial⟩
  · have h := o_f hc10 h
    refine G_aload_n (g_da dt_B_run 26 rfl) rfl rfl ?_
    refine G_getR (g_da dt_B_run 27 rfl) sh_0 fl_0_19 rfl ?_
    obtain ⟨r11, s12, hc13, h⟩ := o_b h
    refine H_cVE (Job_isUnderWay_ok hJc hc13) (g_da dt_B_run 28 rfl) lk_0_50 mv_Job_isUnderWay rfl sh_5 rfl rfl rfl rfl rfl rfl ?_
    refine G_if_eq (g_da dt_B_run 29 rfl) rfl rfl  (fun hc14 => ?_) (fun hc14 => ?_)
    · have h := o_t hc14 h
      exact G_subK (hk75 _ h) ⟨rfl, trivial⟩
    · have h := o_f hc14 h
      refine G_aload_n (g_da dt_B_run 30 rfl) rfl rfl ?_
      refine G_getR (g_da dt_B_run 31 rfl) sh_0 fl_0_19 rfl ?_
      obtain ⟨r15, s16, hc17, h⟩ := o_b h
      refine H_cVG (Job_step_ok hJc hc17) (g_da dt_B_run 32 rfl) lk_0_80 mv_Job_step rfl sh_5 rfl rfl rfl rfl rfl rfl ?_
      refine G_iinc (lv' := [_, _, _]) (g_da dt_B_run 33 rfl) rfl (Nat.le_of_ble_eq_true rfl) rfl rfl ?_
      refine G_goto (g_da dt_B_run 34 rfl) rfl ?_
      exact G_subK (hk47 _ _ _ h) ⟨rfl, ⟨rfl, ⟨rfl, trivial⟩⟩⟩
set_option maxHeartbeats 4000000 in
set_option maxRecDepth 100000 in
theorem B_run_47L_ok {J : gS → gS} (hJc : g_jc J) {t0 z0 : Int} {s0 : gS} {k75 : gS → gT} (hk75 : ∀ (s : gS), k75 s = some (t0, z0, s0) → G M_B_run (QX g_S J t0 z0 s0) (g_S, 0, 0) (J s) 75 [some (.ref 0), none, none] []) : ∀ (n : Nat) {l1 l2 : Int} {s : gS}, B_run_47L k75 n l1 l2 s = some (t0, z0, s0) → G M_B_run (QX g_S J t0 z0 s0) (g_S, 0, 0) (J s) 47 [some (.ref 0), some (gi l1), some (gi l2)] [] := by
  intro n
  induction n with
  | zero => intro _ _ _ h; cases h
  | succ n ih => intro _ _ _ h; exact B_run_47_ok hJc (fun _ _ _ h => ih h) hk75 h
set_option maxHeartbeats 4000000 in
set_option maxRecDepth 100000 in
theorem B_run_75_ok {J : gS → gS} (hJc : g_jc J) {t0 z0 : Int} {s0 : gS}  {s : gS} (h : B_run_75 s = some (t0, z0, s0)) : G M_B_run (QX g_S J t0 z0 s0) (g_S, 0, 0) (J s) 75 [some (.ref 0), none, none] [] := by
  unfold B_run_75 at h
  refine G_aload_n (g_da dt_B_run 35 rfl) rfl rfl ?_
  refine G_getR (g_da dt_B_run 36 rfl) sh_0 fl_0_19 rfl ?_
  obtain ⟨r18, s19, hc20, h⟩ := o_b h
  refine H_cVE (Job_isUnderWay_ok hJc hc20) (g_da dt_B_run 37 rfl) lk_0_50 mv_Job_isUnderWay rfl sh_5 rfl rfl rfl rfl rfl rfl ?_
  refine G_if_eq (g_da dt_B_run 38 rfl) rfl rfl  (fun hc21 => ?_) (fun hc21 => ?_)
  · have h := o_t hc21 h
    refine G_aload_n (g_da dt_B_run 41 rfl) rfl rfl ?_
    refine G_getR (g_da dt_B_run 42 rfl) sh_0 fl_0_26 rfl ?_
    refine G_aload_n (g_da dt_B_run 43 rfl) rfl rfl ?_
    refine G_getR (g_da dt_B_run 44 rfl) sh_0 fl_0_19 rfl ?_
    refine G_getR (g_da dt_B_run 45 rfl) sh_5 fl_0_83 rfl ?_
    refine H_getI (g_da dt_B_run 46 rfl) sh_34 fl_0_87 rfl (hJc 34 rfl) ?_
    obtain ⟨r22, s23, hc24, h⟩ := o_b h
    refine H_cVG (Order_complete_ok hJc hc24) (g_da dt_B_run 47 rfl) lk_0_93 mv_Order_complete rfl sh_37 rfl rfl rfl rfl rfl rfl ?_
    refine G_aload_n (g_da dt_B_run 48 rfl) rfl rfl ?_
    refine G_getR (g_da dt_B_run 49 rfl) sh_0 fl_0_19 rfl ?_
    refine H_getI (g_da dt_B_run 50 rfl) sh_5 fl_0_97 rfl (hJc 5 rfl) ?_
    refine G_if_ne (g_da dt_B_run 51 rfl) rfl rfl  (fun hc25 => ?_) (fun hc25 => ?_)
    · have h := o_f hc25 h
      refine G_iconst (g_da dt_B_run 54 rfl) ?_
      exact G_ireturnX (g_da dt_B_run 55 rfl) rfl rfl (Nat.zero_le _) (Nat.zero_le _) rfl (q_x h)
    · have h := o_t hc25 h
      refine G_iconst (g_da dt_B_run 52 rfl) ?_
      refine G_goto (g_da dt_B_run 53 rfl) rfl ?_
      exact G_ireturnX (g_da dt_B_run 55 rfl) rfl rfl (Nat.zero_le _) (Nat.zero_le _) rfl (q_x h)
  · have h := o_f hc21 h
    refine G_iconst (g_da dt_B_run 39 rfl) ?_
    exact G_ireturnX (g_da dt_B_run 40 rfl) rfl rfl (Nat.zero_le _) (Nat.zero_le _) rfl (q_x h)
set_option maxHeartbeats 4000000 in
set_option maxRecDepth 100000 in
theorem B_run_ok {J : gS → gS} (hJc : g_jc J) {t0 z0 : Int} {s0 : gS} {a1 : Int} {s : gS} (h : B_run a1 s = some (t0, z0, s0)) : G M_B_run (QX g_S J t0 z0 s0) (g_S, 0, 0) (J s) 0 [some (.ref 0), some (gi a1), none] [] := by
  unfold B_run at h
  refine G_aload_n (g_da dt_B_run 0 rfl) rfl rfl ?_
  refine G_getR (g_da dt_B_run 1 rfl) sh_0 fl_0_19 rfl ?_
  obtain ⟨r1, s2, hc3, h⟩ := o_b h
  refine H_cVE (Job_isUnderWay_ok hJc hc3) (g_da dt_B_run 2 rfl) lk_0_50 mv_Job_isUnderWay rfl sh_5 rfl rfl rfl rfl rfl rfl ?_
  refine G_if_ne (g_da dt_B_run 3 rfl) rfl rfl  (fun hc4 => ?_) (fun hc4 => ?_)
  · have h := o_f hc4 h
    refine G_iload_n (g_da dt_B_run 8 rfl) rfl rfl ?_
    refine G_iconst (g_da dt_B_run 9 rfl) ?_
    refine G_icmp_lt (g_da dt_B_run 10 rfl) rfl rfl w_1 (fun hc5 => ?_) (fun hc5 => ?_)
    · have h := o_t hc5 h
      exact G_subK (B_run_30_ok hJc h) trivial
    · have h := o_f hc5 h
      refine G_iload_n (g_da dt_B_run 11 rfl) rfl rfl ?_
      refine G_sipush (g_da dt_B_run 12 rfl) s16w_5000 ?_
      refine G_icmp_le (g_da dt_B_run 13 rfl) rfl rfl w_5000 (fun hc6 => ?_) (fun hc6 => ?_)
      · have h := o_t hc6 h
        refine G_aload_n (g_da dt_B_run 18 rfl) rfl rfl ?_
        refine G_getR (g_da dt_B_run 19 rfl) sh_0 fl_0_19 rfl ?_
        obtain ⟨r7, s8, hc9, h⟩ := o_b h
        refine H_cVG (Job_endIfOver_ok hJc hc9) (g_da dt_B_run 20 rfl) lk_0_77 mv_Job_endIfOver rfl sh_5 rfl rfl rfl rfl rfl rfl ?_
        refine G_iconst (g_da dt_B_run 21 rfl) ?_
        refine G_istore_n (lv' := [_, _, _]) (g_da dt_B_run 22 rfl) rfl (Nat.le_of_ble_eq_true rfl) rfl rfl ?_
        exact G_subK (B_run_47L_ok hJc (fun _ h => B_run_75_ok hJc h) gFu h) ⟨rfl, ⟨rfl, ⟨rfl, trivial⟩⟩⟩
      · have h := o_f hc6 h
        exact G_subK (B_run_30_ok hJc h) trivial
  · have h := o_t hc4 h
    exact G_throw 0 (g_da dt_B_run 4 rfl) (g_da dt_B_run 5 rfl) (g_da dt_B_run 6 rfl) (g_da dt_B_run 7 rfl) ex_0_71_73 (by decide) rfl rfl (q_t h)
set_option maxHeartbeats 4000000 in
set_option maxRecDepth 100000 in
theorem Machine_isSection_ok {J : gS → gS} {z0 : Int} {s0 : gS} {a0 : Int} {s : gS} (h : Machine_isSection a0 s = some (z0, s0)) : Ct M_Machine_isSection g_S [gi a0] (J s) (QE g_S J z0 s0) := by
  refine Ct_of [some (gi a0)] (plainFor_of_name (by decide)) rfl (Nat.le_of_ble_eq_true rfl) rfl (by decide) q_rE ?_
  unfold Machine_isSection at h
  refine G_iload_n (g_da dt_Machine_isSection 0 rfl) rfl rfl ?_
  refine G_if_lt (g_da dt_Machine_isSection 1 rfl) rfl rfl  (fun hc1 => ?_) (fun hc1 => ?_)
  · have h := o_t hc1 h
    refine G_iconst (g_da dt_Machine_isSection 7 rfl) ?_
    exact G_ireturn (g_da dt_Machine_isSection 8 rfl) rfl (g_bool (Or.inl w_0)).1 rfl (g_nz rfl) (q_e h)
  · have h := o_f hc1 h
    refine G_iload_n (g_da dt_Machine_isSection 2 rfl) rfl rfl ?_
    refine G_iconst (g_da dt_Machine_isSection 3 rfl) ?_
    refine G_icmp_ge (g_da dt_Machine_isSection 4 rfl) rfl rfl w_4 (fun hc2 => ?_) (fun hc2 => ?_)
    · have h := o_t hc2 h
      refine G_iconst (g_da dt_Machine_isSection 7 rfl) ?_
      exact G_ireturn (g_da dt_Machine_isSection 8 rfl) rfl (g_bool (Or.inl w_0)).1 rfl (g_nz rfl) (q_e h)
    · have h := o_f hc2 h
      refine G_iconst (g_da dt_Machine_isSection 5 rfl) ?_
      refine G_goto (g_da dt_Machine_isSection 6 rfl) rfl ?_
      exact G_ireturn (g_da dt_Machine_isSection 8 rfl) rfl (g_bool (Or.inr w_1)).1 rfl (g_nz rfl) (q_e h)
set_option maxHeartbeats 4000000 in
set_option maxRecDepth 100000 in
theorem B_section_ok {J : gS → gS} (hJc : g_jc J) {z0 : Int} {s0 : gS} {a1 a2 : Int} {s : gS} (h : B_section a1 a2 s = some (z0, s0)) : Ct M_B_section g_S [.ref 0, gi a1, gi a2] (J s) (QE g_S J z0 s0) := by
  refine Ct_of [some (.ref 0), some (gi a1), some (gi a2)] (plainFor_of_name (by decide)) rfl (Nat.le_of_ble_eq_true rfl) rfl (by decide) q_rE ?_
  unfold B_section at h
  refine G_iload_n (g_da dt_B_section 0 rfl) rfl rfl ?_
  obtain ⟨r1, s2, hc3, h⟩ := o_b h
  refine H_cSE (Machine_isSection_ok hc3) (g_da dt_B_section 1 rfl) lk_0_169 ms_Machine_isSection rfl rfl rfl rfl rfl rfl ?_
  refine G_if_ne (g_da dt_B_section 2 rfl) rfl rfl  (fun hc4 => ?_) (fun hc4 => ?_)
  · have h := o_f hc4 h
    refine G_iload_n (g_da dt_B_section 5 rfl) rfl rfl ?_
    refine G_table [(0, 36), (1, 46), (2, 56)] 74 (g_da dt_B_section 6 rfl) rfl rfl rfl ⟨fun hc5 => ?_, fun hc5 => ⟨fun hc6 => ?_, fun hc6 => ⟨fun hc7 => ?_, fun hc7 => ?_⟩⟩⟩
    · have h := o_t hc5 h
      refine G_aload_n (g_da dt_B_section 7 rfl) rfl rfl ?_
      refine G_getR (g_da dt_B_section 8 rfl) sh_0 fl_0_35 rfl ?_
      refine G_getR (g_da dt_B_section 9 rfl) sh_40 fl_0_186 rfl ?_
      refine G_iload_n (g_da dt_B_section 10 rfl) rfl rfl ?_
      obtain ⟨hb8, h⟩ := o_g h
      refine H_iaload (g_da dt_B_section 11 rfl) sh_41 (hJc 41 rfl) rfl hb8 rfl ?_
      exact G_ireturn (g_da dt_B_section 12 rfl) rfl rfl rfl (g_nz rfl) (q_e h)
    · have h := o_f hc5 h
      have h := o_t hc6 h
      refine G_aload_n (g_da dt_B_section 13 rfl) rfl rfl ?_
      refine G_getR (g_da dt_B_section 14 rfl) sh_0 fl_0_35 rfl ?_
      refine G_getR (g_da dt_B_section 15 rfl) sh_40 fl_0_189 rfl ?_
      refine G_iload_n (g_da dt_B_section 16 rfl) rfl rfl ?_
      obtain ⟨hb9, h⟩ := o_g h
      refine H_iaload (g_da dt_B_section 17 rfl) sh_42 (hJc 42 rfl) rfl hb9 rfl ?_
      exact G_ireturn (g_da dt_B_section 18 rfl) rfl rfl rfl (g_nz rfl) (q_e h)
    · have h := o_f hc5 h
      have h := o_f hc6 h
      have h := o_t hc7 h
      refine G_aload_n (g_da dt_B_section 19 rfl) rfl rfl ?_
      refine G_getR (g_da dt_B_section 20 rfl) sh_0 fl_0_35 rfl ?_
      refine G_getR (g_da dt_B_section 21 rfl) sh_40 fl_0_172 rfl ?_
      refine G_iload_n (g_da dt_B_section 22 rfl) rfl rfl ?_
      obtain ⟨hb10, h⟩ := o_g h
      refine H_zaload (g_da dt_B_section 23 rfl) sh_43 (hJc 43 rfl) rfl hb10 rfl ?_
      refine G_if_eq (g_da dt_B_section 24 rfl) rfl rfl  (fun hc11 => ?_) (fun hc11 => ?_)
      · have h := o_t hc11 h
        refine G_iconst (g_da dt_B_section 27 rfl) ?_
        exact G_ireturn (g_da dt_B_section 28 rfl) rfl rfl rfl (g_nz rfl) (q_e h)
      · have h := o_f hc11 h
        refine G_iconst (g_da dt_B_section 25 rfl) ?_
        refine G_goto (g_da dt_B_section 26 rfl) rfl ?_
        exact G_ireturn (g_da dt_B_section 28 rfl) rfl rfl rfl (g_nz rfl) (q_e h)
    · have h := o_f hc5 h
      have h := o_f hc6 h
      have h := o_f hc7 h
      refine G_iconst (g_da dt_B_section 29 rfl) ?_
      exact G_ireturn (g_da dt_B_section 30 rfl) rfl rfl rfl (g_nz rfl) (q_e h)
  · have h := o_t hc4 h
    refine G_iconst (g_da dt_B_section 3 rfl) ?_
    exact G_ireturn (g_da dt_B_section 4 rfl) rfl rfl rfl (g_nz rfl) (q_e h)
set_option maxHeartbeats 4000000 in
set_option maxRecDepth 100000 in
theorem String_isLatin1_d_ok {J : gS → gS} {z0 : Int} {s0 : gS} {s : gS} (h : String_isLatin1_d s = some (z0, s0)) : Ct M_String_isLatin1 g_S [.ref 1003] (J s) (QE g_S J z0 s0) := by
  refine Ct_of [some (.ref 1003)] (plainFor_of_name (by decide)) rfl (Nat.le_of_ble_eq_true rfl) rfl (by decide) q_rE ?_
  unfold String_isLatin1_d at h
  refine G_compact (g_da dt_String_isLatin1 0 rfl) fw_13_38 ?_
  refine G_if_eq (g_da dt_String_isLatin1 1 rfl) rfl w_1  (fun hc => absurd hc (by decide)) (fun _ => ?_)
  refine G_aload_n (g_da dt_String_isLatin1 2 rfl) rfl rfl ?_
  refine G_getSC (i := 3) (g_da dt_String_isLatin1 3 rfl) (by decide) fw_13_15 ?_
  refine G_if_ne (g_da dt_String_isLatin1 4 rfl) rfl w_0  (fun hc => absurd rfl hc) (fun _ => ?_)
  refine G_iconst (g_da dt_String_isLatin1 5 rfl) ?_
  refine G_goto (g_da dt_String_isLatin1 6 rfl) rfl ?_
  exact G_ireturn (g_da dt_String_isLatin1 8 rfl) rfl (g_bool (Or.inr w_1)).1 rfl (g_nz rfl) (q_e h)
set_option maxHeartbeats 4000000 in
set_option maxRecDepth 100000 in
theorem String_coder_d_ok {J : gS → gS} {z0 : Int} {s0 : gS} {s : gS} (h : String_coder_d s = some (z0, s0)) : Ct M_String_coder g_S [.ref 1003] (J s) (QE g_S J z0 s0) := by
  refine Ct_of [some (.ref 1003)] (plainFor_of_name (by decide)) rfl (Nat.le_of_ble_eq_true rfl) rfl (by decide) q_rE ?_
  unfold String_coder_d at h
  refine G_compact (g_da dt_String_coder 0 rfl) fw_13_38 ?_
  refine G_if_eq (g_da dt_String_coder 1 rfl) rfl w_1  (fun hc => absurd hc (by decide)) (fun _ => ?_)
  refine G_aload_n (g_da dt_String_coder 2 rfl) rfl rfl ?_
  refine G_getSC (i := 3) (g_da dt_String_coder 3 rfl) (by decide) fw_13_15 ?_
  refine G_goto (g_da dt_String_coder 4 rfl) rfl ?_
  exact G_ireturn (g_da dt_String_coder 6 rfl) rfl (by decide) rfl (g_nz rfl) (q_e h)
set_option maxHeartbeats 4000000 in
set_option maxRecDepth 100000 in
theorem String_length_d_ok {J : gS → gS} {z0 : Int} {s0 : gS} {s : gS} (h : String_length_d s = some (z0, s0)) : Ct M_String_length g_S [.ref 1003] (J s) (QE g_S J z0 s0) := by
  refine Ct_of [some (.ref 1003)] (plainFor_of_name (by decide)) rfl (Nat.le_of_ble_eq_true rfl) rfl (by decide) q_rE ?_
  unfold String_length_d at h
  refine G_aload_n (g_da dt_String_length 0 rfl) rfl rfl ?_
  refine G_getSV (i := 3) (g_da dt_String_length 1 rfl) (by decide) fw_13_9 ?_
  refine G_blen (i := 3) (z := 15) (g_da dt_String_length 2 rfl) (by decide) rfl ?_
  refine G_aload_n (g_da dt_String_length 3 rfl) rfl rfl ?_
  refine H_cKE (b := 3) (String_coder_d_ok (z0 := 0) (s0 := s) rfl) (g_da dt_String_length 4 rfl) lk_13_335 mv_String_coder rfl (by decide) rfl rfl rfl rfl rfl rfl ?_
  refine G_ishr (g_da dt_String_length 5 rfl) ?_
  exact G_ireturn (g_da dt_String_length 6 rfl) rfl rfl rfl (g_nz rfl) (q_e h)
set_option maxHeartbeats 4000000 in
set_option maxRecDepth 100000 in
theorem StringLatin1_indexOfChar_d_7_ok {J : gS → gS} {z0 : Int} {s0 : gS} {k7 : Int → Int → Int → gS → gA} (hk7 : ∀ (l3 l4 l5 : Int) (s : gS), k7 l3 l4 l5 s = some (z0, s0) → G M_StringLatin1_indexOfChar (QE g_S J z0 s0) (g_S, 0, 0) (J s) 7 [some (.ref 2003), none, none, some (gi l3), some (gi l4), some (gi l5)] [])  {l3 l4 l5 : Int} {s : gS} (h : StringLatin1_indexOfChar_d_7 k7 l3 l4 l5 s = some (z0, s0)) : G M_StringLatin1_indexOfChar (QE g_S J z0 s0) (g_S, 0, 0) (J s) 7 [some (.ref 2003), none, none, some (gi l3), some (gi l4), some (gi l5)] [] := by
  unfold StringLatin1_indexOfChar_d_7 at h
  refine G_iload (g_da dt_StringLatin1_indexOfChar 5 rfl) rfl ?_
  refine G_iload_n (g_da dt_StringLatin1_indexOfChar 6 rfl) rfl rfl ?_
  refine G_icmp_ge (g_da dt_StringLatin1_indexOfChar 7 rfl) rfl rfl rfl (fun hc3 => ?_) (fun hc3 => ?_)
  · have h := o_t hc3 h
    refine G_iconst (g_da dt_StringLatin1_indexOfChar 17 rfl) ?_
    exact G_ireturn (g_da dt_StringLatin1_indexOfChar 18 rfl) rfl rfl rfl (g_nz rfl) (q_e h)
  · have h := o_f hc3 h
    refine G_aload_n (g_da dt_StringLatin1_indexOfChar 8 rfl) rfl rfl ?_
    refine G_iload (g_da dt_StringLatin1_indexOfChar 9 rfl) rfl ?_
    obtain ⟨hb4, h⟩ := o_g h
    refine G_bald (i := 3) (g_da dt_StringLatin1_indexOfChar 10 rfl) (by decide) rfl hb4 ?_
    refine G_iload (g_da dt_StringLatin1_indexOfChar 11 rfl) rfl ?_
    refine G_icmp_ne (g_da dt_StringLatin1_indexOfChar 12 rfl) rfl rfl rfl (fun hc5 => ?_) (fun hc5 => ?_)
    · have h := o_f hc5 h
      refine G_iinc (lv' := [_, none, none, _, _, _]) (g_da dt_StringLatin1_indexOfChar 15 rfl) rfl (Nat.le_of_ble_eq_true rfl) rfl rfl ?_
      refine G_goto (g_da dt_StringLatin1_indexOfChar 16 rfl) rfl ?_
      exact G_subK (hk7 _ _ _ _ h) ⟨rfl, ⟨rfl, ⟨rfl, ⟨rfl, trivial⟩⟩⟩⟩
    · have h := o_t hc5 h
      refine G_iload (g_da dt_StringLatin1_indexOfChar 13 rfl) rfl ?_
      exact G_ireturn (g_da dt_StringLatin1_indexOfChar 14 rfl) rfl rfl rfl (g_nz rfl) (q_e h)
set_option maxHeartbeats 4000000 in
set_option maxRecDepth 100000 in
theorem StringLatin1_indexOfChar_d_7L_ok {J : gS → gS} {z0 : Int} {s0 : gS} : ∀ (n : Nat) {l3 l4 l5 : Int} {s : gS}, StringLatin1_indexOfChar_d_7L n l3 l4 l5 s = some (z0, s0) → G M_StringLatin1_indexOfChar (QE g_S J z0 s0) (g_S, 0, 0) (J s) 7 [some (.ref 2003), none, none, some (gi l3), some (gi l4), some (gi l5)] [] := by
  intro n
  induction n with
  | zero => intro _ _ _ _ h; cases h
  | succ n ih => intro _ _ _ _ h; exact StringLatin1_indexOfChar_d_7_ok (fun _ _ _ _ h => ih h) h
set_option maxHeartbeats 4000000 in
set_option maxRecDepth 100000 in
theorem StringLatin1_indexOfChar_d_ok {J : gS → gS} {z0 : Int} {s0 : gS} {a1 a2 a3 : Int} {s : gS} (h : StringLatin1_indexOfChar_d a1 a2 a3 s = some (z0, s0)) : Ct M_StringLatin1_indexOfChar g_S [.ref 2003, gi a1, gi a2, gi a3] (J s) (QE g_S J z0 s0) := by
  refine Ct_of [some (.ref 2003), some (gi a1), some (gi a2), some (gi a3), none, none] (plainFor_of_name (by decide)) rfl (Nat.le_of_ble_eq_true rfl) rfl (by decide) q_rE ?_
  unfold StringLatin1_indexOfChar_d at h
  refine G_iload_n (g_da dt_StringLatin1_indexOfChar 0 rfl) rfl rfl ?_
  refine G_i2b (g_da dt_StringLatin1_indexOfChar 1 rfl) ?_
  refine H_topi (fun v1 e2 => ?_)
  have h := o_l h v1 e2
  refine G_istore (lv' := [_, _, _, _, _, none]) (g_da dt_StringLatin1_indexOfChar 2 rfl) (Nat.le_of_ble_eq_true rfl) rfl rfl ?_
  refine G_iload_n (g_da dt_StringLatin1_indexOfChar 3 rfl) rfl rfl ?_
  refine G_istore (lv' := [_, _, _, _, _, _]) (g_da dt_StringLatin1_indexOfChar 4 rfl) (Nat.le_of_ble_eq_true rfl) rfl rfl ?_
  exact G_subK (StringLatin1_indexOfChar_d_7L_ok gFu h) ⟨rfl, ⟨rfl, ⟨rfl, ⟨rfl, trivial⟩⟩⟩⟩
set_option maxHeartbeats 4000000 in
set_option maxRecDepth 100000 in
theorem StringLatin1_indexOf_d_ok {J : gS → gS} {z0 : Int} {s0 : gS} {a1 a2 a3 : Int} {s : gS} (h : StringLatin1_indexOf_d a1 a2 a3 s = some (z0, s0)) : Ct M_StringLatin1_indexOf g_S [.ref 2003, gi a1, gi a2, gi a3] (J s) (QE g_S J z0 s0) := by
  refine Ct_of [some (.ref 2003), some (gi a1), some (gi a2), some (gi a3)] (plainFor_of_name (by decide)) rfl (Nat.le_of_ble_eq_true rfl) rfl (by decide) q_rE ?_
  unfold StringLatin1_indexOf_d at h
  refine G_iload_n (g_da dt_StringLatin1_indexOf 0 rfl) rfl rfl ?_
  obtain ⟨r1, s2, hc3, h⟩ := o_b h
  refine H_cSE (StringLatin1_canEncode_ok hc3) (g_da dt_StringLatin1_indexOf 1 rfl) lk_14_88 ms_StringLatin1_canEncode rfl rfl rfl rfl rfl rfl ?_
  refine G_if_ne (g_da dt_StringLatin1_indexOf 2 rfl) rfl rfl  (fun hc4 => ?_) (fun hc4 => ?_)
  · have h := o_f hc4 h
    refine G_iload_n (g_da dt_StringLatin1_indexOf 5 rfl) rfl rfl ?_
    refine G_iconst (g_da dt_StringLatin1_indexOf 6 rfl) ?_
    obtain ⟨r5, s6, hc7, h⟩ := o_b h
    refine H_cSE (Math_max_ok hc7) (g_da dt_StringLatin1_indexOf 7 rfl) lk_14_92 ms_Math_max rfl rfl rfl rfl rfl rfl ?_
    refine G_istore_n (lv' := [_, _, _, _]) (g_da dt_StringLatin1_indexOf 8 rfl) rfl (Nat.le_of_ble_eq_true rfl) rfl rfl ?_
    refine G_iload_n (g_da dt_StringLatin1_indexOf 9 rfl) rfl rfl ?_
    refine G_aload_n (g_da dt_StringLatin1_indexOf 10 rfl) rfl rfl ?_
    refine G_blen (i := 3) (z := 15) (g_da dt_StringLatin1_indexOf 11 rfl) (by decide) rfl ?_
    obtain ⟨r8, s9, hc10, h⟩ := o_b h
    refine H_cSE (Math_min1_ok hc10) (g_da dt_StringLatin1_indexOf 12 rfl) lk_14_38 ms_Math_min1 rfl rfl rfl rfl rfl rfl ?_
    refine G_istore_n (lv' := [_, _, _, _]) (g_da dt_StringLatin1_indexOf 13 rfl) rfl (Nat.le_of_ble_eq_true rfl) rfl rfl ?_
    refine G_iload_n (g_da dt_StringLatin1_indexOf 14 rfl) rfl rfl ?_
    refine G_iload_n (g_da dt_StringLatin1_indexOf 15 rfl) rfl rfl ?_
    refine G_icmp_lt (g_da dt_StringLatin1_indexOf 16 rfl) rfl rfl rfl (fun hc11 => ?_) (fun hc11 => ?_)
    · have h := o_t hc11 h
      refine G_aload_n (g_da dt_StringLatin1_indexOf 19 rfl) rfl rfl ?_
      refine G_iload_n (g_da dt_StringLatin1_indexOf 20 rfl) rfl rfl ?_
      refine G_iload_n (g_da dt_StringLatin1_indexOf 21 rfl) rfl rfl ?_
      refine G_iload_n (g_da dt_StringLatin1_indexOf 22 rfl) rfl rfl ?_
      obtain ⟨r12, s13, hc14, h⟩ := o_b h
      refine H_cSE (StringLatin1_indexOfChar_d_ok hc14) (g_da dt_StringLatin1_indexOf 23 rfl) lk_14_95 ms_StringLatin1_indexOfChar rfl rfl rfl rfl rfl rfl ?_
      exact G_ireturn (g_da dt_StringLatin1_indexOf 24 rfl) rfl rfl rfl (g_nz rfl) (q_e h)
    · have h := o_f hc11 h
      refine G_iconst (g_da dt_StringLatin1_indexOf 17 rfl) ?_
      exact G_ireturn (g_da dt_StringLatin1_indexOf 18 rfl) rfl rfl rfl (g_nz rfl) (q_e h)
  · have h := o_t hc4 h
    refine G_iconst (g_da dt_StringLatin1_indexOf 3 rfl) ?_
    exact G_ireturn (g_da dt_StringLatin1_indexOf 4 rfl) rfl rfl rfl (g_nz rfl) (q_e h)
set_option maxHeartbeats 4000000 in
set_option maxRecDepth 100000 in
theorem String_indexOf1_d_ok {J : gS → gS} {z0 : Int} {s0 : gS} {a1 a2 : Int} {s : gS} (h : String_indexOf1_d a1 a2 s = some (z0, s0)) : Ct M_String_indexOf1 g_S [.ref 1003, gi a1, gi a2] (J s) (QE g_S J z0 s0) := by
  refine Ct_of [some (.ref 1003), some (gi a1), some (gi a2)] (plainFor_of_name (by decide)) rfl (Nat.le_of_ble_eq_true rfl) rfl (by decide) q_rE ?_
  unfold String_indexOf1_d at h
  refine G_aload_n (g_da dt_String_indexOf1 0 rfl) rfl rfl ?_
  refine H_cKE (b := 3) (String_isLatin1_d_ok (z0 := 1) (s0 := s) rfl) (g_da dt_String_indexOf1 1 rfl) lk_13_492 mv_String_isLatin1 rfl (by decide) rfl rfl rfl rfl rfl rfl ?_
  refine G_if_eq (g_da dt_String_indexOf1 2 rfl) rfl w_1  (fun hc => absurd hc (by decide)) (fun _ => ?_)
  refine G_aload_n (g_da dt_String_indexOf1 3 rfl) rfl rfl ?_
  refine G_getSV (i := 3) (g_da dt_String_indexOf1 4 rfl) (by decide) fw_13_9 ?_
  refine G_iload_n (g_da dt_String_indexOf1 5 rfl) rfl rfl ?_
  refine G_iload_n (g_da dt_String_indexOf1 6 rfl) rfl rfl ?_
  refine G_aload_n (g_da dt_String_indexOf1 7 rfl) rfl rfl ?_
  obtain ⟨r1, s2, hc3, h⟩ := o_b h
  refine H_cKE (b := 3) (String_length_d_ok hc3) (g_da dt_String_indexOf1 8 rfl) lk_13_505 mv_String_length rfl (by decide) rfl rfl rfl rfl rfl rfl ?_
  obtain ⟨r4, s5, hc6, h⟩ := o_b h
  refine H_cSE (StringLatin1_indexOf_d_ok hc6) (g_da dt_String_indexOf1 9 rfl) lk_13_637 ms_StringLatin1_indexOf rfl rfl rfl rfl rfl rfl ?_
  refine G_goto (g_da dt_String_indexOf1 10 rfl) rfl ?_
  exact G_ireturn (g_da dt_String_indexOf1 18 rfl) rfl rfl rfl (g_nz rfl) (q_e h)
set_option maxHeartbeats 4000000 in
set_option maxRecDepth 100000 in
theorem String_indexOf_d_ok {J : gS → gS} {z0 : Int} {s0 : gS} {a1 : Int} {s : gS} (h : String_indexOf_d a1 s = some (z0, s0)) : Ct M_String_indexOf g_S [.ref 1003, gi a1] (J s) (QE g_S J z0 s0) := by
  refine Ct_of [some (.ref 1003), some (gi a1)] (plainFor_of_name (by decide)) rfl (Nat.le_of_ble_eq_true rfl) rfl (by decide) q_rE ?_
  unfold String_indexOf_d at h
  refine G_aload_n (g_da dt_String_indexOf 0 rfl) rfl rfl ?_
  refine G_iload_n (g_da dt_String_indexOf 1 rfl) rfl rfl ?_
  refine G_iconst (g_da dt_String_indexOf 2 rfl) ?_
  obtain ⟨r1, s2, hc3, h⟩ := o_b h
  refine H_cKE (b := 3) (String_indexOf1_d_ok hc3) (g_da dt_String_indexOf 3 rfl) lk_13_633 mv_String_indexOf1 rfl (by decide) rfl rfl rfl rfl rfl rfl ?_
  exact G_ireturn (g_da dt_String_indexOf 4 rfl) rfl rfl rfl (g_nz rfl) (q_e h)
set_option maxHeartbeats 4000000 in
set_option maxRecDepth 100000 in
theorem B_isOneOf_d_ok {J : gS → gS} {z0 : Int} {s0 : gS} {a1 : Int} {s : gS} (h : B_isOneOf_d a1 s = some (z0, s0)) : Ct M_B_isOneOf g_S [.ref 1003, gi a1] (J s) (QE g_S J z0 s0) := by
  refine Ct_of [some (.ref 1003), some (gi a1)] (plainFor_of_name (by decide)) rfl (Nat.le_of_ble_eq_true rfl) rfl (by decide) q_rE ?_
  unfold B_isOneOf_d at h
  refine G_aload_n (g_da dt_B_isOneOf 0 rfl) rfl rfl ?_
  refine G_iload_n (g_da dt_B_isOneOf 1 rfl) rfl rfl ?_
  refine G_i2c (g_da dt_B_isOneOf 2 rfl) ?_
  obtain ⟨r1, s2, hc3, h⟩ := o_b h
  refine H_cKE (b := 3) (String_indexOf_d_ok hc3) (g_da dt_B_isOneOf 3 rfl) lk_0_219 mv_String_indexOf rfl (by decide) rfl rfl rfl rfl rfl rfl ?_
  refine G_if_lt (g_da dt_B_isOneOf 4 rfl) rfl rfl  (fun hc4 => ?_) (fun hc4 => ?_)
  · have h := o_t hc4 h
    refine G_iconst (g_da dt_B_isOneOf 7 rfl) ?_
    exact G_ireturn (g_da dt_B_isOneOf 8 rfl) rfl (g_bool (Or.inl w_0)).1 rfl (g_nz rfl) (q_e h)
  · have h := o_f hc4 h
    refine G_iconst (g_da dt_B_isOneOf 5 rfl) ?_
    refine G_goto (g_da dt_B_isOneOf 6 rfl) rfl ?_
    exact G_ireturn (g_da dt_B_isOneOf 8 rfl) rfl (g_bool (Or.inr w_1)).1 rfl (g_nz rfl) (q_e h)
set_option maxHeartbeats 4000000 in
set_option maxRecDepth 100000 in
theorem Text_isWord_ok {J : gS → gS} {z0 : Int} {s0 : gS} {a0 : Int} {s : gS} (h : Text_isWord a0 s = some (z0, s0)) : Ct M_Text_isWord g_S [gi a0] (J s) (QE g_S J z0 s0) := by
  refine Ct_of [some (gi a0)] (plainFor_of_name (by decide)) rfl (Nat.le_of_ble_eq_true rfl) rfl (by decide) q_rE ?_
  unfold Text_isWord at h
  refine G_iload_n (g_da dt_Text_isWord 0 rfl) rfl rfl ?_
  obtain ⟨r1, s2, hc3, h⟩ := o_b h
  refine H_cSE (B_isDigit_ok hc3) (g_da dt_Text_isWord 1 rfl) lk_8_33 ms_B_isDigit rfl rfl rfl rfl rfl rfl ?_
  refine G_if_ne (g_da dt_Text_isWord 2 rfl) rfl rfl  (fun hc4 => ?_) (fun hc4 => ?_)
  · have h := o_f hc4 h
    refine G_iconst (g_da dt_Text_isWord 22 rfl) ?_
    refine G_goto (g_da dt_Text_isWord 23 rfl) rfl ?_
    exact G_ireturn (g_da dt_Text_isWord 25 rfl) rfl (g_bool (Or.inr w_1)).1 rfl (g_nz rfl) (q_e h)
  · have h := o_t hc4 h
    refine G_iload_n (g_da dt_Text_isWord 3 rfl) rfl rfl ?_
    obtain ⟨r5, s6, hc7, h⟩ := o_b h
    refine H_cSE (B_isLetter_ok hc7) (g_da dt_Text_isWord 4 rfl) lk_8_37 ms_B_isLetter rfl rfl rfl rfl rfl rfl ?_
    refine G_if_ne (g_da dt_Text_isWord 5 rfl) rfl rfl  (fun hc8 => ?_) (fun hc8 => ?_)
    · have h := o_f hc8 h
      refine G_iconst (g_da dt_Text_isWord 22 rfl) ?_
      refine G_goto (g_da dt_Text_isWord 23 rfl) rfl ?_
      exact G_ireturn (g_da dt_Text_isWord 25 rfl) rfl (g_bool (Or.inr w_1)).1 rfl (g_nz rfl) (q_e h)
    · have h := o_t hc8 h
      refine G_ldcS (g_da dt_Text_isWord 6 rfl) ld_8_59 ?_
      refine G_iload_n (g_da dt_Text_isWord 7 rfl) rfl rfl ?_
      obtain ⟨r9, s10, hc11, h⟩ := o_b h
      refine H_cSE (B_isOneOf_d_ok hc11) (g_da dt_Text_isWord 8 rfl) lk_8_61 ms_B_isOneOf rfl rfl rfl rfl rfl rfl ?_
      refine G_if_ne (g_da dt_Text_isWord 9 rfl) rfl rfl  (fun hc12 => ?_) (fun hc12 => ?_)
      · have h := o_f hc12 h
        refine G_iconst (g_da dt_Text_isWord 22 rfl) ?_
        refine G_goto (g_da dt_Text_isWord 23 rfl) rfl ?_
        exact G_ireturn (g_da dt_Text_isWord 25 rfl) rfl (g_bool (Or.inr w_1)).1 rfl (g_nz rfl) (q_e h)
      · have h := o_t hc12 h
        refine G_ldcS (g_da dt_Text_isWord 10 rfl) ld_8_65 ?_
        refine G_iload_n (g_da dt_Text_isWord 11 rfl) rfl rfl ?_
        obtain ⟨r13, s14, hc15, h⟩ := o_b h
        refine H_cSE (B_isOneOf_ok hc15) (g_da dt_Text_isWord 12 rfl) lk_8_61 ms_B_isOneOf rfl rfl rfl rfl rfl rfl ?_
        refine G_if_ne (g_da dt_Text_isWord 13 rfl) rfl rfl  (fun hc16 => ?_) (fun hc16 => ?_)
        · have h := o_f hc16 h
          refine G_iconst (g_da dt_Text_isWord 22 rfl) ?_
          refine G_goto (g_da dt_Text_isWord 23 rfl) rfl ?_
          exact G_ireturn (g_da dt_Text_isWord 25 rfl) rfl (g_bool (Or.inr w_1)).1 rfl (g_nz rfl) (q_e h)
        · have h := o_t hc16 h
          refine G_ldcS (g_da dt_Text_isWord 14 rfl) ld_8_67 ?_
          refine G_iload_n (g_da dt_Text_isWord 15 rfl) rfl rfl ?_
          obtain ⟨r17, s18, hc19, h⟩ := o_b h
          refine H_cSE (B_isOneOf_b_ok hc19) (g_da dt_Text_isWord 16 rfl) lk_8_61 ms_B_isOneOf rfl rfl rfl rfl rfl rfl ?_
          refine G_if_ne (g_da dt_Text_isWord 17 rfl) rfl rfl  (fun hc20 => ?_) (fun hc20 => ?_)
          · have h := o_f hc20 h
            refine G_iconst (g_da dt_Text_isWord 22 rfl) ?_
            refine G_goto (g_da dt_Text_isWord 23 rfl) rfl ?_
            exact G_ireturn (g_da dt_Text_isWord 25 rfl) rfl (g_bool (Or.inr w_1)).1 rfl (g_nz rfl) (q_e h)
          · have h := o_t hc20 h
            refine G_ldcS (g_da dt_Text_isWord 18 rfl) ld_8_69 ?_
            refine G_iload_n (g_da dt_Text_isWord 19 rfl) rfl rfl ?_
            obtain ⟨r21, s22, hc23, h⟩ := o_b h
            refine H_cSE (B_isOneOf_c_ok hc23) (g_da dt_Text_isWord 20 rfl) lk_8_61 ms_B_isOneOf rfl rfl rfl rfl rfl rfl ?_
            refine G_if_eq (g_da dt_Text_isWord 21 rfl) rfl rfl  (fun hc24 => ?_) (fun hc24 => ?_)
            · have h := o_t hc24 h
              refine G_iconst (g_da dt_Text_isWord 24 rfl) ?_
              exact G_ireturn (g_da dt_Text_isWord 25 rfl) rfl (g_bool (Or.inl w_0)).1 rfl (g_nz rfl) (q_e h)
            · have h := o_f hc24 h
              refine G_iconst (g_da dt_Text_isWord 22 rfl) ?_
              refine G_goto (g_da dt_Text_isWord 23 rfl) rfl ?_
              exact G_ireturn (g_da dt_Text_isWord 25 rfl) rfl (g_bool (Or.inr w_1)).1 rfl (g_nz rfl) (q_e h)
set_option maxHeartbeats 4000000 in
set_option maxRecDepth 100000 in
theorem Text_fault_123_ok {J : gS → gS} (hJc : g_jc J) {z0 : Int} {s0 : gS} {k9 : Int → Int → Int → Int → gS → gA} (hk9 : ∀ (l1 l2 l3 l4 : Int) (s : gS), k9 l1 l2 l3 l4 s = some (z0, s0) → G M_Text_fault (QE g_S J z0 s0) (g_S, 0, 0) (J s) 9 [some (.ref 1), some (gi l1), some (gi l2), some (gi l3), some (gi l4), none, none] [])  {l1 l2 l4 t0 : Int} {s : gS} (h : Text_fault_123 k9 l1 l2 l4 t0 s = some (z0, s0)) : G M_Text_fault (QE g_S J z0 s0) (g_S, 0, 0) (J s) 123 [some (.ref 1), some (gi l1), some (gi l2), none, some (gi l4), none, none] [gi t0] := by
  unfold Text_fault_123 at h
  refine G_istore_n (lv' := [_, _, _, _, _, none, none]) (g_da dt_Text_fault 66 rfl) rfl (Nat.le_of_ble_eq_true rfl) rfl rfl ?_
  refine G_iinc (lv' := [_, _, _, _, _, none, none]) (g_da dt_Text_fault 67 rfl) rfl (Nat.le_of_ble_eq_true rfl) rfl rfl ?_
  refine G_goto (g_da dt_Text_fault 68 rfl) rfl ?_
  exact G_subK (hk9 _ _ _ _ _ h) ⟨rfl, ⟨rfl, ⟨rfl, ⟨rfl, ⟨rfl, trivial⟩⟩⟩⟩⟩
set_option maxHeartbeats 4000000 in
set_option maxRecDepth 100000 in
theorem Text_fault_86_ok {J : gS → gS} (hJc : g_jc J) {z0 : Int} {s0 : gS} {k9 : Int → Int → Int → Int → gS → gA} (hk9 : ∀ (l1 l2 l3 l4 : Int) (s : gS), k9 l1 l2 l3 l4 s = some (z0, s0) → G M_Text_fault (QE g_S J z0 s0) (g_S, 0, 0) (J s) 9 [some (.ref 1), some (gi l1), some (gi l2), some (gi l3), some (gi l4), none, none] [])  {l1 l2 l4 l5 t0 : Int} {s : gS} (h : Text_fault_86 k9 l1 l2 l4 l5 t0 s = some (z0, s0)) : G M_Text_fault (QE g_S J z0 s0) (g_S, 0, 0) (J s) 86 [some (.ref 1), some (gi l1), some (gi l2), none, some (gi l4), some (gi l5), none] [gi t0] := by
  unfold Text_fault_86 at h
  refine G_istore (lv' := [_, _, _, none, _, _, _]) (g_da dt_Text_fault 47 rfl) (Nat.le_of_ble_eq_true rfl) rfl rfl ?_
  refine G_iload (g_da dt_Text_fault 48 rfl) rfl ?_
  refine G_if_eq (g_da dt_Text_fault 49 rfl) rfl rfl  (fun hc17 => ?_) (fun hc17 => ?_)
  · have h := o_t hc17 h
    refine G_iload (g_da dt_Text_fault 58 rfl) rfl ?_
    exact G_ireturn (g_da dt_Text_fault 59 rfl) rfl rfl rfl (g_nz rfl) (q_e h)
  · have h := o_f hc17 h
    refine G_iload_n (g_da dt_Text_fault 50 rfl) rfl rfl ?_
    refine G_iconst (g_da dt_Text_fault 51 rfl) ?_
    refine G_icmp_gt (g_da dt_Text_fault 52 rfl) rfl rfl w_5 (fun hc18 => ?_) (fun hc18 => ?_)
    · have h := o_t hc18 h
      refine G_iload (g_da dt_Text_fault 58 rfl) rfl ?_
      exact G_ireturn (g_da dt_Text_fault 59 rfl) rfl rfl rfl (g_nz rfl) (q_e h)
    · have h := o_f hc18 h
      refine G_iload_n (g_da dt_Text_fault 53 rfl) rfl rfl ?_
      refine G_if_lt (g_da dt_Text_fault 54 rfl) rfl rfl  (fun hc19 => ?_) (fun hc19 => ?_)
      · have h := o_t hc19 h
        refine G_iload (g_da dt_Text_fault 58 rfl) rfl ?_
        exact G_ireturn (g_da dt_Text_fault 59 rfl) rfl rfl rfl (g_nz rfl) (q_e h)
      · have h := o_f hc19 h
        refine G_iload_n (g_da dt_Text_fault 55 rfl) rfl rfl ?_
        refine G_bipush (g_da dt_Text_fault 56 rfl) b8w_8 ?_
        refine G_icmp_le (g_da dt_Text_fault 57 rfl) rfl rfl w_8 (fun hc20 => ?_) (fun hc20 => ?_)
        · have h := o_t hc20 h
          refine G_iload (g_da dt_Text_fault 60 rfl) rfl ?_
          refine G_bipush (g_da dt_Text_fault 61 rfl) b8w_58 ?_
          refine G_icmp_ne (g_da dt_Text_fault 62 rfl) rfl rfl w_58 (fun hc21 => ?_) (fun hc21 => ?_)
          · have h := o_f hc21 h
            refine G_iconst (g_da dt_Text_fault 65 rfl) ?_
            exact G_subK (Text_fault_123_ok hJc hk9 h) ⟨rfl, ⟨rfl, ⟨rfl, ⟨rfl, trivial⟩⟩⟩⟩
          · have h := o_t hc21 h
            refine G_iconst (g_da dt_Text_fault 63 rfl) ?_
            refine G_goto (g_da dt_Text_fault 64 rfl) rfl ?_
            exact G_subK (Text_fault_123_ok hJc hk9 h) ⟨rfl, ⟨rfl, ⟨rfl, ⟨rfl, trivial⟩⟩⟩⟩
        · have h := o_f hc20 h
          refine G_iload (g_da dt_Text_fault 58 rfl) rfl ?_
          exact G_ireturn (g_da dt_Text_fault 59 rfl) rfl rfl rfl (g_nz rfl) (q_e h)
set_option maxHeartbeats 4000000 in
set_option maxRecDepth 100000 in
theorem Text_fault_67_ok {J : gS → gS} (hJc : g_jc J) {z0 : Int} {s0 : gS} {k9 : Int → Int → Int → Int → gS → gA} (hk9 : ∀ (l1 l2 l3 l4 : Int) (s : gS), k9 l1 l2 l3 l4 s = some (z0, s0) → G M_Text_fault (QE g_S J z0 s0) (g_S, 0, 0) (J s) 9 [some (.ref 1), some (gi l1), some (gi l2), some (gi l3), some (gi l4), none, none] [])  {l2 l3 l4 l5 t0 t1 : Int} {s : gS} (h : Text_fault_67 k9 l2 l3 l4 l5 t0 t1 s = some (z0, s0)) : G M_Text_fault (QE g_S J z0 s0) (g_S, 0, 0) (J s) 67 [some (.ref 1), none, some (gi l2), some (gi l3), some (gi l4), some (gi l5), none] [gi t1, gi t0] := by
  unfold Text_fault_67 at h
  refine G_iadd (g_da dt_Text_fault 38 rfl) ?_
  refine H_topi (fun v11 e12 => ?_)
  have h := o_l h v11 e12
  refine G_istore_n (lv' := [_, _, _, _, _, _, none]) (g_da dt_Text_fault 39 rfl) rfl (Nat.le_of_ble_eq_true rfl) rfl rfl ?_
  refine G_iload_n (g_da dt_Text_fault 40 rfl) rfl rfl ?_
  refine G_if_eq (g_da dt_Text_fault 41 rfl) rfl rfl  (fun hc13 => ?_) (fun hc13 => ?_)
  · have h := o_t hc13 h
    refine G_iload (g_da dt_Text_fault 45 rfl) rfl ?_
    obtain ⟨r14, s15, hc16, h⟩ := o_b h
    refine H_cSE (Text_isWord_ok hc16) (g_da dt_Text_fault 46 rfl) lk_8_40 ms_Text_isWord rfl rfl rfl rfl rfl rfl ?_
    exact G_subK (Text_fault_86_ok hJc hk9 h) ⟨rfl, ⟨rfl, ⟨rfl, ⟨rfl, ⟨rfl, trivial⟩⟩⟩⟩⟩
  · have h := o_f hc13 h
    refine G_iload (g_da dt_Text_fault 42 rfl) rfl ?_
    obtain ⟨r22, s23, hc24, h⟩ := o_b h
    refine H_cSE (B_isLetter_ok hc24) (g_da dt_Text_fault 43 rfl) lk_8_37 ms_B_isLetter rfl rfl rfl rfl rfl rfl ?_
    refine G_goto (g_da dt_Text_fault 44 rfl) rfl ?_
    exact G_subK (Text_fault_86_ok hJc hk9 h) ⟨rfl, ⟨rfl, ⟨rfl, ⟨rfl, ⟨rfl, trivial⟩⟩⟩⟩⟩
set_option maxHeartbeats 4000000 in
set_option maxRecDepth 100000 in
theorem Text_fault_42_ok {J : gS → gS} (hJc : g_jc J) {z0 : Int} {s0 : gS} {k9 : Int → Int → Int → Int → gS → gA} (hk9 : ∀ (l1 l2 l3 l4 : Int) (s : gS), k9 l1 l2 l3 l4 s = some (z0, s0) → G M_Text_fault (QE g_S J z0 s0) (g_S, 0, 0) (J s) 9 [some (.ref 1), some (gi l1), some (gi l2), some (gi l3), some (gi l4), none, none] [])  {l1 l3 l4 l5 t0 : Int} {s : gS} (h : Text_fault_42 k9 l1 l3 l4 l5 t0 s = some (z0, s0)) : G M_Text_fault (QE g_S J z0 s0) (g_S, 0, 0) (J s) 42 [some (.ref 1), some (gi l1), none, some (gi l3), some (gi l4), some (gi l5), none] [gi t0] := by
  unfold Text_fault_42 at h
  refine G_istore_n (lv' := [_, _, _, _, _, _, none]) (g_da dt_Text_fault 25 rfl) rfl (Nat.le_of_ble_eq_true rfl) rfl rfl ?_
  refine G_iload_n (g_da dt_Text_fault 26 rfl) rfl rfl ?_
  refine G_iload (g_da dt_Text_fault 27 rfl) rfl ?_
  refine G_bipush (g_da dt_Text_fault 28 rfl) b8w_123 ?_
  refine G_icmp_ne (g_da dt_Text_fault 29 rfl) rfl rfl w_123 (fun hc9 => ?_) (fun hc9 => ?_)
  · have h := o_f hc9 h
    refine G_iload (g_da dt_Text_fault 32 rfl) rfl ?_
    refine G_bipush (g_da dt_Text_fault 33 rfl) b8w_125 ?_
    refine G_icmp_ne (g_da dt_Text_fault 34 rfl) rfl rfl w_125 (fun hc10 => ?_) (fun hc10 => ?_)
    · have h := o_f hc10 h
      refine G_iconst (g_da dt_Text_fault 37 rfl) ?_
      exact G_subK (Text_fault_67_ok hJc hk9 h) ⟨rfl, ⟨rfl, ⟨rfl, ⟨rfl, ⟨rfl, trivial⟩⟩⟩⟩⟩
    · have h := o_t hc10 h
      refine G_iconst (g_da dt_Text_fault 35 rfl) ?_
      refine G_goto (g_da dt_Text_fault 36 rfl) rfl ?_
      exact G_subK (Text_fault_67_ok hJc hk9 h) ⟨rfl, ⟨rfl, ⟨rfl, ⟨rfl, ⟨rfl, trivial⟩⟩⟩⟩⟩
  · have h := o_t hc9 h
    refine G_iconst (g_da dt_Text_fault 30 rfl) ?_
    refine G_goto (g_da dt_Text_fault 31 rfl) rfl ?_
    exact G_subK (Text_fault_67_ok hJc hk9 h) ⟨rfl, ⟨rfl, ⟨rfl, ⟨rfl, ⟨rfl, trivial⟩⟩⟩⟩⟩
set_option maxHeartbeats 4000000 in
set_option maxRecDepth 100000 in
theorem Text_fault_9_ok {J : gS → gS} (hJc : g_jc J) {z0 : Int} {s0 : gS} {k9 : Int → Int → Int → Int → gS → gA} {k130 : Int → Int → gS → gA} (hk9 : ∀ (l1 l2 l3 l4 : Int) (s : gS), k9 l1 l2 l3 l4 s = some (z0, s0) → G M_Text_fault (QE g_S J z0 s0) (g_S, 0, 0) (J s) 9 [some (.ref 1), some (gi l1), some (gi l2), some (gi l3), some (gi l4), none, none] []) (hk130 : ∀ (l1 l3 : Int) (s : gS), k130 l1 l3 s = some (z0, s0) → G M_Text_fault (QE g_S J z0 s0) (g_S, 0, 0) (J s) 130 [some (.ref 1), some (gi l1), none, some (gi l3), none, none, none] [])  {l1 l2 l3 l4 : Int} {s : gS} (h : Text_fault_9 k9 k130 l1 l2 l3 l4 s = some (z0, s0)) : G M_Text_fault (QE g_S J z0 s0) (g_S, 0, 0) (J s) 9 [some (.ref 1), some (gi l1), some (gi l2), some (gi l3), some (gi l4), none, none] [] := by
  unfold Text_fault_9 at h
  refine G_iload (g_da dt_Text_fault 8 rfl) rfl ?_
  refine G_aload_n (g_da dt_Text_fault 9 rfl) rfl rfl ?_
  refine H_getI (g_da dt_Text_fault 10 rfl) sh_1 fl_8_21 rfl (hJc 1 rfl) ?_
  refine G_icmp_ge (g_da dt_Text_fault 11 rfl) rfl rfl rfl (fun hc1 => ?_) (fun hc1 => ?_)
  · have h := o_t hc1 h
    exact G_subK (hk130 _ _ _ h) ⟨rfl, ⟨rfl, ⟨rfl, trivial⟩⟩⟩
  · have h := o_f hc1 h
    refine G_aload_n (g_da dt_Text_fault 12 rfl) rfl rfl ?_
    refine G_getR (g_da dt_Text_fault 13 rfl) sh_1 fl_8_9 rfl ?_
    refine G_iload (g_da dt_Text_fault 14 rfl) rfl ?_
    obtain ⟨hb2, h⟩ := o_g h
    refine H_iaload (g_da dt_Text_fault 15 rfl) sh_2 (hJc 2 rfl) rfl hb2 rfl ?_
    refine H_topi (fun v3 e4 => ?_)
    have h := o_l h v3 e4
    refine G_istore (lv' := [_, _, _, _, _, _, none]) (g_da dt_Text_fault 16 rfl) (Nat.le_of_ble_eq_true rfl) rfl rfl ?_
    refine G_iload (g_da dt_Text_fault 17 rfl) rfl ?_
    obtain ⟨r5, s6, hc7, h⟩ := o_b h
    refine H_cSE (B_isDigit_ok hc7) (g_da dt_Text_fault 18 rfl) lk_8_33 ms_B_isDigit rfl rfl rfl rfl rfl rfl ?_
    refine G_if_eq (g_da dt_Text_fault 19 rfl) rfl rfl  (fun hc8 => ?_) (fun hc8 => ?_)
    · have h := o_t hc8 h
      refine G_iconst (g_da dt_Text_fault 24 rfl) ?_
      exact G_subK (Text_fault_42_ok hJc hk9 h) ⟨rfl, ⟨rfl, ⟨rfl, ⟨rfl, ⟨rfl, trivial⟩⟩⟩⟩⟩
    · have h := o_f hc8 h
      refine G_iload_n (g_da dt_Text_fault 20 rfl) rfl rfl ?_
      refine G_iconst (g_da dt_Text_fault 21 rfl) ?_
      refine G_iadd (g_da dt_Text_fault 22 rfl) ?_
      refine G_goto (g_da dt_Text_fault 23 rfl) rfl ?_
      exact G_subK (Text_fault_42_ok hJc hk9 h) ⟨rfl, ⟨rfl, ⟨rfl, ⟨rfl, ⟨rfl, trivial⟩⟩⟩⟩⟩
set_option maxHeartbeats 4000000 in
set_option maxRecDepth 100000 in
theorem Text_fault_9L_ok {J : gS → gS} (hJc : g_jc J) {z0 : Int} {s0 : gS} {k130 : Int → Int → gS → gA} (hk130 : ∀ (l1 l3 : Int) (s : gS), k130 l1 l3 s = some (z0, s0) → G M_Text_fault (QE g_S J z0 s0) (g_S, 0, 0) (J s) 130 [some (.ref 1), some (gi l1), none, some (gi l3), none, none, none] []) : ∀ (n : Nat) {l1 l2 l3 l4 : Int} {s : gS}, Text_fault_9L k130 n l1 l2 l3 l4 s = some (z0, s0) → G M_Text_fault (QE g_S J z0 s0) (g_S, 0, 0) (J s) 9 [some (.ref 1), some (gi l1), some (gi l2), some (gi l3), some (gi l4), none, none] [] := by
  intro n
  induction n with
  | zero => intro _ _ _ _ _ h; cases h
  | succ n ih => intro _ _ _ _ _ h; exact Text_fault_9_ok hJc (fun _ _ _ _ _ h => ih h) hk130 h
set_option maxHeartbeats 4000000 in
set_option maxRecDepth 100000 in
theorem Text_fault_130_ok {J : gS → gS} (hJc : g_jc J) {z0 : Int} {s0 : gS}  {l1 l3 : Int} {s : gS} (h : Text_fault_130 l1 l3 s = some (z0, s0)) : G M_Text_fault (QE g_S J z0 s0) (g_S, 0, 0) (J s) 130 [some (.ref 1), some (gi l1), none, some (gi l3), none, none, none] [] := by
  unfold Text_fault_130 at h
  refine G_iload_n (g_da dt_Text_fault 69 rfl) rfl rfl ?_
  refine G_if_gt (g_da dt_Text_fault 70 rfl) rfl rfl  (fun hc25 => ?_) (fun hc25 => ?_)
  · have h := o_t hc25 h
    refine G_aload_n (g_da dt_Text_fault 73 rfl) rfl rfl ?_
    refine H_getI (g_da dt_Text_fault 74 rfl) sh_1 fl_8_21 rfl (hJc 1 rfl) ?_
    refine G_goto (g_da dt_Text_fault 75 rfl) rfl ?_
    exact G_ireturn (g_da dt_Text_fault 77 rfl) rfl rfl rfl (g_nz rfl) (q_e h)
  · have h := o_f hc25 h
    refine G_iload_n (g_da dt_Text_fault 71 rfl) rfl rfl ?_
    refine G_if_eq (g_da dt_Text_fault 72 rfl) rfl rfl  (fun hc26 => ?_) (fun hc26 => ?_)
    · have h := o_t hc26 h
      refine G_iconst (g_da dt_Text_fault 76 rfl) ?_
      exact G_ireturn (g_da dt_Text_fault 77 rfl) rfl rfl rfl (g_nz rfl) (q_e h)
    · have h := o_f hc26 h
      refine G_aload_n (g_da dt_Text_fault 73 rfl) rfl rfl ?_
      refine H_getI (g_da dt_Text_fault 74 rfl) sh_1 fl_8_21 rfl (hJc 1 rfl) ?_
      refine G_goto (g_da dt_Text_fault 75 rfl) rfl ?_
      exact G_ireturn (g_da dt_Text_fault 77 rfl) rfl rfl rfl (g_nz rfl) (q_e h)
set_option maxHeartbeats 4000000 in
set_option maxRecDepth 100000 in
theorem Text_fault_ok {J : gS → gS} (hJc : g_jc J) {z0 : Int} {s0 : gS} {s : gS} (h : Text_fault s = some (z0, s0)) : Ct M_Text_fault g_S [.ref 1] (J s) (QE g_S J z0 s0) := by
  refine Ct_of [some (.ref 1), none, none, none, none, none, none] (plainFor_of_name (by decide)) rfl (Nat.le_of_ble_eq_true rfl) rfl (by decide) q_rE ?_
  unfold Text_fault at h
  refine G_iconst (g_da dt_Text_fault 0 rfl) ?_
  refine G_istore_n (lv' := [_, _, none, none, none, none, none]) (g_da dt_Text_fault 1 rfl) rfl (Nat.le_of_ble_eq_true rfl) rfl rfl ?_
  refine G_iconst (g_da dt_Text_fault 2 rfl) ?_
  refine G_istore_n (lv' := [_, _, _, none, none, none, none]) (g_da dt_Text_fault 3 rfl) rfl (Nat.le_of_ble_eq_true rfl) rfl rfl ?_
  refine G_iconst (g_da dt_Text_fault 4 rfl) ?_
  refine G_istore_n (lv' := [_, _, _, _, none, none, none]) (g_da dt_Text_fault 5 rfl) rfl (Nat.le_of_ble_eq_true rfl) rfl rfl ?_
  refine G_iconst (g_da dt_Text_fault 6 rfl) ?_
  refine G_istore (lv' := [_, _, _, _, _, none, none]) (g_da dt_Text_fault 7 rfl) (Nat.le_of_ble_eq_true rfl) rfl rfl ?_
  exact G_subK (Text_fault_9L_ok hJc (fun _ _ _ h => Text_fault_130_ok hJc h) gFu h) ⟨rfl, ⟨rfl, ⟨rfl, ⟨rfl, ⟨rfl, trivial⟩⟩⟩⟩⟩
