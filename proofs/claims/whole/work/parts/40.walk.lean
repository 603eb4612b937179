set_option maxHeartbeats 4000000 in
set_option maxRecDepth 100000 in
theorem Pages_isKept_ok {J : gS → gS} (hJc : g_jc J) {z0 : Int} {s0 : gS} {a1 : Int} {s : gS} (h : Pages_isKept a1 s = some (z0, s0)) : Ct M_Pages_isKept g_S [.ref 34, gi a1] (J s) (QE g_S J z0 s0) := by
  refine Ct_of [some (.ref 34), some (gi a1)] (plainFor_of_name (by decide)) rfl (Nat.le_of_ble_eq_true rfl) rfl (by decide) q_rE ?_
  unfold Pages_isKept at h
  refine G_iload_n (g_da dt_Pages_isKept 0 rfl) rfl rfl ?_
  refine G_if_lt (g_da dt_Pages_isKept 1 rfl) rfl rfl  (fun hc1 => ?_) (fun hc1 => ?_)
  · have h := o_t hc1 h
    refine G_iconst (g_da dt_Pages_isKept 8 rfl) ?_
    exact G_ireturn (g_da dt_Pages_isKept 9 rfl) rfl (g_bool (Or.inl w_0)).1 rfl (g_nz rfl) (q_e h)
  · have h := o_f hc1 h
    refine G_iload_n (g_da dt_Pages_isKept 2 rfl) rfl rfl ?_
    refine G_aload_n (g_da dt_Pages_isKept 3 rfl) rfl rfl ?_
    refine H_getI (g_da dt_Pages_isKept 4 rfl) sh_34 fl_1_18 rfl (hJc 34 rfl) ?_
    refine G_icmp_ge (g_da dt_Pages_isKept 5 rfl) rfl rfl rfl (fun hc2 => ?_) (fun hc2 => ?_)
    · have h := o_t hc2 h
      refine G_iconst (g_da dt_Pages_isKept 8 rfl) ?_
      exact G_ireturn (g_da dt_Pages_isKept 9 rfl) rfl (g_bool (Or.inl w_0)).1 rfl (g_nz rfl) (q_e h)
    · have h := o_f hc2 h
      refine G_iconst (g_da dt_Pages_isKept 6 rfl) ?_
      refine G_goto (g_da dt_Pages_isKept 7 rfl) rfl ?_
      exact G_ireturn (g_da dt_Pages_isKept 9 rfl) rfl (g_bool (Or.inr w_1)).1 rfl (g_nz rfl) (q_e h)
set_option maxHeartbeats 4000000 in
set_option maxRecDepth 100000 in
theorem Pages_line_ok {J : gS → gS} (hJc : g_jc J) {z0 : Int} {s0 : gS} {a1 a2 : Int} {s : gS} (h : Pages_line a1 a2 s = some (z0, s0)) : Ct M_Pages_line g_S [.ref 34, gi a1, gi a2] (J s) (QF g_S J z0 s0) := by
  refine Ct_of [some (.ref 34), some (gi a1), some (gi a2)] (plainFor_of_name (by decide)) rfl (Nat.le_of_ble_eq_true rfl) rfl (by decide) q_rF ?_
  unfold Pages_line at h
  refine G_iload_n (g_da dt_Pages_line 0 rfl) rfl rfl ?_
  refine G_if_lt (g_da dt_Pages_line 1 rfl) rfl rfl  (fun hc1 => ?_) (fun hc1 => ?_)
  · have h := o_t hc1 h
    refine G_lconst (z := 0) (g_da dt_Pages_line 5 rfl) rfl ?_
    exact G_lreturn (g_da dt_Pages_line 6 rfl) rfl rfl (g_nz rfl) (q_f h)
  · have h := o_f hc1 h
    refine G_iload_n (g_da dt_Pages_line 2 rfl) rfl rfl ?_
    refine G_bipush (g_da dt_Pages_line 3 rfl) b8w_48 ?_
    refine G_icmp_lt (g_da dt_Pages_line 4 rfl) rfl rfl w_48 (fun hc2 => ?_) (fun hc2 => ?_)
    · have h := o_t hc2 h
      refine G_aload_n (g_da dt_Pages_line 7 rfl) rfl rfl ?_
      refine G_iload_n (g_da dt_Pages_line 8 rfl) rfl rfl ?_
      obtain ⟨r3, s4, hc5, h⟩ := o_b h
      refine H_cVE (Pages_isKept_ok hJc hc5) (g_da dt_Pages_line 9 rfl) lk_1_25 mv_Pages_isKept rfl sh_34 rfl rfl rfl rfl rfl rfl ?_
      refine G_if_eq (g_da dt_Pages_line 10 rfl) rfl rfl  (fun hc6 => ?_) (fun hc6 => ?_)
      · have h := o_t hc6 h
        refine G_iload_n (g_da dt_Pages_line 20 rfl) rfl rfl ?_
        refine G_iconst (g_da dt_Pages_line 21 rfl) ?_
        refine G_icmp_ne (g_da dt_Pages_line 22 rfl) rfl rfl w_m1 (fun hc7 => ?_) (fun hc7 => ?_)
        · have h := o_f hc7 h
          refine G_lconst (z := 0) (g_da dt_Pages_line 28 rfl) rfl ?_
          exact G_lreturn (g_da dt_Pages_line 29 rfl) rfl rfl (g_nz rfl) (q_f h)
        · have h := o_t hc7 h
          refine G_aload_n (g_da dt_Pages_line 23 rfl) rfl rfl ?_
          refine G_getR (g_da dt_Pages_line 24 rfl) sh_34 fl_1_15 rfl ?_
          refine G_iload_n (g_da dt_Pages_line 25 rfl) rfl rfl ?_
          obtain ⟨hb8, h⟩ := o_g h
          refine H_laload (g_da dt_Pages_line 26 rfl) sh_36 (hJc 36 rfl) rfl hb8 rfl ?_
          refine G_goto (g_da dt_Pages_line 27 rfl) rfl ?_
          exact G_lreturn (g_da dt_Pages_line 29 rfl) rfl rfl (g_nz rfl) (q_f h)
      · have h := o_f hc6 h
        refine G_aload_n (g_da dt_Pages_line 11 rfl) rfl rfl ?_
        refine G_getR (g_da dt_Pages_line 12 rfl) sh_34 fl_1_9 rfl ?_
        refine G_iload_n (g_da dt_Pages_line 13 rfl) rfl rfl ?_
        refine G_bipush (g_da dt_Pages_line 14 rfl) b8w_48 ?_
        refine G_imul (g_da dt_Pages_line 15 rfl) ?_
        refine G_iload_n (g_da dt_Pages_line 16 rfl) rfl rfl ?_
        refine G_iadd (g_da dt_Pages_line 17 rfl) ?_
        obtain ⟨hb9, h⟩ := o_g h
        refine H_laload (g_da dt_Pages_line 18 rfl) sh_35 (hJc 35 rfl) rfl hb9 rfl ?_
        refine G_goto (g_da dt_Pages_line 19 rfl) rfl ?_
        exact G_lreturn (g_da dt_Pages_line 29 rfl) rfl rfl (g_nz rfl) (q_f h)
    · have h := o_f hc2 h
      refine G_lconst (z := 0) (g_da dt_Pages_line 5 rfl) rfl ?_
      exact G_lreturn (g_da dt_Pages_line 6 rfl) rfl rfl (g_nz rfl) (q_f h)
set_option maxHeartbeats 4000000 in
set_option maxRecDepth 100000 in
theorem Packer_linesAlike_30_ok {J : gS → gS} (hJc : g_jc J) {z0 : Int} {s0 : gS} {k30 : Int → Int → Int → Int → Int → gS → gA} (hk30 : ∀ (l1 l3 l4 l5 l7 : Int) (s : gS), k30 l1 l3 l4 l5 l7 s = some (z0, s0) → G M_Packer_linesAlike (QE g_S J z0 s0) (g_S, 0, 0) (J s) 30 [some (.ref 34), some (gi l1), none, some (gi l3), some (gi l4), some (gl l5), none, some (gi l7)] [])  {l1 l3 l4 l5 l7 : Int} {s : gS} (h : Packer_linesAlike_30 k30 l1 l3 l4 l5 l7 s = some (z0, s0)) : G M_Packer_linesAlike (QE g_S J z0 s0) (g_S, 0, 0) (J s) 30 [some (.ref 34), some (gi l1), none, some (gi l3), some (gi l4), some (gl l5), none, some (gi l7)] [] := by
  unfold Packer_linesAlike_30 at h
  refine G_iload (g_da dt_Packer_linesAlike 19 rfl) rfl ?_
  refine G_bipush (g_da dt_Packer_linesAlike 20 rfl) b8w_8 ?_
  refine G_icmp_ge (g_da dt_Packer_linesAlike 21 rfl) rfl rfl w_8 (fun hc7 => ?_) (fun hc7 => ?_)
  · have h := o_t hc7 h
    refine G_iload (g_da dt_Packer_linesAlike 33 rfl) rfl ?_
    refine G_iload_n (g_da dt_Packer_linesAlike 34 rfl) rfl rfl ?_
    refine G_isub (g_da dt_Packer_linesAlike 35 rfl) ?_
    exact G_ireturn (g_da dt_Packer_linesAlike 36 rfl) rfl rfl rfl (g_nz rfl) (q_e h)
  · have h := o_f hc7 h
    refine G_aload_n (g_da dt_Packer_linesAlike 22 rfl) rfl rfl ?_
    refine G_iload_n (g_da dt_Packer_linesAlike 23 rfl) rfl rfl ?_
    refine G_iload (g_da dt_Packer_linesAlike 24 rfl) rfl ?_
    refine G_iload (g_da dt_Packer_linesAlike 25 rfl) rfl ?_
    refine G_iadd (g_da dt_Packer_linesAlike 26 rfl) ?_
    obtain ⟨r8, s9, hc10, h⟩ := o_b h
    refine H_cVF (Pages_line_ok hJc hc10) (g_da dt_Packer_linesAlike 27 rfl) lk_2_30 mv_Pages_line rfl sh_34 rfl rfl rfl rfl rfl rfl ?_
    refine G_lload (g_da dt_Packer_linesAlike 28 rfl) rfl ?_
    refine G_lcmp (g_da dt_Packer_linesAlike 29 rfl) ?_
    refine G_if_ne (g_da dt_Packer_linesAlike 30 rfl) rfl rfl  (fun hc11 => ?_) (fun hc11 => ?_)
    · have h := o_f hc11 h
      refine G_iload (g_da dt_Packer_linesAlike 33 rfl) rfl ?_
      refine G_iload_n (g_da dt_Packer_linesAlike 34 rfl) rfl rfl ?_
      refine G_isub (g_da dt_Packer_linesAlike 35 rfl) ?_
      exact G_ireturn (g_da dt_Packer_linesAlike 36 rfl) rfl rfl rfl (g_nz rfl) (q_e h)
    · have h := o_t hc11 h
      refine G_iinc (lv' := [_, _, none, _, _, _, none, _]) (g_da dt_Packer_linesAlike 31 rfl) rfl (Nat.le_of_ble_eq_true rfl) rfl rfl ?_
      refine G_goto (g_da dt_Packer_linesAlike 32 rfl) rfl ?_
      exact G_subK (hk30 _ _ _ _ _ _ h) ⟨rfl, ⟨rfl, ⟨rfl, ⟨rfl, ⟨rfl, ⟨rfl, trivial⟩⟩⟩⟩⟩⟩
set_option maxHeartbeats 4000000 in
set_option maxRecDepth 100000 in
theorem Packer_linesAlike_30L_ok {J : gS → gS} (hJc : g_jc J) {z0 : Int} {s0 : gS} : ∀ (n : Nat) {l1 l3 l4 l5 l7 : Int} {s : gS}, Packer_linesAlike_30L n l1 l3 l4 l5 l7 s = some (z0, s0) → G M_Packer_linesAlike (QE g_S J z0 s0) (g_S, 0, 0) (J s) 30 [some (.ref 34), some (gi l1), none, some (gi l3), some (gi l4), some (gl l5), none, some (gi l7)] [] := by
  intro n
  induction n with
  | zero => intro _ _ _ _ _ _ h; cases h
  | succ n ih => intro _ _ _ _ _ _ h; exact Packer_linesAlike_30_ok hJc (fun _ _ _ _ _ _ h => ih h) h
set_option maxHeartbeats 4000000 in
set_option maxRecDepth 100000 in
theorem Packer_linesAlike_25_ok {J : gS → gS} (hJc : g_jc J) {z0 : Int} {s0 : gS}  {l1 l3 l4 t0 : Int} {s : gS} (h : Packer_linesAlike_25 l1 l3 l4 t0 s = some (z0, s0)) : G M_Packer_linesAlike (QE g_S J z0 s0) (g_S, 0, 0) (J s) 25 [some (.ref 34), some (gi l1), none, some (gi l3), some (gi l4), none, none, none] [gl t0] := by
  unfold Packer_linesAlike_25 at h
  refine G_lstore (lv' := [_, _, none, _, _, _, none, none]) (g_da dt_Packer_linesAlike 16 rfl) (Nat.le_of_ble_eq_true rfl) rfl rfl ?_
  refine G_iload_n (g_da dt_Packer_linesAlike 17 rfl) rfl rfl ?_
  refine G_istore (lv' := [_, _, none, _, _, _, none, _]) (g_da dt_Packer_linesAlike 18 rfl) (Nat.le_of_ble_eq_true rfl) rfl rfl ?_
  exact G_subK (Packer_linesAlike_30L_ok hJc gFu h) ⟨rfl, ⟨rfl, ⟨rfl, ⟨rfl, ⟨rfl, ⟨rfl, trivial⟩⟩⟩⟩⟩⟩
set_option maxHeartbeats 4000000 in
set_option maxRecDepth 100000 in
theorem Packer_linesAlike_ok {J : gS → gS} (hJc : g_jc J) {z0 : Int} {s0 : gS} {a1 a2 a3 : Int} {s : gS} (h : Packer_linesAlike a1 a2 a3 s = some (z0, s0)) : Ct M_Packer_linesAlike g_S [.ref 34, gi a1, gi a2, gi a3] (J s) (QE g_S J z0 s0) := by
  refine Ct_of [some (.ref 34), some (gi a1), some (gi a2), some (gi a3), none, none, none, none] (plainFor_of_name (by decide)) rfl (Nat.le_of_ble_eq_true rfl) rfl (by decide) q_rE ?_
  unfold Packer_linesAlike at h
  refine G_iload_n (g_da dt_Packer_linesAlike 0 rfl) rfl rfl ?_
  refine G_bipush (g_da dt_Packer_linesAlike 1 rfl) b8w_8 ?_
  refine G_imul (g_da dt_Packer_linesAlike 2 rfl) ?_
  refine H_topi (fun v1 e2 => ?_)
  have h := o_l h v1 e2
  refine G_istore (lv' := [_, _, _, _, _, none, none, none]) (g_da dt_Packer_linesAlike 3 rfl) (Nat.le_of_ble_eq_true rfl) rfl rfl ?_
  refine G_iload_n (g_da dt_Packer_linesAlike 4 rfl) rfl rfl ?_
  refine G_if_ne (g_da dt_Packer_linesAlike 5 rfl) rfl rfl  (fun hc3 => ?_) (fun hc3 => ?_)
  · have h := o_f hc3 h
    refine G_aload_n (g_da dt_Packer_linesAlike 8 rfl) rfl rfl ?_
    refine G_iload_n (g_da dt_Packer_linesAlike 9 rfl) rfl rfl ?_
    refine G_iload (g_da dt_Packer_linesAlike 10 rfl) rfl ?_
    refine G_iload_n (g_da dt_Packer_linesAlike 11 rfl) rfl rfl ?_
    refine G_iadd (g_da dt_Packer_linesAlike 12 rfl) ?_
    refine G_iconst (g_da dt_Packer_linesAlike 13 rfl) ?_
    refine G_isub (g_da dt_Packer_linesAlike 14 rfl) ?_
    obtain ⟨r4, s5, hc6, h⟩ := o_b h
    refine H_cVF (Pages_line_ok hJc hc6) (g_da dt_Packer_linesAlike 15 rfl) lk_2_30 mv_Pages_line rfl sh_34 rfl rfl rfl rfl rfl rfl ?_
    exact G_subK (Packer_linesAlike_25_ok hJc h) ⟨rfl, ⟨rfl, ⟨rfl, ⟨rfl, trivial⟩⟩⟩⟩
  · have h := o_t hc3 h
    refine G_lconst (z := 0) (g_da dt_Packer_linesAlike 6 rfl) rfl ?_
    refine G_goto (g_da dt_Packer_linesAlike 7 rfl) rfl ?_
    exact G_subK (Packer_linesAlike_25_ok hJc h) ⟨rfl, ⟨rfl, ⟨rfl, ⟨rfl, trivial⟩⟩⟩⟩
set_option maxHeartbeats 4000000 in
set_option maxRecDepth 100000 in
theorem Packer_add_ok {J : gS → gS} (hJc : g_jc J) {z0 : Int} {s0 : gS} {a1 : Int} {s : gS} (h : Packer_add a1 s = some (z0, s0)) : Ct M_Packer_add g_S [.ref 46, gi a1] (J s) (QG g_S J z0 s0) := by
  refine Ct_of [some (.ref 46), some (gi a1)] (plainFor_of_name (by decide)) rfl (Nat.le_of_ble_eq_true rfl) rfl (by decide) q_rG ?_
  unfold Packer_add at h
  refine G_aload_n (g_da dt_Packer_add 0 rfl) rfl rfl ?_
  refine H_getI (g_da dt_Packer_add 1 rfl) sh_46 fl_2_18 rfl (hJc 46 rfl) ?_
  refine G_sipush (g_da dt_Packer_add 2 rfl) s16w_128 ?_
  refine G_icmp_ge (g_da dt_Packer_add 3 rfl) rfl rfl w_128 (fun hc1 => ?_) (fun hc1 => ?_)
  · have h := o_t hc1 h
    exact G_return (g_da dt_Packer_add 16 rfl) rfl rfl (g_nz rfl) (q_g h)
  · have h := o_f hc1 h
    refine G_aload_n (g_da dt_Packer_add 4 rfl) rfl rfl ?_
    refine G_getR (g_da dt_Packer_add 5 rfl) sh_46 fl_2_9 rfl ?_
    refine G_aload_n (g_da dt_Packer_add 6 rfl) rfl rfl ?_
    refine H_getI (g_da dt_Packer_add 7 rfl) sh_46 fl_2_18 rfl (hJc 46 rfl) ?_
    refine G_iload_n (g_da dt_Packer_add 8 rfl) rfl rfl ?_
    obtain ⟨hb2, h⟩ := o_g h
    refine H_iastore (g_da dt_Packer_add 9 rfl) sh_47 (hJc 47 rfl) rfl hb2 rfl (fun s3 e4 => ?_)
    have h := o_l h s3 e4
    refine G_aload_n (g_da dt_Packer_add 10 rfl) rfl rfl ?_
    refine G_dup (g_da dt_Packer_add 11 rfl) rfl ?_
    refine H_getI (g_da dt_Packer_add 12 rfl) sh_46 fl_2_18 rfl (hJc 46 rfl) ?_
    refine G_iconst (g_da dt_Packer_add 13 rfl) ?_
    refine G_iadd (g_da dt_Packer_add 14 rfl) ?_
    refine H_putI (g_da dt_Packer_add 15 rfl) sh_46 fp_2_18 rfl (hJc 46 rfl) (fun s5 e6 => ?_)
    have h := o_l h s5 e6
    exact G_return (g_da dt_Packer_add 16 rfl) rfl rfl (g_nz rfl) (q_g h)
set_option maxHeartbeats 4000000 in
set_option maxRecDepth 100000 in
theorem Math_max_ok {J : gS → gS} {z0 : Int} {s0 : gS} {a0 a1 : Int} {s : gS} (h : Math_max a0 a1 s = some (z0, s0)) : Ct M_Math_max g_S [gi a0, gi a1] (J s) (QE g_S J z0 s0) := by
  refine Ct_of [some (gi a0), some (gi a1)] (by decide +kernel) rfl (Nat.le_of_ble_eq_true rfl) rfl (by decide) q_rE ?_
  unfold Math_max at h
  refine G_iload_n (g_da dt_Math_max 0 rfl) rfl rfl ?_
  refine G_iload_n (g_da dt_Math_max 1 rfl) rfl rfl ?_
  refine G_icmp_lt (g_da dt_Math_max 2 rfl) rfl rfl rfl (fun hc1 => ?_) (fun hc1 => ?_)
  · have h := o_t hc1 h
    refine G_iload_n (g_da dt_Math_max 5 rfl) rfl rfl ?_
    exact G_ireturn (g_da dt_Math_max 6 rfl) rfl rfl rfl (g_nz rfl) (q_e h)
  · have h := o_f hc1 h
    refine G_iload_n (g_da dt_Math_max 3 rfl) rfl rfl ?_
    refine G_goto (g_da dt_Math_max 4 rfl) rfl ?_
    exact G_ireturn (g_da dt_Math_max 6 rfl) rfl rfl rfl (g_nz rfl) (q_e h)
set_option maxHeartbeats 4000000 in
set_option maxRecDepth 100000 in
theorem Packer_octetsAlike_2_ok {J : gS → gS} (hJc : g_jc J) {z0 : Int} {s0 : gS} {k2 : Int → Int → gS → gA} (hk2 : ∀ (l1 l2 : Int) (s : gS), k2 l1 l2 s = some (z0, s0) → G M_Packer_octetsAlike (QE g_S J z0 s0) (g_S, 0, 0) (J s) 2 [some (.ref 46), some (gi l1), some (gi l2)] [])  {l1 l2 : Int} {s : gS} (h : Packer_octetsAlike_2 k2 l1 l2 s = some (z0, s0)) : G M_Packer_octetsAlike (QE g_S J z0 s0) (g_S, 0, 0) (J s) 2 [some (.ref 46), some (gi l1), some (gi l2)] [] := by
  unfold Packer_octetsAlike_2 at h
  refine G_iload_n (g_da dt_Packer_octetsAlike 2 rfl) rfl rfl ?_
  refine G_bipush (g_da dt_Packer_octetsAlike 3 rfl) b8w_8 ?_
  refine G_icmp_ge (g_da dt_Packer_octetsAlike 4 rfl) rfl rfl w_8 (fun hc1 => ?_) (fun hc1 => ?_)
  · have h := o_t hc1 h
    refine G_iload_n (g_da dt_Packer_octetsAlike 16 rfl) rfl rfl ?_
    refine G_iload_n (g_da dt_Packer_octetsAlike 17 rfl) rfl rfl ?_
    refine G_isub (g_da dt_Packer_octetsAlike 18 rfl) ?_
    exact G_ireturn (g_da dt_Packer_octetsAlike 19 rfl) rfl rfl rfl (g_nz rfl) (q_e h)
  · have h := o_f hc1 h
    refine G_aload_n (g_da dt_Packer_octetsAlike 5 rfl) rfl rfl ?_
    refine G_getR (g_da dt_Packer_octetsAlike 6 rfl) sh_46 fl_2_15 rfl ?_
    refine G_iload_n (g_da dt_Packer_octetsAlike 7 rfl) rfl rfl ?_
    obtain ⟨hb2, h⟩ := o_g h
    refine H_iaload (g_da dt_Packer_octetsAlike 8 rfl) sh_48 (hJc 48 rfl) rfl hb2 rfl ?_
    refine G_aload_n (g_da dt_Packer_octetsAlike 9 rfl) rfl rfl ?_
    refine G_getR (g_da dt_Packer_octetsAlike 10 rfl) sh_46 fl_2_15 rfl ?_
    refine G_iload_n (g_da dt_Packer_octetsAlike 11 rfl) rfl rfl ?_
    obtain ⟨hb3, h⟩ := o_g h
    refine H_iaload (g_da dt_Packer_octetsAlike 12 rfl) sh_48 (hJc 48 rfl) rfl hb3 rfl ?_
    refine G_icmp_ne (g_da dt_Packer_octetsAlike 13 rfl) rfl rfl rfl (fun hc4 => ?_) (fun hc4 => ?_)
    · have h := o_f hc4 h
      refine G_iload_n (g_da dt_Packer_octetsAlike 16 rfl) rfl rfl ?_
      refine G_iload_n (g_da dt_Packer_octetsAlike 17 rfl) rfl rfl ?_
      refine G_isub (g_da dt_Packer_octetsAlike 18 rfl) ?_
      exact G_ireturn (g_da dt_Packer_octetsAlike 19 rfl) rfl rfl rfl (g_nz rfl) (q_e h)
    · have h := o_t hc4 h
      refine G_iinc (lv' := [_, _, _]) (g_da dt_Packer_octetsAlike 14 rfl) rfl (Nat.le_of_ble_eq_true rfl) rfl rfl ?_
      refine G_goto (g_da dt_Packer_octetsAlike 15 rfl) rfl ?_
      exact G_subK (hk2 _ _ _ h) ⟨rfl, ⟨rfl, ⟨rfl, trivial⟩⟩⟩
set_option maxHeartbeats 4000000 in
set_option maxRecDepth 100000 in
theorem Packer_octetsAlike_2L_ok {J : gS → gS} (hJc : g_jc J) {z0 : Int} {s0 : gS} : ∀ (n : Nat) {l1 l2 : Int} {s : gS}, Packer_octetsAlike_2L n l1 l2 s = some (z0, s0) → G M_Packer_octetsAlike (QE g_S J z0 s0) (g_S, 0, 0) (J s) 2 [some (.ref 46), some (gi l1), some (gi l2)] [] := by
  intro n
  induction n with
  | zero => intro _ _ _ h; cases h
  | succ n ih => intro _ _ _ h; exact Packer_octetsAlike_2_ok hJc (fun _ _ _ h => ih h) h
set_option maxHeartbeats 4000000 in
set_option maxRecDepth 100000 in
theorem Packer_octetsAlike_ok {J : gS → gS} (hJc : g_jc J) {z0 : Int} {s0 : gS} {a1 : Int} {s : gS} (h : Packer_octetsAlike a1 s = some (z0, s0)) : Ct M_Packer_octetsAlike g_S [.ref 46, gi a1] (J s) (QE g_S J z0 s0) := by
  refine Ct_of [some (.ref 46), some (gi a1), none] (plainFor_of_name (by decide)) rfl (Nat.le_of_ble_eq_true rfl) rfl (by decide) q_rE ?_
  unfold Packer_octetsAlike at h
  refine G_iload_n (g_da dt_Packer_octetsAlike 0 rfl) rfl rfl ?_
  refine G_istore_n (lv' := [_, _, _]) (g_da dt_Packer_octetsAlike 1 rfl) rfl (Nat.le_of_ble_eq_true rfl) rfl rfl ?_
  exact G_subK (Packer_octetsAlike_2L_ok hJc gFu h) ⟨rfl, ⟨rfl, ⟨rfl, trivial⟩⟩⟩
set_option maxHeartbeats 4000000 in
set_option maxRecDepth 100000 in
theorem Packer_octetsApart_2_ok {J : gS → gS} (hJc : g_jc J) {z0 : Int} {s0 : gS} {k2 : Int → Int → gS → gA} (hk2 : ∀ (l1 l2 : Int) (s : gS), k2 l1 l2 s = some (z0, s0) → G M_Packer_octetsApart (QE g_S J z0 s0) (g_S, 0, 0) (J s) 2 [some (.ref 46), some (gi l1), some (gi l2)] [])  {l1 l2 : Int} {s : gS} (h : Packer_octetsApart_2 k2 l1 l2 s = some (z0, s0)) : G M_Packer_octetsApart (QE g_S J z0 s0) (g_S, 0, 0) (J s) 2 [some (.ref 46), some (gi l1), some (gi l2)] [] := by
  unfold Packer_octetsApart_2 at h
  refine G_iload_n (g_da dt_Packer_octetsApart 2 rfl) rfl rfl ?_
  refine G_bipush (g_da dt_Packer_octetsApart 3 rfl) b8w_8 ?_
  refine G_icmp_ge (g_da dt_Packer_octetsApart 4 rfl) rfl rfl w_8 (fun hc1 => ?_) (fun hc1 => ?_)
  · have h := o_t hc1 h
    refine G_iload_n (g_da dt_Packer_octetsApart 12 rfl) rfl rfl ?_
    refine G_iload_n (g_da dt_Packer_octetsApart 13 rfl) rfl rfl ?_
    refine G_isub (g_da dt_Packer_octetsApart 14 rfl) ?_
    exact G_ireturn (g_da dt_Packer_octetsApart 15 rfl) rfl rfl rfl (g_nz rfl) (q_e h)
  · have h := o_f hc1 h
    refine G_aload_n (g_da dt_Packer_octetsApart 5 rfl) rfl rfl ?_
    refine G_iload_n (g_da dt_Packer_octetsApart 6 rfl) rfl rfl ?_
    obtain ⟨r2, s3, hc4, h⟩ := o_b h
    refine H_cVE (Packer_octetsAlike_ok hJc hc4) (g_da dt_Packer_octetsApart 7 rfl) lk_2_46 mv_Packer_octetsAlike rfl sh_46 rfl rfl rfl rfl rfl rfl ?_
    refine G_iconst (g_da dt_Packer_octetsApart 8 rfl) ?_
    refine G_icmp_ge (g_da dt_Packer_octetsApart 9 rfl) rfl rfl w_2 (fun hc5 => ?_) (fun hc5 => ?_)
    · have h := o_t hc5 h
      refine G_iload_n (g_da dt_Packer_octetsApart 12 rfl) rfl rfl ?_
      refine G_iload_n (g_da dt_Packer_octetsApart 13 rfl) rfl rfl ?_
      refine G_isub (g_da dt_Packer_octetsApart 14 rfl) ?_
      exact G_ireturn (g_da dt_Packer_octetsApart 15 rfl) rfl rfl rfl (g_nz rfl) (q_e h)
    · have h := o_f hc5 h
      refine G_iinc (lv' := [_, _, _]) (g_da dt_Packer_octetsApart 10 rfl) rfl (Nat.le_of_ble_eq_true rfl) rfl rfl ?_
      refine G_goto (g_da dt_Packer_octetsApart 11 rfl) rfl ?_
      exact G_subK (hk2 _ _ _ h) ⟨rfl, ⟨rfl, ⟨rfl, trivial⟩⟩⟩
set_option maxHeartbeats 4000000 in
set_option maxRecDepth 100000 in
theorem Packer_octetsApart_2L_ok {J : gS → gS} (hJc : g_jc J) {z0 : Int} {s0 : gS} : ∀ (n : Nat) {l1 l2 : Int} {s : gS}, Packer_octetsApart_2L n l1 l2 s = some (z0, s0) → G M_Packer_octetsApart (QE g_S J z0 s0) (g_S, 0, 0) (J s) 2 [some (.ref 46), some (gi l1), some (gi l2)] [] := by
  intro n
  induction n with
  | zero => intro _ _ _ h; cases h
  | succ n ih => intro _ _ _ h; exact Packer_octetsApart_2_ok hJc (fun _ _ _ h => ih h) h
set_option maxHeartbeats 4000000 in
set_option maxRecDepth 100000 in
theorem Packer_octetsApart_ok {J : gS → gS} (hJc : g_jc J) {z0 : Int} {s0 : gS} {a1 : Int} {s : gS} (h : Packer_octetsApart a1 s = some (z0, s0)) : Ct M_Packer_octetsApart g_S [.ref 46, gi a1] (J s) (QE g_S J z0 s0) := by
  refine Ct_of [some (.ref 46), some (gi a1), none] (plainFor_of_name (by decide)) rfl (Nat.le_of_ble_eq_true rfl) rfl (by decide) q_rE ?_
  unfold Packer_octetsApart at h
  refine G_iload_n (g_da dt_Packer_octetsApart 0 rfl) rfl rfl ?_
  refine G_istore_n (lv' := [_, _, _]) (g_da dt_Packer_octetsApart 1 rfl) rfl (Nat.le_of_ble_eq_true rfl) rfl rfl ?_
  exact G_subK (Packer_octetsApart_2L_ok hJc gFu h) ⟨rfl, ⟨rfl, ⟨rfl, trivial⟩⟩⟩
set_option maxHeartbeats 4000000 in
set_option maxRecDepth 100000 in
theorem Packer_packLine_2_ok {J : gS → gS} (hJc : g_jc J) {z0 : Int} {s0 : gS} {k2 : Int → Int → gS → gA} {k34 : gS → gA} (hk2 : ∀ (l1 l3 : Int) (s : gS), k2 l1 l3 s = some (z0, s0) → G M_Packer_packLine (QG g_S J z0 s0) (g_S, 0, 0) (J s) 2 [some (.ref 46), some (gl l1), none, some (gi l3), none, none] []) (hk34 : ∀ (s : gS), k34 s = some (z0, s0) → G M_Packer_packLine (QG g_S J z0 s0) (g_S, 0, 0) (J s) 34 [some (.ref 46), none, none, none, none, none] [])  {l1 l3 : Int} {s : gS} (h : Packer_packLine_2 k2 k34 l1 l3 s = some (z0, s0)) : G M_Packer_packLine (QG g_S J z0 s0) (g_S, 0, 0) (J s) 2 [some (.ref 46), some (gl l1), none, some (gi l3), none, none] [] := by
  unfold Packer_packLine_2 at h
  refine G_iload_n (g_da dt_Packer_packLine 2 rfl) rfl rfl ?_
  refine G_bipush (g_da dt_Packer_packLine 3 rfl) b8w_8 ?_
  refine G_icmp_ge (g_da dt_Packer_packLine 4 rfl) rfl rfl w_8 (fun hc1 => ?_) (fun hc1 => ?_)
  · have h := o_t hc1 h
    exact G_subK (hk34 _ h) ⟨rfl, trivial⟩
  · have h := o_f hc1 h
    refine G_aload_n (g_da dt_Packer_packLine 5 rfl) rfl rfl ?_
    refine G_getR (g_da dt_Packer_packLine 6 rfl) sh_46 fl_2_15 rfl ?_
    refine G_iload_n (g_da dt_Packer_packLine 7 rfl) rfl rfl ?_
    refine G_lload_n (g_da dt_Packer_packLine 8 rfl) rfl rfl ?_
    refine G_bipush (g_da dt_Packer_packLine 9 rfl) b8w_8 ?_
    refine G_bipush (g_da dt_Packer_packLine 10 rfl) b8w_7 ?_
    refine G_iload_n (g_da dt_Packer_packLine 11 rfl) rfl rfl ?_
    refine G_isub (g_da dt_Packer_packLine 12 rfl) ?_
    refine G_imul (g_da dt_Packer_packLine 13 rfl) ?_
    refine G_lushr (g_da dt_Packer_packLine 14 rfl) ?_
    refine G_l2i (g_da dt_Packer_packLine 15 rfl) ?_
    refine G_sipush (g_da dt_Packer_packLine 16 rfl) s16w_255 ?_
    refine G_iand (g_da dt_Packer_packLine 17 rfl) ?_
    obtain ⟨hb2, h⟩ := o_g h
    refine H_iastore (g_da dt_Packer_packLine 18 rfl) sh_48 (hJc 48 rfl) rfl hb2 rfl (fun s3 e4 => ?_)
    have h := o_l h s3 e4
    refine G_iinc (lv' := [_, _, none, _, none, none]) (g_da dt_Packer_packLine 19 rfl) rfl (Nat.le_of_ble_eq_true rfl) rfl rfl ?_
    refine G_goto (g_da dt_Packer_packLine 20 rfl) rfl ?_
    exact G_subK (hk2 _ _ _ h) ⟨rfl, ⟨rfl, ⟨rfl, trivial⟩⟩⟩
set_option maxHeartbeats 4000000 in
set_option maxRecDepth 100000 in
theorem Packer_packLine_2L_ok {J : gS → gS} (hJc : g_jc J) {z0 : Int} {s0 : gS} {k34 : gS → gA} (hk34 : ∀ (s : gS), k34 s = some (z0, s0) → G M_Packer_packLine (QG g_S J z0 s0) (g_S, 0, 0) (J s) 34 [some (.ref 46), none, none, none, none, none] []) : ∀ (n : Nat) {l1 l3 : Int} {s : gS}, Packer_packLine_2L k34 n l1 l3 s = some (z0, s0) → G M_Packer_packLine (QG g_S J z0 s0) (g_S, 0, 0) (J s) 2 [some (.ref 46), some (gl l1), none, some (gi l3), none, none] [] := by
  intro n
  induction n with
  | zero => intro _ _ _ h; cases h
  | succ n ih => intro _ _ _ h; exact Packer_packLine_2_ok hJc (fun _ _ _ h => ih h) hk34 h
set_option maxHeartbeats 4000000 in
set_option maxRecDepth 100000 in
theorem Packer_packLine_97_ok {J : gS → gS} (hJc : g_jc J) {z0 : Int} {s0 : gS} {k97 : Int → Int → Int → gS → gA} {k123 : Int → Int → gS → gA} (hk97 : ∀ (l3 l4 l5 : Int) (s : gS), k97 l3 l4 l5 s = some (z0, s0) → G M_Packer_packLine (QG g_S J z0 s0) (g_S, 0, 0) (J s) 97 [some (.ref 46), none, none, some (gi l3), some (gi l4), some (gi l5)] []) (hk123 : ∀ (l3 l4 : Int) (s : gS), k123 l3 l4 s = some (z0, s0) → G M_Packer_packLine (QG g_S J z0 s0) (g_S, 0, 0) (J s) 123 [some (.ref 46), none, none, some (gi l3), some (gi l4), none] [])  {l3 l4 l5 : Int} {s : gS} (h : Packer_packLine_97 k97 k123 l3 l4 l5 s = some (z0, s0)) : G M_Packer_packLine (QG g_S J z0 s0) (g_S, 0, 0) (J s) 97 [some (.ref 46), none, none, some (gi l3), some (gi l4), some (gi l5)] [] := by
  unfold Packer_packLine_97 at h
  refine G_iload (g_da dt_Packer_packLine 56 rfl) rfl ?_
  refine G_iload (g_da dt_Packer_packLine 57 rfl) rfl ?_
  refine G_iload_n (g_da dt_Packer_packLine 58 rfl) rfl rfl ?_
  refine G_iadd (g_da dt_Packer_packLine 59 rfl) ?_
  refine G_icmp_ge (g_da dt_Packer_packLine 60 rfl) rfl rfl rfl (fun hc16 => ?_) (fun hc16 => ?_)
  · have h := o_t hc16 h
    exact G_subK (hk123 _ _ _ h) ⟨rfl, ⟨rfl, ⟨rfl, trivial⟩⟩⟩
  · have h := o_f hc16 h
    refine G_aload_n (g_da dt_Packer_packLine 61 rfl) rfl rfl ?_
    refine G_aload_n (g_da dt_Packer_packLine 62 rfl) rfl rfl ?_
    refine G_getR (g_da dt_Packer_packLine 63 rfl) sh_46 fl_2_15 rfl ?_
    refine G_iload (g_da dt_Packer_packLine 64 rfl) rfl ?_
    obtain ⟨hb17, h⟩ := o_g h
    refine H_iaload (g_da dt_Packer_packLine 65 rfl) sh_48 (hJc 48 rfl) rfl hb17 rfl ?_
    obtain ⟨r18, s19, hc20, h⟩ := o_b h
    refine H_cVG (Packer_add_ok hJc hc20) (g_da dt_Packer_packLine 66 rfl) lk_2_26 mv_Packer_add rfl sh_46 rfl rfl rfl rfl rfl rfl ?_
    refine G_iinc (lv' := [_, none, none, _, _, _]) (g_da dt_Packer_packLine 67 rfl) rfl (Nat.le_of_ble_eq_true rfl) rfl rfl ?_
    refine G_goto (g_da dt_Packer_packLine 68 rfl) rfl ?_
    exact G_subK (hk97 _ _ _ _ h) ⟨rfl, ⟨rfl, ⟨rfl, ⟨rfl, trivial⟩⟩⟩⟩
set_option maxHeartbeats 4000000 in
set_option maxRecDepth 100000 in
theorem Packer_packLine_97L_ok {J : gS → gS} (hJc : g_jc J) {z0 : Int} {s0 : gS} {k123 : Int → Int → gS → gA} (hk123 : ∀ (l3 l4 : Int) (s : gS), k123 l3 l4 s = some (z0, s0) → G M_Packer_packLine (QG g_S J z0 s0) (g_S, 0, 0) (J s) 123 [some (.ref 46), none, none, some (gi l3), some (gi l4), none] []) : ∀ (n : Nat) {l3 l4 l5 : Int} {s : gS}, Packer_packLine_97L k123 n l3 l4 l5 s = some (z0, s0) → G M_Packer_packLine (QG g_S J z0 s0) (g_S, 0, 0) (J s) 97 [some (.ref 46), none, none, some (gi l3), some (gi l4), some (gi l5)] [] := by
  intro n
  induction n with
  | zero => intro _ _ _ _ h; cases h
  | succ n ih => intro _ _ _ _ h; exact Packer_packLine_97_ok hJc (fun _ _ _ _ h => ih h) hk123 h
set_option maxHeartbeats 4000000 in
set_option maxRecDepth 100000 in
theorem Packer_packLine_123_ok {J : gS → gS} (hJc : g_jc J) {z0 : Int} {s0 : gS} {k39 : Int → gS → gA} (hk39 : ∀ (l4 : Int) (s : gS), k39 l4 s = some (z0, s0) → G M_Packer_packLine (QG g_S J z0 s0) (g_S, 0, 0) (J s) 39 [some (.ref 46), none, none, none, some (gi l4), none] [])  {l3 l4 : Int} {s : gS} (h : Packer_packLine_123 k39 l3 l4 s = some (z0, s0)) : G M_Packer_packLine (QG g_S J z0 s0) (g_S, 0, 0) (J s) 123 [some (.ref 46), none, none, some (gi l3), some (gi l4), none] [] := by
  unfold Packer_packLine_123 at h
  refine G_iload (g_da dt_Packer_packLine 69 rfl) rfl ?_
  refine G_iconst (g_da dt_Packer_packLine 70 rfl) ?_
  refine G_iload_n (g_da dt_Packer_packLine 71 rfl) rfl rfl ?_
  obtain ⟨r21, s22, hc23, h⟩ := o_b h
  refine H_cSE (Math_max_ok hc23) (g_da dt_Packer_packLine 72 rfl) lk_2_40 ms_Math_max rfl rfl rfl rfl rfl rfl ?_
  refine G_iadd (g_da dt_Packer_packLine 73 rfl) ?_
  refine H_topi (fun v24 e25 => ?_)
  have h := o_l h v24 e25
  refine G_istore (lv' := [_, none, none, _, _, none]) (g_da dt_Packer_packLine 74 rfl) (Nat.le_of_ble_eq_true rfl) rfl rfl ?_
  refine G_goto (g_da dt_Packer_packLine 75 rfl) rfl ?_
  exact G_subK (hk39 _ _ h) ⟨rfl, ⟨rfl, trivial⟩⟩
set_option maxHeartbeats 4000000 in
set_option maxRecDepth 100000 in
theorem Packer_packLine_39_ok {J : gS → gS} (hJc : g_jc J) {z0 : Int} {s0 : gS} {k39 : Int → gS → gA} (hk39 : ∀ (l4 : Int) (s : gS), k39 l4 s = some (z0, s0) → G M_Packer_packLine (QG g_S J z0 s0) (g_S, 0, 0) (J s) 39 [some (.ref 46), none, none, none, some (gi l4), none] [])  {l4 : Int} {s : gS} (h : Packer_packLine_39 k39 l4 s = some (z0, s0)) : G M_Packer_packLine (QG g_S J z0 s0) (g_S, 0, 0) (J s) 39 [some (.ref 46), none, none, none, some (gi l4), none] [] := by
  unfold Packer_packLine_39 at h
  refine G_iload (g_da dt_Packer_packLine 25 rfl) rfl ?_
  refine G_bipush (g_da dt_Packer_packLine 26 rfl) b8w_8 ?_
  refine G_icmp_ge (g_da dt_Packer_packLine 27 rfl) rfl rfl w_8 (fun hc5 => ?_) (fun hc5 => ?_)
  · have h := o_t hc5 h
    exact G_return (g_da dt_Packer_packLine 76 rfl) rfl rfl (g_nz rfl) (q_g h)
  · have h := o_f hc5 h
    refine G_aload_n (g_da dt_Packer_packLine 28 rfl) rfl rfl ?_
    refine G_iload (g_da dt_Packer_packLine 29 rfl) rfl ?_
    obtain ⟨r6, s7, hc8, h⟩ := o_b h
    refine H_cVE (Packer_octetsAlike_ok hJc hc8) (g_da dt_Packer_packLine 30 rfl) lk_2_46 mv_Packer_octetsAlike rfl sh_46 rfl rfl rfl rfl rfl rfl ?_
    refine G_istore_n (lv' := [_, none, none, _, _, none]) (g_da dt_Packer_packLine 31 rfl) rfl (Nat.le_of_ble_eq_true rfl) rfl rfl ?_
    refine G_iload_n (g_da dt_Packer_packLine 32 rfl) rfl rfl ?_
    refine G_iconst (g_da dt_Packer_packLine 33 rfl) ?_
    refine G_icmp_le (g_da dt_Packer_packLine 34 rfl) rfl rfl w_1 (fun hc9 => ?_) (fun hc9 => ?_)
    · have h := o_t hc9 h
      refine G_aload_n (g_da dt_Packer_packLine 47 rfl) rfl rfl ?_
      refine G_iload (g_da dt_Packer_packLine 48 rfl) rfl ?_
      obtain ⟨r10, s11, hc12, h⟩ := o_b h
      refine H_cVE (Packer_octetsApart_ok hJc hc12) (g_da dt_Packer_packLine 49 rfl) lk_2_50 mv_Packer_octetsApart rfl sh_46 rfl rfl rfl rfl rfl rfl ?_
      refine G_istore_n (lv' := [_, none, none, _, _, none]) (g_da dt_Packer_packLine 50 rfl) rfl (Nat.le_of_ble_eq_true rfl) rfl rfl ?_
      refine G_aload_n (g_da dt_Packer_packLine 51 rfl) rfl rfl ?_
      refine G_iload_n (g_da dt_Packer_packLine 52 rfl) rfl rfl ?_
      obtain ⟨r13, s14, hc15, h⟩ := o_b h
      refine H_cVG (Packer_add_ok hJc hc15) (g_da dt_Packer_packLine 53 rfl) lk_2_26 mv_Packer_add rfl sh_46 rfl rfl rfl rfl rfl rfl ?_
      refine G_iload (g_da dt_Packer_packLine 54 rfl) rfl ?_
      refine G_istore (lv' := [_, none, none, _, _, _]) (g_da dt_Packer_packLine 55 rfl) (Nat.le_of_ble_eq_true rfl) rfl rfl ?_
      exact G_subK (Packer_packLine_97L_ok hJc (fun _ _ _ h => Packer_packLine_123_ok hJc hk39 h) gFu h) ⟨rfl, ⟨rfl, ⟨rfl, ⟨rfl, trivial⟩⟩⟩⟩
    · have h := o_f hc9 h
      refine G_aload_n (g_da dt_Packer_packLine 35 rfl) rfl rfl ?_
      refine G_sipush (g_da dt_Packer_packLine 36 rfl) s16w_128 ?_
      refine G_iload_n (g_da dt_Packer_packLine 37 rfl) rfl rfl ?_
      refine G_iadd (g_da dt_Packer_packLine 38 rfl) ?_
      obtain ⟨r26, s27, hc28, h⟩ := o_b h
      refine H_cVG (Packer_add_ok hJc hc28) (g_da dt_Packer_packLine 39 rfl) lk_2_26 mv_Packer_add rfl sh_46 rfl rfl rfl rfl rfl rfl ?_
      refine G_aload_n (g_da dt_Packer_packLine 40 rfl) rfl rfl ?_
      refine G_aload_n (g_da dt_Packer_packLine 41 rfl) rfl rfl ?_
      refine G_getR (g_da dt_Packer_packLine 42 rfl) sh_46 fl_2_15 rfl ?_
      refine G_iload (g_da dt_Packer_packLine 43 rfl) rfl ?_
      obtain ⟨hb29, h⟩ := o_g h
      refine H_iaload (g_da dt_Packer_packLine 44 rfl) sh_48 (hJc 48 rfl) rfl hb29 rfl ?_
      obtain ⟨r30, s31, hc32, h⟩ := o_b h
      refine H_cVG (Packer_add_ok hJc hc32) (g_da dt_Packer_packLine 45 rfl) lk_2_26 mv_Packer_add rfl sh_46 rfl rfl rfl rfl rfl rfl ?_
      refine G_goto (g_da dt_Packer_packLine 46 rfl) rfl ?_
      exact G_subK (Packer_packLine_123_ok hJc hk39 h) ⟨rfl, ⟨rfl, ⟨rfl, trivial⟩⟩⟩
set_option maxHeartbeats 4000000 in
set_option maxRecDepth 100000 in
theorem Packer_packLine_39L_ok {J : gS → gS} (hJc : g_jc J) {z0 : Int} {s0 : gS} : ∀ (n : Nat) {l4 : Int} {s : gS}, Packer_packLine_39L n l4 s = some (z0, s0) → G M_Packer_packLine (QG g_S J z0 s0) (g_S, 0, 0) (J s) 39 [some (.ref 46), none, none, none, some (gi l4), none] [] := by
  intro n
  induction n with
  | zero => intro _ _ h; cases h
  | succ n ih => intro _ _ h; exact Packer_packLine_39_ok hJc (fun _ _ h => ih h) h
set_option maxHeartbeats 4000000 in
set_option maxRecDepth 100000 in
theorem Packer_packLine_34_ok {J : gS → gS} (hJc : g_jc J) {z0 : Int} {s0 : gS}  {s : gS} (h : Packer_packLine_34 s = some (z0, s0)) : G M_Packer_packLine (QG g_S J z0 s0) (g_S, 0, 0) (J s) 34 [some (.ref 46), none, none, none, none, none] [] := by
  unfold Packer_packLine_34 at h
  refine G_iconst (g_da dt_Packer_packLine 21 rfl) ?_
  refine G_istore_n (lv' := [_, none, none, _, none, none]) (g_da dt_Packer_packLine 22 rfl) rfl (Nat.le_of_ble_eq_true rfl) rfl rfl ?_
  refine G_iconst (g_da dt_Packer_packLine 23 rfl) ?_
  refine G_istore (lv' := [_, none, none, _, _, none]) (g_da dt_Packer_packLine 24 rfl) (Nat.le_of_ble_eq_true rfl) rfl rfl ?_
  exact G_subK (Packer_packLine_39L_ok hJc gFu h) ⟨rfl, ⟨rfl, trivial⟩⟩
set_option maxHeartbeats 4000000 in
set_option maxRecDepth 100000 in
theorem Packer_packLine_ok {J : gS → gS} (hJc : g_jc J) {z0 : Int} {s0 : gS} {a1 : Int} {s : gS} (h : Packer_packLine a1 s = some (z0, s0)) : Ct M_Packer_packLine g_S [.ref 46, gl a1] (J s) (QG g_S J z0 s0) := by
  refine Ct_of [some (.ref 46), some (gl a1), none, none, none, none] (plainFor_of_name (by decide)) rfl (Nat.le_of_ble_eq_true rfl) rfl (by decide) q_rG ?_
  unfold Packer_packLine at h
  refine G_iconst (g_da dt_Packer_packLine 0 rfl) ?_
  refine G_istore_n (lv' := [_, _, none, _, none, none]) (g_da dt_Packer_packLine 1 rfl) rfl (Nat.le_of_ble_eq_true rfl) rfl rfl ?_
  exact G_subK (Packer_packLine_2L_ok hJc (fun _ h => Packer_packLine_34_ok hJc h) gFu h) ⟨rfl, ⟨rfl, ⟨rfl, trivial⟩⟩⟩
set_option maxHeartbeats 4000000 in
set_option maxRecDepth 100000 in
theorem Packer_pack_62_ok {J : gS → gS} (hJc : g_jc J) {z0 : Int} {s0 : gS} {k11 : Int → Int → Int → gS → gA} (hk11 : ∀ (l2 l3 l5 : Int) (s : gS), k11 l2 l3 l5 s = some (z0, s0) → G M_Packer_pack (QG g_S J z0 s0) (g_S, 0, 0) (J s) 11 [some (.ref 46), some (.ref 34), some (gi l2), some (gi l3), none, some (gi l5)] [])  {l2 l3 l4 l5 : Int} {s : gS} (h : Packer_pack_62 k11 l2 l3 l4 l5 s = some (z0, s0)) : G M_Packer_pack (QG g_S J z0 s0) (g_S, 0, 0) (J s) 62 [some (.ref 46), some (.ref 34), some (gi l2), some (gi l3), some (gi l4), some (gi l5)] [] := by
  unfold Packer_pack_62 at h
  refine G_iload (g_da dt_Packer_pack 34 rfl) rfl ?_
  refine G_iconst (g_da dt_Packer_pack 35 rfl) ?_
  refine G_iload (g_da dt_Packer_pack 36 rfl) rfl ?_
  obtain ⟨r14, s15, hc16, h⟩ := o_b h
  refine H_cSE (Math_max_ok hc16) (g_da dt_Packer_pack 37 rfl) lk_2_40 ms_Math_max rfl rfl rfl rfl rfl rfl ?_
  refine G_iadd (g_da dt_Packer_pack 38 rfl) ?_
  refine H_topi (fun v17 e18 => ?_)
  have h := o_l h v17 e18
  refine G_istore (lv' := [_, _, _, _, _, _]) (g_da dt_Packer_pack 39 rfl) (Nat.le_of_ble_eq_true rfl) rfl rfl ?_
  refine G_goto (g_da dt_Packer_pack 40 rfl) rfl ?_
  exact G_subK (hk11 _ _ _ _ h) ⟨rfl, ⟨rfl, ⟨rfl, ⟨rfl, ⟨rfl, trivial⟩⟩⟩⟩⟩
set_option maxHeartbeats 4000000 in
set_option maxRecDepth 100000 in
theorem Packer_pack_11_ok {J : gS → gS} (hJc : g_jc J) {z0 : Int} {s0 : gS} {k11 : Int → Int → Int → gS → gA} (hk11 : ∀ (l2 l3 l5 : Int) (s : gS), k11 l2 l3 l5 s = some (z0, s0) → G M_Packer_pack (QG g_S J z0 s0) (g_S, 0, 0) (J s) 11 [some (.ref 46), some (.ref 34), some (gi l2), some (gi l3), none, some (gi l5)] [])  {l2 l3 l5 : Int} {s : gS} (h : Packer_pack_11 k11 l2 l3 l5 s = some (z0, s0)) : G M_Packer_pack (QG g_S J z0 s0) (g_S, 0, 0) (J s) 11 [some (.ref 46), some (.ref 34), some (gi l2), some (gi l3), none, some (gi l5)] [] := by
  unfold Packer_pack_11 at h
  refine G_iload (g_da dt_Packer_pack 7 rfl) rfl ?_
  refine G_bipush (g_da dt_Packer_pack 8 rfl) b8w_8 ?_
  refine G_icmp_ge (g_da dt_Packer_pack 9 rfl) rfl rfl w_8 (fun hc3 => ?_) (fun hc3 => ?_)
  · have h := o_t hc3 h
    exact G_return (g_da dt_Packer_pack 41 rfl) rfl rfl (g_nz rfl) (q_g h)
  · have h := o_f hc3 h
    refine G_aload_n (g_da dt_Packer_pack 10 rfl) rfl rfl ?_
    refine G_iload_n (g_da dt_Packer_pack 11 rfl) rfl rfl ?_
    refine G_iload_n (g_da dt_Packer_pack 12 rfl) rfl rfl ?_
    refine G_iload (g_da dt_Packer_pack 13 rfl) rfl ?_
    obtain ⟨r4, s5, hc6, h⟩ := o_b h
    refine H_cSE (Packer_linesAlike_ok hJc hc6) (g_da dt_Packer_pack 14 rfl) lk_2_22 ms_Packer_linesAlike rfl rfl rfl rfl rfl rfl ?_
    refine G_istore (lv' := [_, _, _, _, _, _]) (g_da dt_Packer_pack 15 rfl) (Nat.le_of_ble_eq_true rfl) rfl rfl ?_
    refine G_iload (g_da dt_Packer_pack 16 rfl) rfl ?_
    refine G_if_le (g_da dt_Packer_pack 17 rfl) rfl rfl  (fun hc7 => ?_) (fun hc7 => ?_)
    · have h := o_t hc7 h
      refine G_aload_n (g_da dt_Packer_pack 24 rfl) rfl rfl ?_
      refine G_aload_n (g_da dt_Packer_pack 25 rfl) rfl rfl ?_
      refine G_iload_n (g_da dt_Packer_pack 26 rfl) rfl rfl ?_
      refine G_iload_n (g_da dt_Packer_pack 27 rfl) rfl rfl ?_
      refine G_bipush (g_da dt_Packer_pack 28 rfl) b8w_8 ?_
      refine G_imul (g_da dt_Packer_pack 29 rfl) ?_
      refine G_iload (g_da dt_Packer_pack 30 rfl) rfl ?_
      refine G_iadd (g_da dt_Packer_pack 31 rfl) ?_
      obtain ⟨r8, s9, hc10, h⟩ := o_b h
      refine H_cVF (Pages_line_ok hJc hc10) (g_da dt_Packer_pack 32 rfl) lk_2_30 mv_Pages_line rfl sh_34 rfl rfl rfl rfl rfl rfl ?_
      obtain ⟨r11, s12, hc13, h⟩ := o_b h
      refine H_cVG (Packer_packLine_ok hJc hc13) (g_da dt_Packer_pack 33 rfl) lk_2_36 mv_Packer_packLine rfl sh_46 rfl rfl rfl rfl rfl rfl ?_
      exact G_subK (Packer_pack_62_ok hJc hk11 h) ⟨rfl, ⟨rfl, ⟨rfl, ⟨rfl, ⟨rfl, ⟨rfl, trivial⟩⟩⟩⟩⟩⟩
    · have h := o_f hc7 h
      refine G_aload_n (g_da dt_Packer_pack 18 rfl) rfl rfl ?_
      refine G_sipush (g_da dt_Packer_pack 19 rfl) s16w_192 ?_
      refine G_iload (g_da dt_Packer_pack 20 rfl) rfl ?_
      refine G_iadd (g_da dt_Packer_pack 21 rfl) ?_
      obtain ⟨r19, s20, hc21, h⟩ := o_b h
      refine H_cVG (Packer_add_ok hJc hc21) (g_da dt_Packer_pack 22 rfl) lk_2_26 mv_Packer_add rfl sh_46 rfl rfl rfl rfl rfl rfl ?_
      refine G_goto (g_da dt_Packer_pack 23 rfl) rfl ?_
      exact G_subK (Packer_pack_62_ok hJc hk11 h) ⟨rfl, ⟨rfl, ⟨rfl, ⟨rfl, ⟨rfl, ⟨rfl, trivial⟩⟩⟩⟩⟩⟩
set_option maxHeartbeats 4000000 in
set_option maxRecDepth 100000 in
theorem Packer_pack_11L_ok {J : gS → gS} (hJc : g_jc J) {z0 : Int} {s0 : gS} : ∀ (n : Nat) {l2 l3 l5 : Int} {s : gS}, Packer_pack_11L n l2 l3 l5 s = some (z0, s0) → G M_Packer_pack (QG g_S J z0 s0) (g_S, 0, 0) (J s) 11 [some (.ref 46), some (.ref 34), some (gi l2), some (gi l3), none, some (gi l5)] [] := by
  intro n
  induction n with
  | zero => intro _ _ _ _ h; cases h
  | succ n ih => intro _ _ _ _ h; exact Packer_pack_11_ok hJc (fun _ _ _ _ h => ih h) h
set_option maxHeartbeats 4000000 in
set_option maxRecDepth 100000 in
theorem Packer_pack_ok {J : gS → gS} (hJc : g_jc J) {z0 : Int} {s0 : gS} {a2 a3 : Int} {s : gS} (h : Packer_pack a2 a3 s = some (z0, s0)) : Ct M_Packer_pack g_S [.ref 46, .ref 34, gi a2, gi a3] (J s) (QG g_S J z0 s0) := by
  refine Ct_of [some (.ref 46), some (.ref 34), some (gi a2), some (gi a3), none, none] (plainFor_of_name (by decide)) rfl (Nat.le_of_ble_eq_true rfl) rfl (by decide) q_rG ?_
  unfold Packer_pack at h
  refine G_aload_n (g_da dt_Packer_pack 0 rfl) rfl rfl ?_
  refine G_iconst (g_da dt_Packer_pack 1 rfl) ?_
  refine H_putI (g_da dt_Packer_pack 2 rfl) sh_46 fp_2_18 rfl (hJc 46 rfl) (fun s1 e2 => ?_)
  have h := o_l h s1 e2
  refine G_iconst (g_da dt_Packer_pack 3 rfl) ?_
  refine G_istore (lv' := [_, _, _, _, _, none]) (g_da dt_Packer_pack 4 rfl) (Nat.le_of_ble_eq_true rfl) rfl rfl ?_
  refine G_iconst (g_da dt_Packer_pack 5 rfl) ?_
  refine G_istore (lv' := [_, _, _, _, _, _]) (g_da dt_Packer_pack 6 rfl) (Nat.le_of_ble_eq_true rfl) rfl rfl ?_
  exact G_subK (Packer_pack_11L_ok hJc gFu h) ⟨rfl, ⟨rfl, ⟨rfl, ⟨rfl, ⟨rfl, trivial⟩⟩⟩⟩⟩
set_option maxHeartbeats 4000000 in
set_option maxRecDepth 100000 in
theorem B_band_ok {J : gS → gS} (hJc : g_jc J) {z0 : Int} {s0 : gS} {a1 a2 : Int} {s : gS} (h : B_band a1 a2 s = some (z0, s0)) : Ct M_B_band g_S [.ref 0, gi a1, gi a2] (J s) (QE g_S J z0 s0) := by
  refine Ct_of [some (.ref 0), some (gi a1), some (gi a2)] (plainFor_of_name (by decide)) rfl (Nat.le_of_ble_eq_true rfl) rfl (by decide) q_rE ?_
  unfold B_band at h
  refine G_aload_n (g_da dt_B_band 0 rfl) rfl rfl ?_
  refine G_getR (g_da dt_B_band 1 rfl) sh_0 fl_0_19 rfl ?_
  refine G_getR (g_da dt_B_band 2 rfl) sh_5 fl_0_83 rfl ?_
  refine G_iload_n (g_da dt_B_band 3 rfl) rfl rfl ?_
  obtain ⟨r1, s2, hc3, h⟩ := o_b h
  refine H_cVE (Pages_isKept_ok hJc hc3) (g_da dt_B_band 4 rfl) lk_0_152 mv_Pages_isKept rfl sh_34 rfl rfl rfl rfl rfl rfl ?_
  refine G_if_eq (g_da dt_B_band 5 rfl) rfl rfl  (fun hc4 => ?_) (fun hc4 => ?_)
  · have h := o_t hc4 h
    refine G_iconst (g_da dt_B_band 11 rfl) ?_
    exact G_ireturn (g_da dt_B_band 12 rfl) rfl rfl rfl (g_nz rfl) (q_e h)
  · have h := o_f hc4 h
    refine G_iload_n (g_da dt_B_band 6 rfl) rfl rfl ?_
    refine G_if_lt (g_da dt_B_band 7 rfl) rfl rfl  (fun hc5 => ?_) (fun hc5 => ?_)
    · have h := o_t hc5 h
      refine G_iconst (g_da dt_B_band 11 rfl) ?_
      exact G_ireturn (g_da dt_B_band 12 rfl) rfl rfl rfl (g_nz rfl) (q_e h)
    · have h := o_f hc5 h
      refine G_iload_n (g_da dt_B_band 8 rfl) rfl rfl ?_
      refine G_bipush (g_da dt_B_band 9 rfl) b8w_6 ?_
      refine G_icmp_lt (g_da dt_B_band 10 rfl) rfl rfl w_6 (fun hc6 => ?_) (fun hc6 => ?_)
      · have h := o_t hc6 h
        refine G_aload_n (g_da dt_B_band 13 rfl) rfl rfl ?_
        refine G_getR (g_da dt_B_band 14 rfl) sh_0 fl_0_42 rfl ?_
        refine G_aload_n (g_da dt_B_band 15 rfl) rfl rfl ?_
        refine G_getR (g_da dt_B_band 16 rfl) sh_0 fl_0_19 rfl ?_
        refine G_getR (g_da dt_B_band 17 rfl) sh_5 fl_0_83 rfl ?_
        refine G_iload_n (g_da dt_B_band 18 rfl) rfl rfl ?_
        refine G_iload_n (g_da dt_B_band 19 rfl) rfl rfl ?_
        obtain ⟨r7, s8, hc9, h⟩ := o_b h
        refine H_cVG (Packer_pack_ok hJc hc9) (g_da dt_B_band 20 rfl) lk_0_156 mv_Packer_pack rfl sh_46 rfl rfl rfl rfl rfl rfl ?_
        refine G_aload_n (g_da dt_B_band 21 rfl) rfl rfl ?_
        refine G_getR (g_da dt_B_band 22 rfl) sh_0 fl_0_42 rfl ?_
        refine H_getI (g_da dt_B_band 23 rfl) sh_46 fl_0_160 rfl (hJc 46 rfl) ?_
        exact G_ireturn (g_da dt_B_band 24 rfl) rfl rfl rfl (g_nz rfl) (q_e h)
      · have h := o_f hc6 h
        refine G_iconst (g_da dt_B_band 11 rfl) ?_
        exact G_ireturn (g_da dt_B_band 12 rfl) rfl rfl rfl (g_nz rfl) (q_e h)
set_option maxHeartbeats 4000000 in
set_option maxRecDepth 100000 in
theorem B_cover_16_ok {J : gS → gS} (hJc : g_jc J) {z0 : Int} {s0 : gS}  {l1 t0 : Int} {s : gS} (h : B_cover_16 l1 t0 s = some (z0, s0)) : G M_B_cover (QE g_S J z0 s0) (g_S, 0, 0) (J s) 16 [some (.ref 0), some (gi l1), none] [gi t0] := by
  unfold B_cover_16 at h
  refine G_istore_n (lv' := [_, _, _]) (g_da dt_B_cover 8 rfl) rfl (Nat.le_of_ble_eq_true rfl) rfl rfl ?_
  refine G_aload_n (g_da dt_B_cover 9 rfl) rfl rfl ?_
  refine G_getR (g_da dt_B_cover 10 rfl) sh_0 fl_0_35 rfl ?_
  refine G_iload_n (g_da dt_B_cover 11 rfl) rfl rfl ?_
  obtain ⟨hz2, h⟩ := o_g h
  refine H_putZ (g_da dt_B_cover 12 rfl) sh_40 fp_0_182 rfl (hJc 40 rfl) hz2 (fun s3 e4 => ?_)
  have h := o_l h s3 e4
  refine G_iload_n (g_da dt_B_cover 13 rfl) rfl rfl ?_
  obtain ⟨hz5, h⟩ := o_g h
  exact G_ireturn (g_da dt_B_cover 14 rfl) rfl (g_bool hz5).1 rfl (g_nz rfl) (q_e h)
set_option maxHeartbeats 4000000 in
set_option maxRecDepth 100000 in
theorem B_cover_ok {J : gS → gS} (hJc : g_jc J) {z0 : Int} {s0 : gS} {a1 : Int} {s : gS} (h : B_cover a1 s = some (z0, s0)) : Ct M_B_cover g_S [.ref 0, gi a1] (J s) (QE g_S J z0 s0) := by
  refine Ct_of [some (.ref 0), some (gi a1), none] (plainFor_of_name (by decide)) rfl (Nat.le_of_ble_eq_true rfl) rfl (by decide) q_rE ?_
  unfold B_cover at h
  refine G_aload_n (g_da dt_B_cover 0 rfl) rfl rfl ?_
  refine G_getR (g_da dt_B_cover 1 rfl) sh_0 fl_0_35 rfl ?_
  refine H_getI (g_da dt_B_cover 2 rfl) sh_40 fl_0_182 rfl (hJc 40 rfl) ?_
  refine G_iload_n (g_da dt_B_cover 3 rfl) rfl rfl ?_
  refine G_icmp_eq (g_da dt_B_cover 4 rfl) rfl rfl rfl (fun hc1 => ?_) (fun hc1 => ?_)
  · have h := o_t hc1 h
    refine G_iconst (g_da dt_B_cover 7 rfl) ?_
    exact G_subK (B_cover_16_ok hJc h) ⟨rfl, ⟨rfl, trivial⟩⟩
  · have h := o_f hc1 h
    refine G_iconst (g_da dt_B_cover 5 rfl) ?_
    refine G_goto (g_da dt_B_cover 6 rfl) rfl ?_
    exact G_subK (B_cover_16_ok hJc h) ⟨rfl, ⟨rfl, trivial⟩⟩
set_option maxHeartbeats 4000000 in
set_option maxRecDepth 100000 in
theorem Settings_greyNow_ok {J : gS → gS} (hJc : g_jc J) {z0 : Int} {s0 : gS} {s : gS} (h : Settings_greyNow s = some (z0, s0)) : Ct M_Settings_greyNow g_S [.ref 21] (J s) (QE g_S J z0 s0) := by
  refine Ct_of [some (.ref 21)] (plainFor_of_name (by decide)) rfl (Nat.le_of_ble_eq_true rfl) rfl (by decide) q_rE ?_
  unfold Settings_greyNow at h
  refine G_aload_n (g_da dt_Settings_greyNow 0 rfl) rfl rfl ?_
  refine G_getR (g_da dt_Settings_greyNow 1 rfl) sh_21 fl_3_24 rfl ?_
  refine G_aload_n (g_da dt_Settings_greyNow 2 rfl) rfl rfl ?_
  refine H_getI (g_da dt_Settings_greyNow 3 rfl) sh_21 fl_3_39 rfl (hJc 21 rfl) ?_
  obtain ⟨hb1, h⟩ := o_g h
  refine H_iaload (g_da dt_Settings_greyNow 4 rfl) sh_26 (hJc 26 rfl) rfl hb1 rfl ?_
  exact G_ireturn (g_da dt_Settings_greyNow 5 rfl) rfl rfl rfl (g_nz rfl) (q_e h)
set_option maxHeartbeats 4000000 in
set_option maxRecDepth 100000 in
theorem B_job_ok {J : gS → gS} (hJc : g_jc J) {z0 : Int} {s0 : gS} {a1 : Int} {s : gS} (h : B_job a1 s = some (z0, s0)) : Ct M_B_job g_S [.ref 0, gi a1] (J s) (QE g_S J z0 s0) := by
  refine Ct_of [some (.ref 0), some (gi a1)] (plainFor_of_name (by decide)) rfl (Nat.le_of_ble_eq_true rfl) rfl (by decide) q_rE ?_
  unfold B_job at h
  refine G_iload_n (g_da dt_B_job 0 rfl) rfl rfl ?_
  refine G_table [(0, 52), (1, 60), (2, 68), (3, 76), (4, 87), (5, 95), (6, 106), (7, 117), (8, 128)] 139 (g_da dt_B_job 1 rfl) rfl rfl rfl ⟨fun hc1 => ?_, fun hc1 => ⟨fun hc2 => ?_, fun hc2 => ⟨fun hc3 => ?_, fun hc3 => ⟨fun hc4 => ?_, fun hc4 => ⟨fun hc5 => ?_, fun hc5 => ⟨fun hc6 => ?_, fun hc6 => ⟨fun hc7 => ?_, fun hc7 => ⟨fun hc8 => ?_, fun hc8 => ⟨fun hc9 => ?_, fun hc9 => ?_⟩⟩⟩⟩⟩⟩⟩⟩⟩
  · have h := o_t hc1 h
    refine G_aload_n (g_da dt_B_job 2 rfl) rfl rfl ?_
    refine G_getR (g_da dt_B_job 3 rfl) sh_0 fl_0_19 rfl ?_
    refine H_getI (g_da dt_B_job 4 rfl) sh_5 fl_0_100 rfl (hJc 5 rfl) ?_
    exact G_ireturn (g_da dt_B_job 5 rfl) rfl rfl rfl (g_nz rfl) (q_e h)
  · have h := o_f hc1 h
    have h := o_t hc2 h
    refine G_aload_n (g_da dt_B_job 6 rfl) rfl rfl ?_
    refine G_getR (g_da dt_B_job 7 rfl) sh_0 fl_0_19 rfl ?_
    refine H_getI (g_da dt_B_job 8 rfl) sh_5 fl_0_97 rfl (hJc 5 rfl) ?_
    exact G_ireturn (g_da dt_B_job 9 rfl) rfl rfl rfl (g_nz rfl) (q_e h)
  · have h := o_f hc1 h
    have h := o_f hc2 h
    have h := o_t hc3 h
    refine G_aload_n (g_da dt_B_job 10 rfl) rfl rfl ?_
    refine G_getR (g_da dt_B_job 11 rfl) sh_0 fl_0_19 rfl ?_
    refine H_getI (g_da dt_B_job 12 rfl) sh_5 fl_0_103 rfl (hJc 5 rfl) ?_
    exact G_ireturn (g_da dt_B_job 13 rfl) rfl rfl rfl (g_nz rfl) (q_e h)
  · have h := o_f hc1 h
    have h := o_f hc2 h
    have h := o_f hc3 h
    have h := o_t hc4 h
    refine G_aload_n (g_da dt_B_job 14 rfl) rfl rfl ?_
    refine G_getR (g_da dt_B_job 15 rfl) sh_0 fl_0_19 rfl ?_
    refine G_getR (g_da dt_B_job 16 rfl) sh_5 fl_0_83 rfl ?_
    refine H_getI (g_da dt_B_job 17 rfl) sh_34 fl_0_87 rfl (hJc 34 rfl) ?_
    exact G_ireturn (g_da dt_B_job 18 rfl) rfl rfl rfl (g_nz rfl) (q_e h)
  · have h := o_f hc1 h
    have h := o_f hc2 h
    have h := o_f hc3 h
    have h := o_f hc4 h
    have h := o_t hc5 h
    refine G_aload_n (g_da dt_B_job 19 rfl) rfl rfl ?_
    refine G_getR (g_da dt_B_job 20 rfl) sh_0 fl_0_19 rfl ?_
    refine H_getI (g_da dt_B_job 21 rfl) sh_5 fl_0_106 rfl (hJc 5 rfl) ?_
    exact G_ireturn (g_da dt_B_job 22 rfl) rfl rfl rfl (g_nz rfl) (q_e h)
  · have h := o_f hc1 h
    have h := o_f hc2 h
    have h := o_f hc3 h
    have h := o_f hc4 h
    have h := o_f hc5 h
    have h := o_t hc6 h
    refine G_aload_n (g_da dt_B_job 23 rfl) rfl rfl ?_
    refine G_getR (g_da dt_B_job 24 rfl) sh_0 fl_0_19 rfl ?_
    refine G_getR (g_da dt_B_job 25 rfl) sh_5 fl_0_83 rfl ?_
    refine H_getI (g_da dt_B_job 26 rfl) sh_34 fl_0_109 rfl (hJc 34 rfl) ?_
    exact G_ireturn (g_da dt_B_job 27 rfl) rfl rfl rfl (g_nz rfl) (q_e h)
  · have h := o_f hc1 h
    have h := o_f hc2 h
    have h := o_f hc3 h
    have h := o_f hc4 h
    have h := o_f hc5 h
    have h := o_f hc6 h
    have h := o_t hc7 h
    refine G_aload_n (g_da dt_B_job 28 rfl) rfl rfl ?_
    refine G_getR (g_da dt_B_job 29 rfl) sh_0 fl_0_19 rfl ?_
    refine G_getR (g_da dt_B_job 30 rfl) sh_5 fl_0_112 rfl ?_
    refine H_getI (g_da dt_B_job 31 rfl) sh_18 fl_0_116 rfl (hJc 18 rfl) ?_
    exact G_ireturn (g_da dt_B_job 32 rfl) rfl rfl rfl (g_nz rfl) (q_e h)
  · have h := o_f hc1 h
    have h := o_f hc2 h
    have h := o_f hc3 h
    have h := o_f hc4 h
    have h := o_f hc5 h
    have h := o_f hc6 h
    have h := o_f hc7 h
    have h := o_t hc8 h
    refine G_aload_n (g_da dt_B_job 33 rfl) rfl rfl ?_
    refine G_getR (g_da dt_B_job 34 rfl) sh_0 fl_0_19 rfl ?_
    refine G_getR (g_da dt_B_job 35 rfl) sh_5 fl_0_121 rfl ?_
    refine H_getI (g_da dt_B_job 36 rfl) sh_28 fl_0_125 rfl (hJc 28 rfl) ?_
    exact G_ireturn (g_da dt_B_job 37 rfl) rfl rfl rfl (g_nz rfl) (q_e h)
  · have h := o_f hc1 h
    have h := o_f hc2 h
    have h := o_f hc3 h
    have h := o_f hc4 h
    have h := o_f hc5 h
    have h := o_f hc6 h
    have h := o_f hc7 h
    have h := o_f hc8 h
    have h := o_t hc9 h
    refine G_aload_n (g_da dt_B_job 38 rfl) rfl rfl ?_
    refine G_getR (g_da dt_B_job 39 rfl) sh_0 fl_0_19 rfl ?_
    refine G_getR (g_da dt_B_job 40 rfl) sh_5 fl_0_128 rfl ?_
    obtain ⟨r10, s11, hc12, h⟩ := o_b h
    refine H_cVE (Settings_greyNow_ok hJc hc12) (g_da dt_B_job 41 rfl) lk_0_132 mv_Settings_greyNow rfl sh_21 rfl rfl rfl rfl rfl rfl ?_
    exact G_ireturn (g_da dt_B_job 42 rfl) rfl rfl rfl (g_nz rfl) (q_e h)
  · have h := o_f hc1 h
    have h := o_f hc2 h
    have h := o_f hc3 h
    have h := o_f hc4 h
    have h := o_f hc5 h
    have h := o_f hc6 h
    have h := o_f hc7 h
    have h := o_f hc8 h
    have h := o_f hc9 h
    refine G_iconst (g_da dt_B_job 43 rfl) ?_
    exact G_ireturn (g_da dt_B_job 44 rfl) rfl rfl rfl (g_nz rfl) (q_e h)
set_option maxHeartbeats 4000000 in
set_option maxRecDepth 100000 in
theorem B_load_ok {J : gS → gS} (hJc : g_jc J) {z0 : Int} {s0 : gS} {a1 : Int} {s : gS} (h : B_load a1 s = some (z0, s0)) : Ct M_B_load g_S [.ref 0, gi a1] (J s) (QE g_S J z0 s0) := by
  refine Ct_of [some (.ref 0), some (gi a1)] (plainFor_of_name (by decide)) rfl (Nat.le_of_ble_eq_true rfl) rfl (by decide) q_rE ?_
  unfold B_load at h
  refine G_iload_n (g_da dt_B_load 0 rfl) rfl rfl ?_
  refine G_iconst (g_da dt_B_load 1 rfl) ?_
  refine G_icmp_lt (g_da dt_B_load 2 rfl) rfl rfl w_1 (fun hc1 => ?_) (fun hc1 => ?_)
  · have h := o_t hc1 h
    refine G_iconst (g_da dt_B_load 13 rfl) ?_
    exact G_ireturn (g_da dt_B_load 14 rfl) rfl rfl rfl (g_nz rfl) (q_e h)
  · have h := o_f hc1 h
    refine G_iload_n (g_da dt_B_load 3 rfl) rfl rfl ?_
    refine G_sipush (g_da dt_B_load 4 rfl) s16w_200 ?_
    refine G_icmp_gt (g_da dt_B_load 5 rfl) rfl rfl w_200 (fun hc2 => ?_) (fun hc2 => ?_)
    · have h := o_t hc2 h
      refine G_iconst (g_da dt_B_load 13 rfl) ?_
      exact G_ireturn (g_da dt_B_load 14 rfl) rfl rfl rfl (g_nz rfl) (q_e h)
    · have h := o_f hc2 h
      refine G_aload_n (g_da dt_B_load 6 rfl) rfl rfl ?_
      refine G_getR (g_da dt_B_load 7 rfl) sh_0 fl_0_35 rfl ?_
      refine H_getI (g_da dt_B_load 8 rfl) sh_40 fl_0_179 rfl (hJc 40 rfl) ?_
      refine G_iload_n (g_da dt_B_load 9 rfl) rfl rfl ?_
      refine G_iadd (g_da dt_B_load 10 rfl) ?_
      refine G_sipush (g_da dt_B_load 11 rfl) s16w_500 ?_
      refine G_icmp_le (g_da dt_B_load 12 rfl) rfl rfl w_500 (fun hc3 => ?_) (fun hc3 => ?_)
      · have h := o_t hc3 h
        refine G_aload_n (g_da dt_B_load 15 rfl) rfl rfl ?_
        refine G_getR (g_da dt_B_load 16 rfl) sh_0 fl_0_35 rfl ?_
        refine G_dup (g_da dt_B_load 17 rfl) rfl ?_
        refine H_getI (g_da dt_B_load 18 rfl) sh_40 fl_0_179 rfl (hJc 40 rfl) ?_
        refine G_iload_n (g_da dt_B_load 19 rfl) rfl rfl ?_
        refine G_iadd (g_da dt_B_load 20 rfl) ?_
        refine H_putI (g_da dt_B_load 21 rfl) sh_40 fp_0_179 rfl (hJc 40 rfl) (fun s4 e5 => ?_)
        have h := o_l h s4 e5
        refine G_aload_n (g_da dt_B_load 22 rfl) rfl rfl ?_
        refine G_getR (g_da dt_B_load 23 rfl) sh_0 fl_0_35 rfl ?_
        refine H_getI (g_da dt_B_load 24 rfl) sh_40 fl_0_179 rfl (hJc 40 rfl) ?_
        exact G_ireturn (g_da dt_B_load 25 rfl) rfl rfl rfl (g_nz rfl) (q_e h)
      · have h := o_f hc3 h
        refine G_iconst (g_da dt_B_load 13 rfl) ?_
        exact G_ireturn (g_da dt_B_load 14 rfl) rfl rfl rfl (g_nz rfl) (q_e h)
set_option maxHeartbeats 4000000 in
set_option maxRecDepth 100000 in
theorem B_octet_ok {J : gS → gS} (hJc : g_jc J) {z0 : Int} {s0 : gS} {a1 a2 a3 : Int} {s : gS} (h : B_octet a1 a2 a3 s = some (z0, s0)) : Ct M_B_octet g_S [.ref 0, gi a1, gi a2, gi a3] (J s) (QE g_S J z0 s0) := by
  refine Ct_of [some (.ref 0), some (gi a1), some (gi a2), some (gi a3)] (plainFor_of_name (by decide)) rfl (Nat.le_of_ble_eq_true rfl) rfl (by decide) q_rE ?_
  unfold B_octet at h
  refine G_aload_n (g_da dt_B_octet 0 rfl) rfl rfl ?_
  refine G_getR (g_da dt_B_octet 1 rfl) sh_0 fl_0_19 rfl ?_
  refine G_getR (g_da dt_B_octet 2 rfl) sh_5 fl_0_83 rfl ?_
  refine G_iload_n (g_da dt_B_octet 3 rfl) rfl rfl ?_
  obtain ⟨r1, s2, hc3, h⟩ := o_b h
  refine H_cVE (Pages_isKept_ok hJc hc3) (g_da dt_B_octet 4 rfl) lk_0_152 mv_Pages_isKept rfl sh_34 rfl rfl rfl rfl rfl rfl ?_
  refine G_if_eq (g_da dt_B_octet 5 rfl) rfl rfl  (fun hc4 => ?_) (fun hc4 => ?_)
  · have h := o_t hc4 h
    refine G_iconst (g_da dt_B_octet 11 rfl) ?_
    exact G_ireturn (g_da dt_B_octet 12 rfl) rfl rfl rfl (g_nz rfl) (q_e h)
  · have h := o_f hc4 h
    refine G_iload_n (g_da dt_B_octet 6 rfl) rfl rfl ?_
    refine G_if_lt (g_da dt_B_octet 7 rfl) rfl rfl  (fun hc5 => ?_) (fun hc5 => ?_)
    · have h := o_t hc5 h
      refine G_iconst (g_da dt_B_octet 11 rfl) ?_
      exact G_ireturn (g_da dt_B_octet 12 rfl) rfl rfl rfl (g_nz rfl) (q_e h)
    · have h := o_f hc5 h
      refine G_iload_n (g_da dt_B_octet 8 rfl) rfl rfl ?_
      refine G_bipush (g_da dt_B_octet 9 rfl) b8w_6 ?_
      refine G_icmp_lt (g_da dt_B_octet 10 rfl) rfl rfl w_6 (fun hc6 => ?_) (fun hc6 => ?_)
      · have h := o_t hc6 h
        refine G_aload_n (g_da dt_B_octet 13 rfl) rfl rfl ?_
        refine G_getR (g_da dt_B_octet 14 rfl) sh_0 fl_0_42 rfl ?_
        refine G_aload_n (g_da dt_B_octet 15 rfl) rfl rfl ?_
        refine G_getR (g_da dt_B_octet 16 rfl) sh_0 fl_0_19 rfl ?_
        refine G_getR (g_da dt_B_octet 17 rfl) sh_5 fl_0_83 rfl ?_
        refine G_iload_n (g_da dt_B_octet 18 rfl) rfl rfl ?_
        refine G_iload_n (g_da dt_B_octet 19 rfl) rfl rfl ?_
        obtain ⟨r7, s8, hc9, h⟩ := o_b h
        refine H_cVG (Packer_pack_ok hJc hc9) (g_da dt_B_octet 20 rfl) lk_0_156 mv_Packer_pack rfl sh_46 rfl rfl rfl rfl rfl rfl ?_
        refine G_iload_n (g_da dt_B_octet 21 rfl) rfl rfl ?_
        refine G_if_lt (g_da dt_B_octet 22 rfl) rfl rfl  (fun hc10 => ?_) (fun hc10 => ?_)
        · have h := o_t hc10 h
          refine G_iconst (g_da dt_B_octet 28 rfl) ?_
          refine G_goto (g_da dt_B_octet 29 rfl) rfl ?_
          exact G_ireturn (g_da dt_B_octet 35 rfl) rfl rfl rfl (g_nz rfl) (q_e h)
        · have h := o_f hc10 h
          refine G_iload_n (g_da dt_B_octet 23 rfl) rfl rfl ?_
          refine G_aload_n (g_da dt_B_octet 24 rfl) rfl rfl ?_
          refine G_getR (g_da dt_B_octet 25 rfl) sh_0 fl_0_42 rfl ?_
          refine H_getI (g_da dt_B_octet 26 rfl) sh_46 fl_0_160 rfl (hJc 46 rfl) ?_
          refine G_icmp_lt (g_da dt_B_octet 27 rfl) rfl rfl rfl (fun hc11 => ?_) (fun hc11 => ?_)
          · have h := o_t hc11 h
            refine G_aload_n (g_da dt_B_octet 30 rfl) rfl rfl ?_
            refine G_getR (g_da dt_B_octet 31 rfl) sh_0 fl_0_42 rfl ?_
            refine G_getR (g_da dt_B_octet 32 rfl) sh_46 fl_0_161 rfl ?_
            refine G_iload_n (g_da dt_B_octet 33 rfl) rfl rfl ?_
            obtain ⟨hb12, h⟩ := o_g h
            refine H_iaload (g_da dt_B_octet 34 rfl) sh_47 (hJc 47 rfl) rfl hb12 rfl ?_
            exact G_ireturn (g_da dt_B_octet 35 rfl) rfl rfl rfl (g_nz rfl) (q_e h)
          · have h := o_f hc11 h
            refine G_iconst (g_da dt_B_octet 28 rfl) ?_
            refine G_goto (g_da dt_B_octet 29 rfl) rfl ?_
            exact G_ireturn (g_da dt_B_octet 35 rfl) rfl rfl rfl (g_nz rfl) (q_e h)
      · have h := o_f hc6 h
        refine G_iconst (g_da dt_B_octet 11 rfl) ?_
        exact G_ireturn (g_da dt_B_octet 12 rfl) rfl rfl rfl (g_nz rfl) (q_e h)
set_option maxHeartbeats 4000000 in
set_option maxRecDepth 100000 in
theorem Order_sides_ok {J : gS → gS} (hJc : g_jc J) {z0 : Int} {s0 : gS} {s : gS} (h : Order_sides s = some (z0, s0)) : Ct M_Order_sides g_S [.ref 37] (J s) (QE g_S J z0 s0) := by
  refine Ct_of [some (.ref 37)] (plainFor_of_name (by decide)) rfl (Nat.le_of_ble_eq_true rfl) rfl (by decide) q_rE ?_
  unfold Order_sides at h
  refine G_aload_n (g_da dt_Order_sides 0 rfl) rfl rfl ?_
  refine H_getI (g_da dt_Order_sides 1 rfl) sh_37 fl_4_23 rfl (hJc 37 rfl) ?_
  refine G_if_eq (g_da dt_Order_sides 2 rfl) rfl rfl  (fun hc1 => ?_) (fun hc1 => ?_)
  · have h := o_t hc1 h
    refine G_iconst (g_da dt_Order_sides 5 rfl) ?_
    exact G_ireturn (g_da dt_Order_sides 6 rfl) rfl rfl rfl (g_nz rfl) (q_e h)
  · have h := o_f hc1 h
    refine G_iconst (g_da dt_Order_sides 3 rfl) ?_
    refine G_goto (g_da dt_Order_sides 4 rfl) rfl ?_
    exact G_ireturn (g_da dt_Order_sides 6 rfl) rfl rfl rfl (g_nz rfl) (q_e h)
set_option maxHeartbeats 4000000 in
set_option maxRecDepth 100000 in
theorem Order_firstPage_ok {J : gS → gS} (hJc : g_jc J) {z0 : Int} {s0 : gS} {a1 : Int} {s : gS} (h : Order_firstPage a1 s = some (z0, s0)) : Ct M_Order_firstPage g_S [.ref 37, gi a1] (J s) (QE g_S J z0 s0) := by
  refine Ct_of [some (.ref 37), some (gi a1)] (plainFor_of_name (by decide)) rfl (Nat.le_of_ble_eq_true rfl) rfl (by decide) q_rE ?_
  unfold Order_firstPage at h
  refine G_aload_n (g_da dt_Order_firstPage 0 rfl) rfl rfl ?_
  refine H_getI (g_da dt_Order_firstPage 1 rfl) sh_37 fl_4_30 rfl (hJc 37 rfl) ?_
  refine G_if_ne (g_da dt_Order_firstPage 2 rfl) rfl rfl  (fun hc1 => ?_) (fun hc1 => ?_)
  · have h := o_f hc1 h
    refine G_iload_n (g_da dt_Order_firstPage 5 rfl) rfl rfl ?_
    refine G_aload_n (g_da dt_Order_firstPage 6 rfl) rfl rfl ?_
    refine H_getI (g_da dt_Order_firstPage 7 rfl) sh_37 fl_4_30 rfl (hJc 37 rfl) ?_
    obtain ⟨hz2, h⟩ := o_g h
    refine G_irem (g_da dt_Order_firstPage 8 rfl) hz2 ?_
    refine G_aload_n (g_da dt_Order_firstPage 9 rfl) rfl rfl ?_
    obtain ⟨r3, s4, hc5, h⟩ := o_b h
    refine H_cVE (Order_sides_ok hJc hc5) (g_da dt_Order_firstPage 10 rfl) lk_4_49 mv_Order_sides rfl sh_37 rfl rfl rfl rfl rfl rfl ?_
    refine G_imul (g_da dt_Order_firstPage 11 rfl) ?_
    exact G_ireturn (g_da dt_Order_firstPage 12 rfl) rfl rfl rfl (g_nz rfl) (q_e h)
  · have h := o_t hc1 h
    refine G_iconst (g_da dt_Order_firstPage 3 rfl) ?_
    refine G_goto (g_da dt_Order_firstPage 4 rfl) rfl ?_
    exact G_ireturn (g_da dt_Order_firstPage 12 rfl) rfl rfl rfl (g_nz rfl) (q_e h)
set_option maxHeartbeats 4000000 in
set_option maxRecDepth 100000 in
theorem Order_secondPage_ok {J : gS → gS} (hJc : g_jc J) {z0 : Int} {s0 : gS} {a1 : Int} {s : gS} (h : Order_secondPage a1 s = some (z0, s0)) : Ct M_Order_secondPage g_S [.ref 37, gi a1] (J s) (QE g_S J z0 s0) := by
  refine Ct_of [some (.ref 37), some (gi a1), none] (plainFor_of_name (by decide)) rfl (Nat.le_of_ble_eq_true rfl) rfl (by decide) q_rE ?_
  unfold Order_secondPage at h
  refine G_aload_n (g_da dt_Order_secondPage 0 rfl) rfl rfl ?_
  refine G_iload_n (g_da dt_Order_secondPage 1 rfl) rfl rfl ?_
  obtain ⟨r1, s2, hc3, h⟩ := o_b h
  refine H_cVE (Order_firstPage_ok hJc hc3) (g_da dt_Order_secondPage 2 rfl) lk_4_53 mv_Order_firstPage rfl sh_37 rfl rfl rfl rfl rfl rfl ?_
  refine G_iconst (g_da dt_Order_secondPage 3 rfl) ?_
  refine G_iadd (g_da dt_Order_secondPage 4 rfl) ?_
  refine H_topi (fun v4 e5 => ?_)
  have h := o_l h v4 e5
  refine G_istore_n (lv' := [_, _, _]) (g_da dt_Order_secondPage 5 rfl) rfl (Nat.le_of_ble_eq_true rfl) rfl rfl ?_
  refine G_aload_n (g_da dt_Order_secondPage 6 rfl) rfl rfl ?_
  refine H_getI (g_da dt_Order_secondPage 7 rfl) sh_37 fl_4_23 rfl (hJc 37 rfl) ?_
  refine G_if_eq (g_da dt_Order_secondPage 8 rfl) rfl rfl  (fun hc6 => ?_) (fun hc6 => ?_)
  · have h := o_t hc6 h
    refine G_iconst (g_da dt_Order_secondPage 15 rfl) ?_
    exact G_ireturn (g_da dt_Order_secondPage 16 rfl) rfl rfl rfl (g_nz rfl) (q_e h)
  · have h := o_f hc6 h
    refine G_iload_n (g_da dt_Order_secondPage 9 rfl) rfl rfl ?_
    refine G_aload_n (g_da dt_Order_secondPage 10 rfl) rfl rfl ?_
    refine H_getI (g_da dt_Order_secondPage 11 rfl) sh_37 fl_4_27 rfl (hJc 37 rfl) ?_
    refine G_icmp_ge (g_da dt_Order_secondPage 12 rfl) rfl rfl rfl (fun hc7 => ?_) (fun hc7 => ?_)
    · have h := o_t hc7 h
      refine G_iconst (g_da dt_Order_secondPage 15 rfl) ?_
      exact G_ireturn (g_da dt_Order_secondPage 16 rfl) rfl rfl rfl (g_nz rfl) (q_e h)
    · have h := o_f hc7 h
      refine G_iload_n (g_da dt_Order_secondPage 13 rfl) rfl rfl ?_
      refine G_goto (g_da dt_Order_secondPage 14 rfl) rfl ?_
      exact G_ireturn (g_da dt_Order_secondPage 16 rfl) rfl rfl rfl (g_nz rfl) (q_e h)
set_option maxHeartbeats 4000000 in
set_option maxRecDepth 100000 in
theorem Order_copyOf_ok {J : gS → gS} (hJc : g_jc J) {z0 : Int} {s0 : gS} {a1 : Int} {s : gS} (h : Order_copyOf a1 s = some (z0, s0)) : Ct M_Order_copyOf g_S [.ref 37, gi a1] (J s) (QE g_S J z0 s0) := by
  refine Ct_of [some (.ref 37), some (gi a1)] (plainFor_of_name (by decide)) rfl (Nat.le_of_ble_eq_true rfl) rfl (by decide) q_rE ?_
  unfold Order_copyOf at h
  refine G_aload_n (g_da dt_Order_copyOf 0 rfl) rfl rfl ?_
  refine H_getI (g_da dt_Order_copyOf 1 rfl) sh_37 fl_4_30 rfl (hJc 37 rfl) ?_
  refine G_if_ne (g_da dt_Order_copyOf 2 rfl) rfl rfl  (fun hc1 => ?_) (fun hc1 => ?_)
  · have h := o_f hc1 h
    refine G_iload_n (g_da dt_Order_copyOf 5 rfl) rfl rfl ?_
    refine G_aload_n (g_da dt_Order_copyOf 6 rfl) rfl rfl ?_
    refine H_getI (g_da dt_Order_copyOf 7 rfl) sh_37 fl_4_30 rfl (hJc 37 rfl) ?_
    obtain ⟨hz2, h⟩ := o_g h
    refine G_idiv (g_da dt_Order_copyOf 8 rfl) hz2 ?_
    exact G_ireturn (g_da dt_Order_copyOf 9 rfl) rfl rfl rfl (g_nz rfl) (q_e h)
  · have h := o_t hc1 h
    refine G_iconst (g_da dt_Order_copyOf 3 rfl) ?_
    refine G_goto (g_da dt_Order_copyOf 4 rfl) rfl ?_
    exact G_ireturn (g_da dt_Order_copyOf 9 rfl) rfl rfl rfl (g_nz rfl) (q_e h)
set_option maxHeartbeats 4000000 in
set_option maxRecDepth 100000 in
theorem B_out_ok {J : gS → gS} (hJc : g_jc J) {z0 : Int} {s0 : gS} {a1 a2 : Int} {s : gS} (h : B_out a1 a2 s = some (z0, s0)) : Ct M_B_out g_S [.ref 0, gi a1, gi a2] (J s) (QE g_S J z0 s0) := by
  refine Ct_of [some (.ref 0), some (gi a1), some (gi a2), none] (plainFor_of_name (by decide)) rfl (Nat.le_of_ble_eq_true rfl) rfl (by decide) q_rE ?_
  unfold B_out at h
  refine G_iload_n (g_da dt_B_out 0 rfl) rfl rfl ?_
  refine G_if_lt (g_da dt_B_out 1 rfl) rfl rfl  (fun hc1 => ?_) (fun hc1 => ?_)
  · have h := o_t hc1 h
    refine G_iconst (g_da dt_B_out 7 rfl) ?_
    exact G_ireturn (g_da dt_B_out 8 rfl) rfl rfl rfl (g_nz rfl) (q_e h)
  · have h := o_f hc1 h
    refine G_iload_n (g_da dt_B_out 2 rfl) rfl rfl ?_
    refine G_aload_n (g_da dt_B_out 3 rfl) rfl rfl ?_
    refine G_getR (g_da dt_B_out 4 rfl) sh_0 fl_0_26 rfl ?_
    refine H_getI (g_da dt_B_out 5 rfl) sh_37 fl_0_192 rfl (hJc 37 rfl) ?_
    refine G_icmp_lt (g_da dt_B_out 6 rfl) rfl rfl rfl (fun hc2 => ?_) (fun hc2 => ?_)
    · have h := o_t hc2 h
      refine G_aload_n (g_da dt_B_out 9 rfl) rfl rfl ?_
      refine G_getR (g_da dt_B_out 10 rfl) sh_0 fl_0_26 rfl ?_
      refine G_getR (g_da dt_B_out 11 rfl) sh_37 fl_0_195 rfl ?_
      refine G_iload_n (g_da dt_B_out 12 rfl) rfl rfl ?_
      obtain ⟨hb3, h⟩ := o_g h
      refine H_iaload (g_da dt_B_out 13 rfl) sh_38 (hJc 38 rfl) rfl hb3 rfl ?_
      refine H_topi (fun v4 e5 => ?_)
      have h := o_l h v4 e5
      refine G_istore_n (lv' := [_, _, _, _]) (g_da dt_B_out 14 rfl) rfl (Nat.le_of_ble_eq_true rfl) rfl rfl ?_
      refine G_iload_n (g_da dt_B_out 15 rfl) rfl rfl ?_
      refine G_table [(0, 60), (1, 62), (2, 71), (3, 80)] 89 (g_da dt_B_out 16 rfl) rfl rfl rfl ⟨fun hc6 => ?_, fun hc6 => ⟨fun hc7 => ?_, fun hc7 => ⟨fun hc8 => ?_, fun hc8 => ⟨fun hc9 => ?_, fun hc9 => ?_⟩⟩⟩⟩
      · have h := o_t hc6 h
        refine G_iload_n (g_da dt_B_out 17 rfl) rfl rfl ?_
        exact G_ireturn (g_da dt_B_out 18 rfl) rfl rfl rfl (g_nz rfl) (q_e h)
      · have h := o_f hc6 h
        have h := o_t hc7 h
        refine G_aload_n (g_da dt_B_out 19 rfl) rfl rfl ?_
        refine G_getR (g_da dt_B_out 20 rfl) sh_0 fl_0_26 rfl ?_
        refine G_iload_n (g_da dt_B_out 21 rfl) rfl rfl ?_
        obtain ⟨r10, s11, hc12, h⟩ := o_b h
        refine H_cVE (Order_copyOf_ok hJc hc12) (g_da dt_B_out 22 rfl) lk_0_198 mv_Order_copyOf rfl sh_37 rfl rfl rfl rfl rfl rfl ?_
        exact G_ireturn (g_da dt_B_out 23 rfl) rfl rfl rfl (g_nz rfl) (q_e h)
      · have h := o_f hc6 h
        have h := o_f hc7 h
        have h := o_t hc8 h
        refine G_aload_n (g_da dt_B_out 24 rfl) rfl rfl ?_
        refine G_getR (g_da dt_B_out 25 rfl) sh_0 fl_0_26 rfl ?_
        refine G_iload_n (g_da dt_B_out 26 rfl) rfl rfl ?_
        obtain ⟨r13, s14, hc15, h⟩ := o_b h
        refine H_cVE (Order_firstPage_ok hJc hc15) (g_da dt_B_out 27 rfl) lk_0_201 mv_Order_firstPage rfl sh_37 rfl rfl rfl rfl rfl rfl ?_
        exact G_ireturn (g_da dt_B_out 28 rfl) rfl rfl rfl (g_nz rfl) (q_e h)
      · have h := o_f hc6 h
        have h := o_f hc7 h
        have h := o_f hc8 h
        have h := o_t hc9 h
        refine G_aload_n (g_da dt_B_out 29 rfl) rfl rfl ?_
        refine G_getR (g_da dt_B_out 30 rfl) sh_0 fl_0_26 rfl ?_
        refine G_iload_n (g_da dt_B_out 31 rfl) rfl rfl ?_
        obtain ⟨r16, s17, hc18, h⟩ := o_b h
        refine H_cVE (Order_secondPage_ok hJc hc18) (g_da dt_B_out 32 rfl) lk_0_204 mv_Order_secondPage rfl sh_37 rfl rfl rfl rfl rfl rfl ?_
        exact G_ireturn (g_da dt_B_out 33 rfl) rfl rfl rfl (g_nz rfl) (q_e h)
      · have h := o_f hc6 h
        have h := o_f hc7 h
        have h := o_f hc8 h
        have h := o_f hc9 h
        refine G_iconst (g_da dt_B_out 34 rfl) ?_
        exact G_ireturn (g_da dt_B_out 35 rfl) rfl rfl rfl (g_nz rfl) (q_e h)
    · have h := o_f hc2 h
      refine G_iconst (g_da dt_B_out 7 rfl) ?_
      exact G_ireturn (g_da dt_B_out 8 rfl) rfl rfl rfl (g_nz rfl) (q_e h)
set_option maxHeartbeats 4000000 in
set_option maxRecDepth 100000 in
theorem B_pixel_ok {J : gS → gS} (hJc : g_jc J) {z0 : Int} {s0 : gS} {a1 a2 a3 : Int} {s : gS} (h : B_pixel a1 a2 a3 s = some (z0, s0)) : Ct M_B_pixel g_S [.ref 0, gi a1, gi a2, gi a3] (J s) (QE g_S J z0 s0) := by
  refine Ct_of [some (.ref 0), some (gi a1), some (gi a2), some (gi a3)] (plainFor_of_name (by decide)) rfl (Nat.le_of_ble_eq_true rfl) rfl (by decide) q_rE ?_
  unfold B_pixel at h
  refine G_iload_n (g_da dt_B_pixel 0 rfl) rfl rfl ?_
  refine G_if_lt (g_da dt_B_pixel 1 rfl) rfl rfl  (fun hc1 => ?_) (fun hc1 => ?_)
  · have h := o_t hc1 h
    refine G_iconst (g_da dt_B_pixel 10 rfl) ?_
    exact G_ireturn (g_da dt_B_pixel 11 rfl) rfl (g_bool (Or.inl w_0)).1 rfl (g_nz rfl) (q_e h)
  · have h := o_f hc1 h
    refine G_iload_n (g_da dt_B_pixel 2 rfl) rfl rfl ?_
    refine G_bipush (g_da dt_B_pixel 3 rfl) b8w_64 ?_
    refine G_icmp_ge (g_da dt_B_pixel 4 rfl) rfl rfl w_64 (fun hc2 => ?_) (fun hc2 => ?_)
    · have h := o_t hc2 h
      refine G_iconst (g_da dt_B_pixel 10 rfl) ?_
      exact G_ireturn (g_da dt_B_pixel 11 rfl) rfl (g_bool (Or.inl w_0)).1 rfl (g_nz rfl) (q_e h)
    · have h := o_f hc2 h
      refine G_iload_n (g_da dt_B_pixel 5 rfl) rfl rfl ?_
      refine G_if_lt (g_da dt_B_pixel 6 rfl) rfl rfl  (fun hc3 => ?_) (fun hc3 => ?_)
      · have h := o_t hc3 h
        refine G_iconst (g_da dt_B_pixel 10 rfl) ?_
        exact G_ireturn (g_da dt_B_pixel 11 rfl) rfl (g_bool (Or.inl w_0)).1 rfl (g_nz rfl) (q_e h)
      · have h := o_f hc3 h
        refine G_iload_n (g_da dt_B_pixel 7 rfl) rfl rfl ?_
        refine G_bipush (g_da dt_B_pixel 8 rfl) b8w_48 ?_
        refine G_icmp_lt (g_da dt_B_pixel 9 rfl) rfl rfl w_48 (fun hc4 => ?_) (fun hc4 => ?_)
        · have h := o_t hc4 h
          refine G_aload_n (g_da dt_B_pixel 12 rfl) rfl rfl ?_
          refine G_getR (g_da dt_B_pixel 13 rfl) sh_0 fl_0_19 rfl ?_
          refine G_getR (g_da dt_B_pixel 14 rfl) sh_5 fl_0_83 rfl ?_
          refine G_iload_n (g_da dt_B_pixel 15 rfl) rfl rfl ?_
          refine G_iload_n (g_da dt_B_pixel 16 rfl) rfl rfl ?_
          obtain ⟨r5, s6, hc7, h⟩ := o_b h
          refine H_cVF (Pages_line_ok hJc hc7) (g_da dt_B_pixel 17 rfl) lk_0_148 mv_Pages_line rfl sh_34 rfl rfl rfl rfl rfl rfl ?_
          refine G_bipush (g_da dt_B_pixel 18 rfl) b8w_63 ?_
          refine G_iload_n (g_da dt_B_pixel 19 rfl) rfl rfl ?_
          refine G_isub (g_da dt_B_pixel 20 rfl) ?_
          refine G_lushr (g_da dt_B_pixel 21 rfl) ?_
          refine G_lconst (z := 1) (g_da dt_B_pixel 22 rfl) rfl ?_
          refine G_land (g_da dt_B_pixel 23 rfl) ?_
          refine G_lconst (z := 0) (g_da dt_B_pixel 24 rfl) rfl ?_
          refine G_lcmp (g_da dt_B_pixel 25 rfl) ?_
          refine G_if_eq (g_da dt_B_pixel 26 rfl) rfl rfl  (fun hc8 => ?_) (fun hc8 => ?_)
          · have h := o_t hc8 h
            refine G_iconst (g_da dt_B_pixel 29 rfl) ?_
            exact G_ireturn (g_da dt_B_pixel 30 rfl) rfl (g_bool (Or.inl w_0)).1 rfl (g_nz rfl) (q_e h)
          · have h := o_f hc8 h
            refine G_iconst (g_da dt_B_pixel 27 rfl) ?_
            refine G_goto (g_da dt_B_pixel 28 rfl) rfl ?_
            exact G_ireturn (g_da dt_B_pixel 30 rfl) rfl (g_bool (Or.inr w_1)).1 rfl (g_nz rfl) (q_e h)
        · have h := o_f hc4 h
          refine G_iconst (g_da dt_B_pixel 10 rfl) ?_
          exact G_ireturn (g_da dt_B_pixel 11 rfl) rfl (g_bool (Or.inl w_0)).1 rfl (g_nz rfl) (q_e h)
set_option maxHeartbeats 4000000 in
set_option maxRecDepth 100000 in
theorem Order_left_ok {J : gS → gS} (hJc : g_jc J) {z0 : Int} {s0 : gS} {s : gS} (h : Order_left s = some (z0, s0)) : Ct M_Order_left g_S [.ref 37] (J s) (QE g_S J z0 s0) := by
  refine Ct_of [some (.ref 37)] (plainFor_of_name (by decide)) rfl (Nat.le_of_ble_eq_true rfl) rfl (by decide) q_rE ?_
  unfold Order_left at h
  refine G_aload_n (g_da dt_Order_left 0 rfl) rfl rfl ?_
  refine H_getI (g_da dt_Order_left 1 rfl) sh_37 fl_4_33 rfl (hJc 37 rfl) ?_
  refine G_aload_n (g_da dt_Order_left 2 rfl) rfl rfl ?_
  refine H_getI (g_da dt_Order_left 3 rfl) sh_37 fl_4_36 rfl (hJc 37 rfl) ?_
  refine G_isub (g_da dt_Order_left 4 rfl) ?_
  exact G_ireturn (g_da dt_Order_left 5 rfl) rfl rfl rfl (g_nz rfl) (q_e h)
set_option maxHeartbeats 4000000 in
set_option maxRecDepth 100000 in
theorem Machine_inside_25_ok {J : gS → gS} (hJc : g_jc J) {z0 : Int} {s0 : gS} {k4 : Int → Int → gS → gA} (hk4 : ∀ (l1 l2 : Int) (s : gS), k4 l1 l2 s = some (z0, s0) → G M_Machine_inside (QE g_S J z0 s0) (g_S, 0, 0) (J s) 4 [some (.ref 40), some (gi l1), some (gi l2)] [])  {l2 t0 t1 : Int} {s : gS} (h : Machine_inside_25 k4 l2 t0 t1 s = some (z0, s0)) : G M_Machine_inside (QE g_S J z0 s0) (g_S, 0, 0) (J s) 25 [some (.ref 40), none, some (gi l2)] [gi t1, gi t0] := by
  unfold Machine_inside_25 at h
  refine G_iadd (g_da dt_Machine_inside 17 rfl) ?_
  refine H_topi (fun v4 e5 => ?_)
  have h := o_l h v4 e5
  refine G_istore_n (lv' := [_, _, _]) (g_da dt_Machine_inside 18 rfl) rfl (Nat.le_of_ble_eq_true rfl) rfl rfl ?_
  refine G_iinc (lv' := [_, _, _]) (g_da dt_Machine_inside 19 rfl) rfl (Nat.le_of_ble_eq_true rfl) rfl rfl ?_
  refine G_goto (g_da dt_Machine_inside 20 rfl) rfl ?_
  exact G_subK (hk4 _ _ _ h) ⟨rfl, ⟨rfl, ⟨rfl, trivial⟩⟩⟩
set_option maxHeartbeats 4000000 in
set_option maxRecDepth 100000 in
theorem Machine_inside_4_ok {J : gS → gS} (hJc : g_jc J) {z0 : Int} {s0 : gS} {k4 : Int → Int → gS → gA} (hk4 : ∀ (l1 l2 : Int) (s : gS), k4 l1 l2 s = some (z0, s0) → G M_Machine_inside (QE g_S J z0 s0) (g_S, 0, 0) (J s) 4 [some (.ref 40), some (gi l1), some (gi l2)] [])  {l1 l2 : Int} {s : gS} (h : Machine_inside_4 k4 l1 l2 s = some (z0, s0)) : G M_Machine_inside (QE g_S J z0 s0) (g_S, 0, 0) (J s) 4 [some (.ref 40), some (gi l1), some (gi l2)] [] := by
  unfold Machine_inside_4 at h
  refine G_iload_n (g_da dt_Machine_inside 4 rfl) rfl rfl ?_
  refine G_iconst (g_da dt_Machine_inside 5 rfl) ?_
  refine G_icmp_ge (g_da dt_Machine_inside 6 rfl) rfl rfl w_4 (fun hc1 => ?_) (fun hc1 => ?_)
  · have h := o_t hc1 h
    refine G_iload_n (g_da dt_Machine_inside 21 rfl) rfl rfl ?_
    exact G_ireturn (g_da dt_Machine_inside 22 rfl) rfl rfl rfl (g_nz rfl) (q_e h)
  · have h := o_f hc1 h
    refine G_iload_n (g_da dt_Machine_inside 7 rfl) rfl rfl ?_
    refine G_aload_n (g_da dt_Machine_inside 8 rfl) rfl rfl ?_
    refine G_getR (g_da dt_Machine_inside 9 rfl) sh_40 fl_5_9 rfl ?_
    refine G_iload_n (g_da dt_Machine_inside 10 rfl) rfl rfl ?_
    obtain ⟨hb2, h⟩ := o_g h
    refine H_iaload (g_da dt_Machine_inside 11 rfl) sh_41 (hJc 41 rfl) rfl hb2 rfl ?_
    refine G_iconst (g_da dt_Machine_inside 12 rfl) ?_
    refine G_icmp_ne (g_da dt_Machine_inside 13 rfl) rfl rfl w_m1 (fun hc3 => ?_) (fun hc3 => ?_)
    · have h := o_f hc3 h
      refine G_iconst (g_da dt_Machine_inside 16 rfl) ?_
      exact G_subK (Machine_inside_25_ok hJc hk4 h) ⟨rfl, ⟨rfl, trivial⟩⟩
    · have h := o_t hc3 h
      refine G_iconst (g_da dt_Machine_inside 14 rfl) ?_
      refine G_goto (g_da dt_Machine_inside 15 rfl) rfl ?_
      exact G_subK (Machine_inside_25_ok hJc hk4 h) ⟨rfl, ⟨rfl, trivial⟩⟩
set_option maxHeartbeats 4000000 in
set_option maxRecDepth 100000 in
theorem Machine_inside_4L_ok {J : gS → gS} (hJc : g_jc J) {z0 : Int} {s0 : gS} : ∀ (n : Nat) {l1 l2 : Int} {s : gS}, Machine_inside_4L n l1 l2 s = some (z0, s0) → G M_Machine_inside (QE g_S J z0 s0) (g_S, 0, 0) (J s) 4 [some (.ref 40), some (gi l1), some (gi l2)] [] := by
  intro n
  induction n with
  | zero => intro _ _ _ h; cases h
  | succ n ih => intro _ _ _ h; exact Machine_inside_4_ok hJc (fun _ _ _ h => ih h) h
set_option maxHeartbeats 4000000 in
set_option maxRecDepth 100000 in
theorem Machine_inside_ok {J : gS → gS} (hJc : g_jc J) {z0 : Int} {s0 : gS} {s : gS} (h : Machine_inside s = some (z0, s0)) : Ct M_Machine_inside g_S [.ref 40] (J s) (QE g_S J z0 s0) := by
  refine Ct_of [some (.ref 40), none, none] (plainFor_of_name (by decide)) rfl (Nat.le_of_ble_eq_true rfl) rfl (by decide) q_rE ?_
  unfold Machine_inside at h
  refine G_iconst (g_da dt_Machine_inside 0 rfl) ?_
  refine G_istore_n (lv' := [_, _, none]) (g_da dt_Machine_inside 1 rfl) rfl (Nat.le_of_ble_eq_true rfl) rfl rfl ?_
  refine G_iconst (g_da dt_Machine_inside 2 rfl) ?_
  refine G_istore_n (lv' := [_, _, _]) (g_da dt_Machine_inside 3 rfl) rfl (Nat.le_of_ble_eq_true rfl) rfl rfl ?_
  exact G_subK (Machine_inside_4L_ok hJc gFu h) ⟨rfl, ⟨rfl, ⟨rfl, trivial⟩⟩⟩
set_option maxHeartbeats 4000000 in
set_option maxRecDepth 100000 in
theorem Machine_state_46_ok {J : gS → gS} (hJc : g_jc J) {z0 : Int} {s0 : gS}  {s : gS} (h : Machine_state_46 s = some (z0, s0)) : G M_Machine_state (QE g_S J z0 s0) (g_S, 0, 0) (J s) 46 [some (.ref 40)] [] := by
  unfold Machine_state_46 at h
  refine G_aload_n (g_da dt_Machine_state 24 rfl) rfl rfl ?_
  refine H_getI (g_da dt_Machine_state 25 rfl) sh_40 fl_5_52 rfl (hJc 40 rfl) ?_
  refine G_bipush (g_da dt_Machine_state 26 rfl) b8w_80 ?_
  refine G_icmp_ge (g_da dt_Machine_state 27 rfl) rfl rfl w_80 (fun hc11 => ?_) (fun hc11 => ?_)
  · have h := o_t hc11 h
    refine G_iconst (g_da dt_Machine_state 30 rfl) ?_
    exact G_ireturn (g_da dt_Machine_state 31 rfl) rfl rfl rfl (g_nz rfl) (q_e h)
  · have h := o_f hc11 h
    refine G_iconst (g_da dt_Machine_state 28 rfl) ?_
    refine G_goto (g_da dt_Machine_state 29 rfl) rfl ?_
    exact G_ireturn (g_da dt_Machine_state 31 rfl) rfl rfl rfl (g_nz rfl) (q_e h)
set_option maxHeartbeats 4000000 in
set_option maxRecDepth 100000 in
theorem Machine_state_ok {J : gS → gS} (hJc : g_jc J) {z0 : Int} {s0 : gS} {s : gS} (h : Machine_state s = some (z0, s0)) : Ct M_Machine_state g_S [.ref 40] (J s) (QE g_S J z0 s0) := by
  refine Ct_of [some (.ref 40)] (plainFor_of_name (by decide)) rfl (Nat.le_of_ble_eq_true rfl) rfl (by decide) q_rE ?_
  unfold Machine_state at h
  refine G_aload_n (g_da dt_Machine_state 0 rfl) rfl rfl ?_
  refine H_getI (g_da dt_Machine_state 1 rfl) sh_40 fl_5_32 rfl (hJc 40 rfl) ?_
  refine G_if_eq (g_da dt_Machine_state 2 rfl) rfl rfl  (fun hc1 => ?_) (fun hc1 => ?_)
  · have h := o_t hc1 h
    refine G_aload_n (g_da dt_Machine_state 5 rfl) rfl rfl ?_
    refine H_getI (g_da dt_Machine_state 6 rfl) sh_40 fl_5_36 rfl (hJc 40 rfl) ?_
    refine G_if_eq (g_da dt_Machine_state 7 rfl) rfl rfl  (fun hc2 => ?_) (fun hc2 => ?_)
    · have h := o_t hc2 h
      refine G_aload_n (g_da dt_Machine_state 10 rfl) rfl rfl ?_
      refine G_getR (g_da dt_Machine_state 11 rfl) sh_40 fl_5_28 rfl ?_
      obtain ⟨r3, s4, hc5, h⟩ := o_b h
      refine H_cVE (Order_left_ok hJc hc5) (g_da dt_Machine_state 12 rfl) lk_5_39 mv_Order_left rfl sh_37 rfl rfl rfl rfl rfl rfl ?_
      refine G_if_ne (g_da dt_Machine_state 13 rfl) rfl rfl  (fun hc6 => ?_) (fun hc6 => ?_)
      · have h := o_f hc6 h
        refine G_aload_n (g_da dt_Machine_state 16 rfl) rfl rfl ?_
        obtain ⟨r7, s8, hc9, h⟩ := o_b h
        refine H_cVE (Machine_inside_ok hJc hc9) (g_da dt_Machine_state 17 rfl) lk_5_45 mv_Machine_inside rfl sh_40 rfl rfl rfl rfl rfl rfl ?_
        refine G_if_ne (g_da dt_Machine_state 18 rfl) rfl rfl  (fun hc10 => ?_) (fun hc10 => ?_)
        · have h := o_f hc10 h
          exact G_subK (Machine_state_46_ok hJc h) ⟨rfl, trivial⟩
        · have h := o_t hc10 h
          refine G_aload_n (g_da dt_Machine_state 19 rfl) rfl rfl ?_
          refine H_getI (g_da dt_Machine_state 20 rfl) sh_40 fl_5_48 rfl (hJc 40 rfl) ?_
          refine G_if_ne (g_da dt_Machine_state 21 rfl) rfl rfl  (fun hc12 => ?_) (fun hc12 => ?_)
          · have h := o_f hc12 h
            exact G_subK (Machine_state_46_ok hJc h) ⟨rfl, trivial⟩
          · have h := o_t hc12 h
            refine G_iconst (g_da dt_Machine_state 22 rfl) ?_
            exact G_ireturn (g_da dt_Machine_state 23 rfl) rfl rfl rfl (g_nz rfl) (q_e h)
      · have h := o_t hc6 h
        refine G_iconst (g_da dt_Machine_state 14 rfl) ?_
        exact G_ireturn (g_da dt_Machine_state 15 rfl) rfl rfl rfl (g_nz rfl) (q_e h)
    · have h := o_f hc2 h
      refine G_iconst (g_da dt_Machine_state 8 rfl) ?_
      exact G_ireturn (g_da dt_Machine_state 9 rfl) rfl rfl rfl (g_nz rfl) (q_e h)
  · have h := o_f hc1 h
    refine G_iconst (g_da dt_Machine_state 3 rfl) ?_
    exact G_ireturn (g_da dt_Machine_state 4 rfl) rfl rfl rfl (g_nz rfl) (q_e h)
set_option maxHeartbeats 4000000 in
set_option maxRecDepth 100000 in
theorem B_press_ok {J : gS → gS} (hJc : g_jc J) {z0 : Int} {s0 : gS} {a1 : Int} {s : gS} (h : B_press a1 s = some (z0, s0)) : Ct M_B_press g_S [.ref 0, gi a1] (J s) (QE g_S J z0 s0) := by
  refine Ct_of [some (.ref 0), some (gi a1)] (plainFor_of_name (by decide)) rfl (Nat.le_of_ble_eq_true rfl) rfl (by decide) q_rE ?_
  unfold B_press at h
  refine G_iload_n (g_da dt_B_press 0 rfl) rfl rfl ?_
  refine G_table [(0, 44), (1, 52), (2, 60), (3, 68), (4, 76), (5, 84), (6, 92)] 100 (g_da dt_B_press 1 rfl) rfl rfl rfl ⟨fun hc1 => ?_, fun hc1 => ⟨fun hc2 => ?_, fun hc2 => ⟨fun hc3 => ?_, fun hc3 => ⟨fun hc4 => ?_, fun hc4 => ⟨fun hc5 => ?_, fun hc5 => ⟨fun hc6 => ?_, fun hc6 => ⟨fun hc7 => ?_, fun hc7 => ?_⟩⟩⟩⟩⟩⟩⟩
  · have h := o_t hc1 h
    refine G_aload_n (g_da dt_B_press 2 rfl) rfl rfl ?_
    refine G_getR (g_da dt_B_press 3 rfl) sh_0 fl_0_35 rfl ?_
    obtain ⟨r8, s9, hc10, h⟩ := o_b h
    refine H_cVE (Machine_state_ok hJc hc10) (g_da dt_B_press 4 rfl) lk_0_167 mv_Machine_state rfl sh_40 rfl rfl rfl rfl rfl rfl ?_
    exact G_ireturn (g_da dt_B_press 5 rfl) rfl rfl rfl (g_nz rfl) (q_e h)
  · have h := o_f hc1 h
    have h := o_t hc2 h
    refine G_aload_n (g_da dt_B_press 6 rfl) rfl rfl ?_
    refine G_getR (g_da dt_B_press 7 rfl) sh_0 fl_0_35 rfl ?_
    refine H_getI (g_da dt_B_press 8 rfl) sh_40 fl_0_207 rfl (hJc 40 rfl) ?_
    exact G_ireturn (g_da dt_B_press 9 rfl) rfl rfl rfl (g_nz rfl) (q_e h)
  · have h := o_f hc1 h
    have h := o_f hc2 h
    have h := o_t hc3 h
    refine G_aload_n (g_da dt_B_press 10 rfl) rfl rfl ?_
    refine G_getR (g_da dt_B_press 11 rfl) sh_0 fl_0_35 rfl ?_
    refine H_getI (g_da dt_B_press 12 rfl) sh_40 fl_0_179 rfl (hJc 40 rfl) ?_
    exact G_ireturn (g_da dt_B_press 13 rfl) rfl rfl rfl (g_nz rfl) (q_e h)
  · have h := o_f hc1 h
    have h := o_f hc2 h
    have h := o_f hc3 h
    have h := o_t hc4 h
    refine G_aload_n (g_da dt_B_press 14 rfl) rfl rfl ?_
    refine G_getR (g_da dt_B_press 15 rfl) sh_0 fl_0_26 rfl ?_
    refine H_getI (g_da dt_B_press 16 rfl) sh_37 fl_0_192 rfl (hJc 37 rfl) ?_
    exact G_ireturn (g_da dt_B_press 17 rfl) rfl rfl rfl (g_nz rfl) (q_e h)
  · have h := o_f hc1 h
    have h := o_f hc2 h
    have h := o_f hc3 h
    have h := o_f hc4 h
    have h := o_t hc5 h
    refine G_aload_n (g_da dt_B_press 18 rfl) rfl rfl ?_
    refine G_getR (g_da dt_B_press 19 rfl) sh_0 fl_0_26 rfl ?_
    refine H_getI (g_da dt_B_press 20 rfl) sh_37 fl_0_210 rfl (hJc 37 rfl) ?_
    exact G_ireturn (g_da dt_B_press 21 rfl) rfl rfl rfl (g_nz rfl) (q_e h)
  · have h := o_f hc1 h
    have h := o_f hc2 h
    have h := o_f hc3 h
    have h := o_f hc4 h
    have h := o_f hc5 h
    have h := o_t hc6 h
    refine G_aload_n (g_da dt_B_press 22 rfl) rfl rfl ?_
    refine G_getR (g_da dt_B_press 23 rfl) sh_0 fl_0_35 rfl ?_
    refine H_getI (g_da dt_B_press 24 rfl) sh_40 fl_0_213 rfl (hJc 40 rfl) ?_
    exact G_ireturn (g_da dt_B_press 25 rfl) rfl rfl rfl (g_nz rfl) (q_e h)
  · have h := o_f hc1 h
    have h := o_f hc2 h
    have h := o_f hc3 h
    have h := o_f hc4 h
    have h := o_f hc5 h
    have h := o_f hc6 h
    have h := o_t hc7 h
    refine G_aload_n (g_da dt_B_press 26 rfl) rfl rfl ?_
    refine G_getR (g_da dt_B_press 27 rfl) sh_0 fl_0_35 rfl ?_
    refine H_getI (g_da dt_B_press 28 rfl) sh_40 fl_0_216 rfl (hJc 40 rfl) ?_
    exact G_ireturn (g_da dt_B_press 29 rfl) rfl rfl rfl (g_nz rfl) (q_e h)
  · have h := o_f hc1 h
    have h := o_f hc2 h
    have h := o_f hc3 h
    have h := o_f hc4 h
    have h := o_f hc5 h
    have h := o_f hc6 h
    have h := o_f hc7 h
    refine G_iconst (g_da dt_B_press 30 rfl) ?_
    exact G_ireturn (g_da dt_B_press 31 rfl) rfl rfl rfl (g_nz rfl) (q_e h)
set_option maxHeartbeats 4000000 in
set_option maxRecDepth 100000 in
theorem Job_isUnderWay_ok {J : gS → gS} (hJc : g_jc J) {z0 : Int} {s0 : gS} {s : gS} (h : Job_isUnderWay s = some (z0, s0)) : Ct M_Job_isUnderWay g_S [.ref 5] (J s) (QE g_S J z0 s0) := by
  refine Ct_of [some (.ref 5)] (plainFor_of_name (by decide)) rfl (Nat.le_of_ble_eq_true rfl) rfl (by decide) q_rE ?_
  unfold Job_isUnderWay at h
  refine G_aload_n (g_da dt_Job_isUnderWay 0 rfl) rfl rfl ?_
  refine H_getI (g_da dt_Job_isUnderWay 1 rfl) sh_5 fl_6_64 rfl (hJc 5 rfl) ?_
  refine G_iconst (g_da dt_Job_isUnderWay 2 rfl) ?_
  refine G_icmp_ne (g_da dt_Job_isUnderWay 3 rfl) rfl rfl w_1 (fun hc1 => ?_) (fun hc1 => ?_)
  · have h := o_f hc1 h
    refine G_iconst (g_da dt_Job_isUnderWay 6 rfl) ?_
    exact G_ireturn (g_da dt_Job_isUnderWay 7 rfl) rfl (g_bool (Or.inl w_0)).1 rfl (g_nz rfl) (q_e h)
  · have h := o_t hc1 h
    refine G_iconst (g_da dt_Job_isUnderWay 4 rfl) ?_
    refine G_goto (g_da dt_Job_isUnderWay 5 rfl) rfl ?_
    exact G_ireturn (g_da dt_Job_isUnderWay 7 rfl) rfl (g_bool (Or.inr w_1)).1 rfl (g_nz rfl) (q_e h)
set_option maxHeartbeats 4000000 in
set_option maxRecDepth 100000 in
theorem Calls_isOver_ok {J : gS → gS} (hJc : g_jc J) {z0 : Int} {s0 : gS} {s : gS} (h : Calls_isOver s = some (z0, s0)) : Ct M_Calls_isOver g_S [.ref 10] (J s) (QE g_S J z0 s0) := by
  refine Ct_of [some (.ref 10)] (plainFor_of_name (by decide)) rfl (Nat.le_of_ble_eq_true rfl) rfl (by decide) q_rE ?_
  unfold Calls_isOver at h
  refine G_aload_n (g_da dt_Calls_isOver 0 rfl) rfl rfl ?_
  refine H_getI (g_da dt_Calls_isOver 1 rfl) sh_10 fl_7_24 rfl (hJc 10 rfl) ?_
  refine G_if_ge (g_da dt_Calls_isOver 2 rfl) rfl rfl  (fun hc1 => ?_) (fun hc1 => ?_)
  · have h := o_t hc1 h
    refine G_iconst (g_da dt_Calls_isOver 5 rfl) ?_
    exact G_ireturn (g_da dt_Calls_isOver 6 rfl) rfl (g_bool (Or.inl w_0)).1 rfl (g_nz rfl) (q_e h)
  · have h := o_f hc1 h
    refine G_iconst (g_da dt_Calls_isOver 3 rfl) ?_
    refine G_goto (g_da dt_Calls_isOver 4 rfl) rfl ?_
    exact G_ireturn (g_da dt_Calls_isOver 6 rfl) rfl (g_bool (Or.inr w_1)).1 rfl (g_nz rfl) (q_e h)
set_option maxHeartbeats 4000000 in
set_option maxRecDepth 100000 in
theorem Job_endIfOver_ok {J : gS → gS} (hJc : g_jc J) {z0 : Int} {s0 : gS} {s : gS} (h : Job_endIfOver s = some (z0, s0)) : Ct M_Job_endIfOver g_S [.ref 5] (J s) (QG g_S J z0 s0) := by
  refine Ct_of [some (.ref 5)] (plainFor_of_name (by decide)) rfl (Nat.le_of_ble_eq_true rfl) rfl (by decide) q_rG ?_
  unfold Job_endIfOver at h
  refine G_aload_n (g_da dt_Job_endIfOver 0 rfl) rfl rfl ?_
  refine G_getR (g_da dt_Job_endIfOver 1 rfl) sh_5 fl_6_21 rfl ?_
  obtain ⟨r1, s2, hc3, h⟩ := o_b h
  refine H_cVE (Calls_isOver_ok hJc hc3) (g_da dt_Job_endIfOver 2 rfl) lk_6_104 mv_Calls_isOver rfl sh_10 rfl rfl rfl rfl rfl rfl ?_
  refine G_if_eq (g_da dt_Job_endIfOver 3 rfl) rfl rfl  (fun hc4 => ?_) (fun hc4 => ?_)
  · have h := o_t hc4 h
    exact G_return (g_da dt_Job_endIfOver 7 rfl) rfl rfl (g_nz rfl) (q_g h)
  · have h := o_f hc4 h
    refine G_aload_n (g_da dt_Job_endIfOver 4 rfl) rfl rfl ?_
    refine G_iconst (g_da dt_Job_endIfOver 5 rfl) ?_
    refine H_putI (g_da dt_Job_endIfOver 6 rfl) sh_5 fp_6_64 rfl (hJc 5 rfl) (fun s5 e6 => ?_)
    have h := o_l h s5 e6
    exact G_return (g_da dt_Job_endIfOver 7 rfl) rfl rfl (g_nz rfl) (q_g h)
set_option maxHeartbeats 4000000 in
set_option maxRecDepth 100000 in
theorem Calls_place_ok {J : gS → gS} (hJc : g_jc J) {z0 : Int} {s0 : gS} {s : gS} (h : Calls_place s = some (z0, s0)) : Ct M_Calls_place g_S [.ref 10] (J s) (QE g_S J z0 s0) := by
  refine Ct_of [some (.ref 10)] (plainFor_of_name (by decide)) rfl (Nat.le_of_ble_eq_true rfl) rfl (by decide) q_rE ?_
  unfold Calls_place at h
  refine G_aload_n (g_da dt_Calls_place 0 rfl) rfl rfl ?_
  refine H_getI (g_da dt_Calls_place 1 rfl) sh_10 fl_7_24 rfl (hJc 10 rfl) ?_
  refine G_if_ge (g_da dt_Calls_place 2 rfl) rfl rfl  (fun hc1 => ?_) (fun hc1 => ?_)
  · have h := o_t hc1 h
    refine G_aload_n (g_da dt_Calls_place 5 rfl) rfl rfl ?_
    refine G_getR (g_da dt_Calls_place 6 rfl) sh_10 fl_7_9 rfl ?_
    refine G_aload_n (g_da dt_Calls_place 7 rfl) rfl rfl ?_
    refine H_getI (g_da dt_Calls_place 8 rfl) sh_10 fl_7_24 rfl (hJc 10 rfl) ?_
    obtain ⟨hb2, h⟩ := o_g h
    refine H_iaload (g_da dt_Calls_place 9 rfl) sh_11 (hJc 11 rfl) rfl hb2 rfl ?_
    exact G_ireturn (g_da dt_Calls_place 10 rfl) rfl rfl rfl (g_nz rfl) (q_e h)
  · have h := o_f hc1 h
    refine G_iconst (g_da dt_Calls_place 3 rfl) ?_
    refine G_goto (g_da dt_Calls_place 4 rfl) rfl ?_
    exact G_ireturn (g_da dt_Calls_place 10 rfl) rfl rfl rfl (g_nz rfl) (q_e h)
set_option maxHeartbeats 4000000 in
set_option maxRecDepth 100000 in
theorem Text_sign_ok {J : gS → gS} (hJc : g_jc J) {z0 : Int} {s0 : gS} {a1 : Int} {s : gS} (h : Text_sign a1 s = some (z0, s0)) : Ct M_Text_sign g_S [.ref 6, gi a1] (J s) (QE g_S J z0 s0) := by
  refine Ct_of [some (.ref 6), some (gi a1)] (plainFor_of_name (by decide)) rfl (Nat.le_of_ble_eq_true rfl) rfl (by decide) q_rE ?_
  unfold Text_sign at h
  refine G_iload_n (g_da dt_Text_sign 0 rfl) rfl rfl ?_
  refine G_if_lt (g_da dt_Text_sign 1 rfl) rfl rfl  (fun hc1 => ?_) (fun hc1 => ?_)
  · have h := o_t hc1 h
    refine G_bipush (g_da dt_Text_sign 6 rfl) b8w_32 ?_
    refine G_goto (g_da dt_Text_sign 7 rfl) rfl ?_
    exact G_ireturn (g_da dt_Text_sign 12 rfl) rfl rfl rfl (g_nz rfl) (q_e h)
  · have h := o_f hc1 h
    refine G_iload_n (g_da dt_Text_sign 2 rfl) rfl rfl ?_
    refine G_aload_n (g_da dt_Text_sign 3 rfl) rfl rfl ?_
    refine H_getI (g_da dt_Text_sign 4 rfl) sh_6 fl_8_21 rfl (hJc 6 rfl) ?_
    refine G_icmp_lt (g_da dt_Text_sign 5 rfl) rfl rfl rfl (fun hc2 => ?_) (fun hc2 => ?_)
    · have h := o_t hc2 h
      refine G_aload_n (g_da dt_Text_sign 8 rfl) rfl rfl ?_
      refine G_getR (g_da dt_Text_sign 9 rfl) sh_6 fl_8_9 rfl ?_
      refine G_iload_n (g_da dt_Text_sign 10 rfl) rfl rfl ?_
      obtain ⟨hb3, h⟩ := o_g h
      refine H_iaload (g_da dt_Text_sign 11 rfl) sh_7 (hJc 7 rfl) rfl hb3 rfl ?_
      exact G_ireturn (g_da dt_Text_sign 12 rfl) rfl rfl rfl (g_nz rfl) (q_e h)
    · have h := o_f hc2 h
      refine G_bipush (g_da dt_Text_sign 6 rfl) b8w_32 ?_
      refine G_goto (g_da dt_Text_sign 7 rfl) rfl ?_
      exact G_ireturn (g_da dt_Text_sign 12 rfl) rfl rfl rfl (g_nz rfl) (q_e h)
set_option maxHeartbeats 4000000 in
set_option maxRecDepth 100000 in
theorem Job_needs_ok {J : gS → gS} {z0 : Int} {s0 : gS} {a0 : Int} {s : gS} (h : Job_needs a0 s = some (z0, s0)) : Ct M_Job_needs g_S [gi a0] (J s) (QE g_S J z0 s0) := by
  refine Ct_of [some (gi a0)] (plainFor_of_name (by decide)) rfl (Nat.le_of_ble_eq_true rfl) rfl (by decide) q_rE ?_
  unfold Job_needs at h
  refine G_iload_n (g_da dt_Job_needs 0 rfl) rfl rfl ?_
  refine G_table [(37, 378), (38, 385), (39, 385), (40, 385), (41, 385), (42, 378), (43, 378), (44, 385), (45, 378), (46, 385), (47, 378), (48, 385), (49, 385), (50, 385), (51, 385), (52, 385), (53, 385), (54, 385), (55, 385), (56, 385), (57, 385), (58, 376), (59, 385), (60, 378), (61, 378), (62, 385), (63, 380), (64, 385), (65, 385), (66, 385), (67, 382), (68, 376), (69, 385), (70, 385), (71, 376), (72, 385), (73, 385), (74, 385), (75, 385), (76, 378), (77, 378), (78, 385), (79, 376), (80, 385), (81, 385), (82, 378), (83, 378), (84, 378), (85, 385), (86, 385), (87, 385), (88, 378), (89, 385), (90, 385), (91, 385), (92, 385), (93, 385), (94, 385), (95, 385), (96, 385), (97, 385), (98, 385), (99, 385), (100, 385), (101, 385), (102, 385), (103, 385), (104, 385), (105, 385), (106, 385), (107, 385), (108, 385), (109, 385), (110, 385), (111, 385), (112, 385), (113, 385), (114, 385), (115, 385), (116, 385), (117, 385), (118, 385), (119, 385), (120, 385), (121, 385), (122, 385), (123, 385), (124, 385), (125, 385), (126, 376)] 385 (g_da dt_Job_needs 1 rfl) rfl rfl rfl ⟨fun hc1 => ?_, fun hc1 => ⟨fun hc2 => ?_, fun hc2 => ⟨fun hc3 => ?_, fun hc3 => ⟨fun hc4 => ?_, fun hc4 => ⟨fun hc5 => ?_, fun hc5 => ⟨fun hc6 => ?_, fun hc6 => ⟨fun hc7 => ?_, fun hc7 => ⟨fun hc8 => ?_, fun hc8 => ⟨fun hc9 => ?_, fun hc9 => ⟨fun hc10 => ?_, fun hc10 => ⟨fun hc11 => ?_, fun hc11 => ⟨fun hc12 => ?_, fun hc12 => ⟨fun hc13 => ?_, fun hc13 => ⟨fun hc14 => ?_, fun hc14 => ⟨fun hc15 => ?_, fun hc15 => ⟨fun hc16 => ?_, fun hc16 => ⟨fun hc17 => ?_, fun hc17 => ⟨fun hc18 => ?_, fun hc18 => ⟨fun hc19 => ?_, fun hc19 => ⟨fun hc20 => ?_, fun hc20 => ⟨fun hc21 => ?_, fun hc21 => ⟨fun hc22 => ?_, fun hc22 => ⟨fun hc23 => ?_, fun hc23 => ⟨fun hc24 => ?_, fun hc24 => ⟨fun hc25 => ?_, fun hc25 => ⟨fun hc26 => ?_, fun hc26 => ⟨fun hc27 => ?_, fun hc27 => ⟨fun hc28 => ?_, fun hc28 => ⟨fun hc29 => ?_, fun hc29 => ⟨fun hc30 => ?_, fun hc30 => ⟨fun hc31 => ?_, fun hc31 => ⟨fun hc32 => ?_, fun hc32 => ⟨fun hc33 => ?_, fun hc33 => ⟨fun hc34 => ?_, fun hc34 => ⟨fun hc35 => ?_, fun hc35 => ⟨fun hc36 => ?_, fun hc36 => ⟨fun hc37 => ?_, fun hc37 => ⟨fun hc38 => ?_, fun hc38 => ⟨fun hc39 => ?_, fun hc39 => ⟨fun hc40 => ?_, fun hc40 => ⟨fun hc41 => ?_, fun hc41 => ⟨fun hc42 => ?_, fun hc42 => ⟨fun hc43 => ?_, fun hc43 => ⟨fun hc44 => ?_, fun hc44 => ⟨fun hc45 => ?_, fun hc45 => ⟨fun hc46 => ?_, fun hc46 => ⟨fun hc47 => ?_, fun hc47 => ⟨fun hc48 => ?_, fun hc48 => ⟨fun hc49 => ?_, fun hc49 => ⟨fun hc50 => ?_, fun hc50 => ⟨fun hc51 => ?_, fun hc51 => ⟨fun hc52 => ?_, fun hc52 => ⟨fun hc53 => ?_, fun hc53 => ⟨fun hc54 => ?_, fun hc54 => ⟨fun hc55 => ?_, fun hc55 => ⟨fun hc56 => ?_, fun hc56 => ⟨fun hc57 => ?_, fun hc57 => ⟨fun hc58 => ?_, fun hc58 => ⟨fun hc59 => ?_, fun hc59 => ⟨fun hc60 => ?_, fun hc60 => ⟨fun hc61 => ?_, fun hc61 => ⟨fun hc62 => ?_, fun hc62 => ⟨fun hc63 => ?_, fun hc63 => ⟨fun hc64 => ?_, fun hc64 => ⟨fun hc65 => ?_, fun hc65 => ⟨fun hc66 => ?_, fun hc66 => ⟨fun hc67 => ?_, fun hc67 => ⟨fun hc68 => ?_, fun hc68 => ⟨fun hc69 => ?_, fun hc69 => ⟨fun hc70 => ?_, fun hc70 => ⟨fun hc71 => ?_, fun hc71 => ⟨fun hc72 => ?_, fun hc72 => ⟨fun hc73 => ?_, fun hc73 => ⟨fun hc74 => ?_, fun hc74 => ⟨fun hc75 => ?_, fun hc75 => ⟨fun hc76 => ?_, fun hc76 => ⟨fun hc77 => ?_, fun hc77 => ⟨fun hc78 => ?_, fun hc78 => ⟨fun hc79 => ?_, fun hc79 => ⟨fun hc80 => ?_, fun hc80 => ⟨fun hc81 => ?_, fun hc81 => ⟨fun hc82 => ?_, fun hc82 => ⟨fun hc83 => ?_, fun hc83 => ⟨fun hc84 => ?_, fun hc84 => ⟨fun hc85 => ?_, fun hc85 => ⟨fun hc86 => ?_, fun hc86 => ⟨fun hc87 => ?_, fun hc87 => ⟨fun hc88 => ?_, fun hc88 => ⟨fun hc89 => ?_, fun hc89 => ⟨fun hc90 => ?_, fun hc90 => ?_⟩⟩⟩⟩⟩⟩⟩⟩⟩⟩⟩⟩⟩⟩⟩⟩⟩⟩⟩⟩⟩⟩⟩⟩⟩⟩⟩⟩⟩⟩⟩⟩⟩⟩⟩⟩⟩⟩⟩⟩⟩⟩⟩⟩⟩⟩⟩⟩⟩⟩⟩⟩⟩⟩⟩⟩⟩⟩⟩⟩⟩⟩⟩⟩⟩⟩⟩⟩⟩⟩⟩⟩⟩⟩⟩⟩⟩⟩⟩⟩⟩⟩⟩⟩⟩⟩⟩⟩⟩⟩
  · have h := o_t hc1 h
    refine G_iconst (g_da dt_Job_needs 4 rfl) ?_
    exact G_ireturn (g_da dt_Job_needs 5 rfl) rfl rfl rfl (g_nz rfl) (q_e h)
  · have h := o_f hc1 h
    have h := o_t hc2 h
    refine G_iconst (g_da dt_Job_needs 10 rfl) ?_
    exact G_ireturn (g_da dt_Job_needs 11 rfl) rfl rfl rfl (g_nz rfl) (q_e h)
  · have h := o_f hc1 h
    have h := o_f hc2 h
    have h := o_t hc3 h
    refine G_iconst (g_da dt_Job_needs 10 rfl) ?_
    exact G_ireturn (g_da dt_Job_needs 11 rfl) rfl rfl rfl (g_nz rfl) (q_e h)
  · have h := o_f hc1 h
    have h := o_f hc2 h
    have h := o_f hc3 h
    have h := o_t hc4 h
    refine G_iconst (g_da dt_Job_needs 10 rfl) ?_
    exact G_ireturn (g_da dt_Job_needs 11 rfl) rfl rfl rfl (g_nz rfl) (q_e h)
  · have h := o_f hc1 h
    have h := o_f hc2 h
    have h := o_f hc3 h
    have h := o_f hc4 h
    have h := o_t hc5 h
    refine G_iconst (g_da dt_Job_needs 10 rfl) ?_
    exact G_ireturn (g_da dt_Job_needs 11 rfl) rfl rfl rfl (g_nz rfl) (q_e h)
  · have h := o_f hc1 h
    have h := o_f hc2 h
    have h := o_f hc3 h
    have h := o_f hc4 h
    have h := o_f hc5 h
    have h := o_t hc6 h
    refine G_iconst (g_da dt_Job_needs 4 rfl) ?_
    exact G_ireturn (g_da dt_Job_needs 5 rfl) rfl rfl rfl (g_nz rfl) (q_e h)
  · have h := o_f hc1 h
    have h := o_f hc2 h
    have h := o_f hc3 h
    have h := o_f hc4 h
    have h := o_f hc5 h
    have h := o_f hc6 h
    have h := o_t hc7 h
    refine G_iconst (g_da dt_Job_needs 4 rfl) ?_
    exact G_ireturn (g_da dt_Job_needs 5 rfl) rfl rfl rfl (g_nz rfl) (q_e h)
  · have h := o_f hc1 h
    have h := o_f hc2 h
    have h := o_f hc3 h
    have h := o_f hc4 h
    have h := o_f hc5 h
    have h := o_f hc6 h
    have h := o_f hc7 h
    have h := o_t hc8 h
    refine G_iconst (g_da dt_Job_needs 10 rfl) ?_
    exact G_ireturn (g_da dt_Job_needs 11 rfl) rfl rfl rfl (g_nz rfl) (q_e h)
  · have h := o_f hc1 h
    have h := o_f hc2 h
    have h := o_f hc3 h
    have h := o_f hc4 h
    have h := o_f hc5 h
    have h := o_f hc6 h
    have h := o_f hc7 h
    have h := o_f hc8 h
    have h := o_t hc9 h
    refine G_iconst (g_da dt_Job_needs 4 rfl) ?_
    exact G_ireturn (g_da dt_Job_needs 5 rfl) rfl rfl rfl (g_nz rfl) (q_e h)
  · have h := o_f hc1 h
    have h := o_f hc2 h
    have h := o_f hc3 h
    have h := o_f hc4 h
    have h := o_f hc5 h
    have h := o_f hc6 h
    have h := o_f hc7 h
    have h := o_f hc8 h
    have h := o_f hc9 h
    have h := o_t hc10 h
    refine G_iconst (g_da dt_Job_needs 10 rfl) ?_
    exact G_ireturn (g_da dt_Job_needs 11 rfl) rfl rfl rfl (g_nz rfl) (q_e h)
  · have h := o_f hc1 h
    have h := o_f hc2 h
    have h := o_f hc3 h
    have h := o_f hc4 h
    have h := o_f hc5 h
    have h := o_f hc6 h
    have h := o_f hc7 h
    have h := o_f hc8 h
    have h := o_f hc9 h
    have h := o_f hc10 h
    have h := o_t hc11 h
    refine G_iconst (g_da dt_Job_needs 4 rfl) ?_
    exact G_ireturn (g_da dt_Job_needs 5 rfl) rfl rfl rfl (g_nz rfl) (q_e h)
  · have h := o_f hc1 h
    have h := o_f hc2 h
    have h := o_f hc3 h
    have h := o_f hc4 h
    have h := o_f hc5 h
    have h := o_f hc6 h
    have h := o_f hc7 h
    have h := o_f hc8 h
    have h := o_f hc9 h
    have h := o_f hc10 h
    have h := o_f hc11 h
    have h := o_t hc12 h
    refine G_iconst (g_da dt_Job_needs 10 rfl) ?_
    exact G_ireturn (g_da dt_Job_needs 11 rfl) rfl rfl rfl (g_nz rfl) (q_e h)
  · have h := o_f hc1 h
    have h := o_f hc2 h
    have h := o_f hc3 h
    have h := o_f hc4 h
    have h := o_f hc5 h
    have h := o_f hc6 h
    have h := o_f hc7 h
    have h := o_f hc8 h
    have h := o_f hc9 h
    have h := o_f hc10 h
    have h := o_f hc11 h
    have h := o_f hc12 h
    have h := o_t hc13 h
    refine G_iconst (g_da dt_Job_needs 10 rfl) ?_
    exact G_ireturn (g_da dt_Job_needs 11 rfl) rfl rfl rfl (g_nz rfl) (q_e h)
  · have h := o_f hc1 h
    have h := o_f hc2 h
    have h := o_f hc3 h
    have h := o_f hc4 h
    have h := o_f hc5 h
    have h := o_f hc6 h
    have h := o_f hc7 h
    have h := o_f hc8 h
    have h := o_f hc9 h
    have h := o_f hc10 h
    have h := o_f hc11 h
    have h := o_f hc12 h
    have h := o_f hc13 h
    have h := o_t hc14 h
    refine G_iconst (g_da dt_Job_needs 10 rfl) ?_
    exact G_ireturn (g_da dt_Job_needs 11 rfl) rfl rfl rfl (g_nz rfl) (q_e h)
  · have h := o_f hc1 h
    have h := o_f hc2 h
    have h := o_f hc3 h
    have h := o_f hc4 h
    have h := o_f hc5 h
    have h := o_f hc6 h
    have h := o_f hc7 h
    have h := o_f hc8 h
    have h := o_f hc9 h
    have h := o_f hc10 h
    have h := o_f hc11 h
    have h := o_f hc12 h
    have h := o_f hc13 h
    have h := o_f hc14 h
    have h := o_t hc15 h
    refine G_iconst (g_da dt_Job_needs 10 rfl) ?_
    exact G_ireturn (g_da dt_Job_needs 11 rfl) rfl rfl rfl (g_nz rfl) (q_e h)
  · have h := o_f hc1 h
    have h := o_f hc2 h
    have h := o_f hc3 h
    have h := o_f hc4 h
    have h := o_f hc5 h
    have h := o_f hc6 h
    have h := o_f hc7 h
    have h := o_f hc8 h
    have h := o_f hc9 h
    have h := o_f hc10 h
    have h := o_f hc11 h
    have h := o_f hc12 h
    have h := o_f hc13 h
    have h := o_f hc14 h
    have h := o_f hc15 h
    have h := o_t hc16 h
    refine G_iconst (g_da dt_Job_needs 10 rfl) ?_
    exact G_ireturn (g_da dt_Job_needs 11 rfl) rfl rfl rfl (g_nz rfl) (q_e h)
  · have h := o_f hc1 h
    have h := o_f hc2 h
    have h := o_f hc3 h
    have h := o_f hc4 h
    have h := o_f hc5 h
    have h := o_f hc6 h
    have h := o_f hc7 h
    have h := o_f hc8 h
    have h := o_f hc9 h
    have h := o_f hc10 h
    have h := o_f hc11 h
    have h := o_f hc12 h
    have h := o_f hc13 h
    have h := o_f hc14 h
    have h := o_f hc15 h
    have h := o_f hc16 h
    have h := o_t hc17 h
    refine G_iconst (g_da dt_Job_needs 10 rfl) ?_
    exact G_ireturn (g_da dt_Job_needs 11 rfl) rfl rfl rfl (g_nz rfl) (q_e h)
  · have h := o_f hc1 h
    have h := o_f hc2 h
    have h := o_f hc3 h
    have h := o_f hc4 h
    have h := o_f hc5 h
    have h := o_f hc6 h
    have h := o_f hc7 h
    have h := o_f hc8 h
    have h := o_f hc9 h
    have h := o_f hc10 h
    have h := o_f hc11 h
    have h := o_f hc12 h
    have h := o_f hc13 h
    have h := o_f hc14 h
    have h := o_f hc15 h
    have h := o_f hc16 h
    have h := o_f hc17 h
    have h := o_t hc18 h
    refine G_iconst (g_da dt_Job_needs 10 rfl) ?_
    exact G_ireturn (g_da dt_Job_needs 11 rfl) rfl rfl rfl (g_nz rfl) (q_e h)
  · have h := o_f hc1 h
    have h := o_f hc2 h
    have h := o_f hc3 h
    have h := o_f hc4 h
    have h := o_f hc5 h
    have h := o_f hc6 h
    have h := o_f hc7 h
    have h := o_f hc8 h
    have h := o_f hc9 h
    have h := o_f hc10 h
    have h := o_f hc11 h
    have h := o_f hc12 h
    have h := o_f hc13 h
    have h := o_f hc14 h
    have h := o_f hc15 h
    have h := o_f hc16 h
    have h := o_f hc17 h
    have h := o_f hc18 h
    have h := o_t hc19 h
    refine G_iconst (g_da dt_Job_needs 10 rfl) ?_
    exact G_ireturn (g_da dt_Job_needs 11 rfl) rfl rfl rfl (g_nz rfl) (q_e h)
  · have h := o_f hc1 h
    have h := o_f hc2 h
    have h := o_f hc3 h
    have h := o_f hc4 h
    have h := o_f hc5 h
    have h := o_f hc6 h
    have h := o_f hc7 h
    have h := o_f hc8 h
    have h := o_f hc9 h
    have h := o_f hc10 h
    have h := o_f hc11 h
    have h := o_f hc12 h
    have h := o_f hc13 h
    have h := o_f hc14 h
    have h := o_f hc15 h
    have h := o_f hc16 h
    have h := o_f hc17 h
    have h := o_f hc18 h
    have h := o_f hc19 h
    have h := o_t hc20 h
    refine G_iconst (g_da dt_Job_needs 10 rfl) ?_
    exact G_ireturn (g_da dt_Job_needs 11 rfl) rfl rfl rfl (g_nz rfl) (q_e h)
  · have h := o_f hc1 h
    have h := o_f hc2 h
    have h := o_f hc3 h
    have h := o_f hc4 h
    have h := o_f hc5 h
    have h := o_f hc6 h
    have h := o_f hc7 h
    have h := o_f hc8 h
    have h := o_f hc9 h
    have h := o_f hc10 h
    have h := o_f hc11 h
    have h := o_f hc12 h
    have h := o_f hc13 h
    have h := o_f hc14 h
    have h := o_f hc15 h
    have h := o_f hc16 h
    have h := o_f hc17 h
    have h := o_f hc18 h
    have h := o_f hc19 h
    have h := o_f hc20 h
    have h := o_t hc21 h
    refine G_iconst (g_da dt_Job_needs 10 rfl) ?_
    exact G_ireturn (g_da dt_Job_needs 11 rfl) rfl rfl rfl (g_nz rfl) (q_e h)
  · have h := o_f hc1 h
    have h := o_f hc2 h
    have h := o_f hc3 h
    have h := o_f hc4 h
    have h := o_f hc5 h
    have h := o_f hc6 h
    have h := o_f hc7 h
    have h := o_f hc8 h
    have h := o_f hc9 h
    have h := o_f hc10 h
    have h := o_f hc11 h
    have h := o_f hc12 h
    have h := o_f hc13 h
    have h := o_f hc14 h
    have h := o_f hc15 h
    have h := o_f hc16 h
    have h := o_f hc17 h
    have h := o_f hc18 h
    have h := o_f hc19 h
    have h := o_f hc20 h
    have h := o_f hc21 h
    have h := o_t hc22 h
    refine G_iconst (g_da dt_Job_needs 2 rfl) ?_
    exact G_ireturn (g_da dt_Job_needs 3 rfl) rfl rfl rfl (g_nz rfl) (q_e h)
  · have h := o_f hc1 h
    have h := o_f hc2 h
    have h := o_f hc3 h
    have h := o_f hc4 h
    have h := o_f hc5 h
    have h := o_f hc6 h
    have h := o_f hc7 h
    have h := o_f hc8 h
    have h := o_f hc9 h
    have h := o_f hc10 h
    have h := o_f hc11 h
    have h := o_f hc12 h
    have h := o_f hc13 h
    have h := o_f hc14 h
    have h := o_f hc15 h
    have h := o_f hc16 h
    have h := o_f hc17 h
    have h := o_f hc18 h
    have h := o_f hc19 h
    have h := o_f hc20 h
    have h := o_f hc21 h
    have h := o_f hc22 h
    have h := o_t hc23 h
    refine G_iconst (g_da dt_Job_needs 10 rfl) ?_
    exact G_ireturn (g_da dt_Job_needs 11 rfl) rfl rfl rfl (g_nz rfl) (q_e h)
  · have h := o_f hc1 h
    have h := o_f hc2 h
    have h := o_f hc3 h
    have h := o_f hc4 h
    have h := o_f hc5 h
    have h := o_f hc6 h
    have h := o_f hc7 h
    have h := o_f hc8 h
    have h := o_f hc9 h
    have h := o_f hc10 h
    have h := o_f hc11 h
    have h := o_f hc12 h
    have h := o_f hc13 h
    have h := o_f hc14 h
    have h := o_f hc15 h
    have h := o_f hc16 h
    have h := o_f hc17 h
    have h := o_f hc18 h
    have h := o_f hc19 h
    have h := o_f hc20 h
    have h := o_f hc21 h
    have h := o_f hc22 h
    have h := o_f hc23 h
    have h := o_t hc24 h
    refine G_iconst (g_da dt_Job_needs 4 rfl) ?_
    exact G_ireturn (g_da dt_Job_needs 5 rfl) rfl rfl rfl (g_nz rfl) (q_e h)
  · have h := o_f hc1 h
    have h := o_f hc2 h
    have h := o_f hc3 h
    have h := o_f hc4 h
    have h := o_f hc5 h
    have h := o_f hc6 h
    have h := o_f hc7 h
    have h := o_f hc8 h
    have h := o_f hc9 h
    have h := o_f hc10 h
    have h := o_f hc11 h
    have h := o_f hc12 h
    have h := o_f hc13 h
    have h := o_f hc14 h
    have h := o_f hc15 h
    have h := o_f hc16 h
    have h := o_f hc17 h
    have h := o_f hc18 h
    have h := o_f hc19 h
    have h := o_f hc20 h
    have h := o_f hc21 h
    have h := o_f hc22 h
    have h := o_f hc23 h
    have h := o_f hc24 h
    have h := o_t hc25 h
    refine G_iconst (g_da dt_Job_needs 4 rfl) ?_
    exact G_ireturn (g_da dt_Job_needs 5 rfl) rfl rfl rfl (g_nz rfl) (q_e h)
  · have h := o_f hc1 h
    have h := o_f hc2 h
    have h := o_f hc3 h
    have h := o_f hc4 h
    have h := o_f hc5 h
    have h := o_f hc6 h
    have h := o_f hc7 h
    have h := o_f hc8 h
    have h := o_f hc9 h
    have h := o_f hc10 h
    have h := o_f hc11 h
    have h := o_f hc12 h
    have h := o_f hc13 h
    have h := o_f hc14 h
    have h := o_f hc15 h
    have h := o_f hc16 h
    have h := o_f hc17 h
    have h := o_f hc18 h
    have h := o_f hc19 h
    have h := o_f hc20 h
    have h := o_f hc21 h
    have h := o_f hc22 h
    have h := o_f hc23 h
    have h := o_f hc24 h
    have h := o_f hc25 h
    have h := o_t hc26 h
    refine G_iconst (g_da dt_Job_needs 10 rfl) ?_
    exact G_ireturn (g_da dt_Job_needs 11 rfl) rfl rfl rfl (g_nz rfl) (q_e h)
  · have h := o_f hc1 h
    have h := o_f hc2 h
    have h := o_f hc3 h
    have h := o_f hc4 h
    have h := o_f hc5 h
    have h := o_f hc6 h
    have h := o_f hc7 h
    have h := o_f hc8 h
    have h := o_f hc9 h
    have h := o_f hc10 h
    have h := o_f hc11 h
    have h := o_f hc12 h
    have h := o_f hc13 h
    have h := o_f hc14 h
    have h := o_f hc15 h
    have h := o_f hc16 h
    have h := o_f hc17 h
    have h := o_f hc18 h
    have h := o_f hc19 h
    have h := o_f hc20 h
    have h := o_f hc21 h
    have h := o_f hc22 h
    have h := o_f hc23 h
    have h := o_f hc24 h
    have h := o_f hc25 h
    have h := o_f hc26 h
    have h := o_t hc27 h
    refine G_iconst (g_da dt_Job_needs 6 rfl) ?_
    exact G_ireturn (g_da dt_Job_needs 7 rfl) rfl rfl rfl (g_nz rfl) (q_e h)
  · have h := o_f hc1 h
    have h := o_f hc2 h
    have h := o_f hc3 h
    have h := o_f hc4 h
    have h := o_f hc5 h
    have h := o_f hc6 h
    have h := o_f hc7 h
    have h := o_f hc8 h
    have h := o_f hc9 h
    have h := o_f hc10 h
    have h := o_f hc11 h
    have h := o_f hc12 h
    have h := o_f hc13 h
    have h := o_f hc14 h
    have h := o_f hc15 h
    have h := o_f hc16 h
    have h := o_f hc17 h
    have h := o_f hc18 h
    have h := o_f hc19 h
    have h := o_f hc20 h
    have h := o_f hc21 h
    have h := o_f hc22 h
    have h := o_f hc23 h
    have h := o_f hc24 h
    have h := o_f hc25 h
    have h := o_f hc26 h
    have h := o_f hc27 h
    have h := o_t hc28 h
    refine G_iconst (g_da dt_Job_needs 10 rfl) ?_
    exact G_ireturn (g_da dt_Job_needs 11 rfl) rfl rfl rfl (g_nz rfl) (q_e h)
  · have h := o_f hc1 h
    have h := o_f hc2 h
    have h := o_f hc3 h
    have h := o_f hc4 h
    have h := o_f hc5 h
    have h := o_f hc6 h
    have h := o_f hc7 h
    have h := o_f hc8 h
    have h := o_f hc9 h
    have h := o_f hc10 h
    have h := o_f hc11 h
    have h := o_f hc12 h
    have h := o_f hc13 h
    have h := o_f hc14 h
    have h := o_f hc15 h
    have h := o_f hc16 h
    have h := o_f hc17 h
    have h := o_f hc18 h
    have h := o_f hc19 h
    have h := o_f hc20 h
    have h := o_f hc21 h
    have h := o_f hc22 h
    have h := o_f hc23 h
    have h := o_f hc24 h
    have h := o_f hc25 h
    have h := o_f hc26 h
    have h := o_f hc27 h
    have h := o_f hc28 h
    have h := o_t hc29 h
    refine G_iconst (g_da dt_Job_needs 10 rfl) ?_
    exact G_ireturn (g_da dt_Job_needs 11 rfl) rfl rfl rfl (g_nz rfl) (q_e h)
  · have h := o_f hc1 h
    have h := o_f hc2 h
    have h := o_f hc3 h
    have h := o_f hc4 h
    have h := o_f hc5 h
    have h := o_f hc6 h
    have h := o_f hc7 h
    have h := o_f hc8 h
    have h := o_f hc9 h
    have h := o_f hc10 h
    have h := o_f hc11 h
    have h := o_f hc12 h
    have h := o_f hc13 h
    have h := o_f hc14 h
    have h := o_f hc15 h
    have h := o_f hc16 h
    have h := o_f hc17 h
    have h := o_f hc18 h
    have h := o_f hc19 h
    have h := o_f hc20 h
    have h := o_f hc21 h
    have h := o_f hc22 h
    have h := o_f hc23 h
    have h := o_f hc24 h
    have h := o_f hc25 h
    have h := o_f hc26 h
    have h := o_f hc27 h
    have h := o_f hc28 h
    have h := o_f hc29 h
    have h := o_t hc30 h
    refine G_iconst (g_da dt_Job_needs 10 rfl) ?_
    exact G_ireturn (g_da dt_Job_needs 11 rfl) rfl rfl rfl (g_nz rfl) (q_e h)
  · have h := o_f hc1 h
    have h := o_f hc2 h
    have h := o_f hc3 h
    have h := o_f hc4 h
    have h := o_f hc5 h
    have h := o_f hc6 h
    have h := o_f hc7 h
    have h := o_f hc8 h
    have h := o_f hc9 h
    have h := o_f hc10 h
    have h := o_f hc11 h
    have h := o_f hc12 h
    have h := o_f hc13 h
    have h := o_f hc14 h
    have h := o_f hc15 h
    have h := o_f hc16 h
    have h := o_f hc17 h
    have h := o_f hc18 h
    have h := o_f hc19 h
    have h := o_f hc20 h
    have h := o_f hc21 h
    have h := o_f hc22 h
    have h := o_f hc23 h
    have h := o_f hc24 h
    have h := o_f hc25 h
    have h := o_f hc26 h
    have h := o_f hc27 h
    have h := o_f hc28 h
    have h := o_f hc29 h
    have h := o_f hc30 h
    have h := o_t hc31 h
    refine G_bipush (g_da dt_Job_needs 8 rfl) b8w_6 ?_
    exact G_ireturn (g_da dt_Job_needs 9 rfl) rfl rfl rfl (g_nz rfl) (q_e h)
  · have h := o_f hc1 h
    have h := o_f hc2 h
    have h := o_f hc3 h
    have h := o_f hc4 h
    have h := o_f hc5 h
    have h := o_f hc6 h
    have h := o_f hc7 h
    have h := o_f hc8 h
    have h := o_f hc9 h
    have h := o_f hc10 h
    have h := o_f hc11 h
    have h := o_f hc12 h
    have h := o_f hc13 h
    have h := o_f hc14 h
    have h := o_f hc15 h
    have h := o_f hc16 h
    have h := o_f hc17 h
    have h := o_f hc18 h
    have h := o_f hc19 h
    have h := o_f hc20 h
    have h := o_f hc21 h
    have h := o_f hc22 h
    have h := o_f hc23 h
    have h := o_f hc24 h
    have h := o_f hc25 h
    have h := o_f hc26 h
    have h := o_f hc27 h
    have h := o_f hc28 h
    have h := o_f hc29 h
    have h := o_f hc30 h
    have h := o_f hc31 h
    have h := o_t hc32 h
    refine G_iconst (g_da dt_Job_needs 2 rfl) ?_
    exact G_ireturn (g_da dt_Job_needs 3 rfl) rfl rfl rfl (g_nz rfl) (q_e h)
  · have h := o_f hc1 h
    have h := o_f hc2 h
    have h := o_f hc3 h
    have h := o_f hc4 h
    have h := o_f hc5 h
    have h := o_f hc6 h
    have h := o_f hc7 h
    have h := o_f hc8 h
    have h := o_f hc9 h
    have h := o_f hc10 h
    have h := o_f hc11 h
    have h := o_f hc12 h
    have h := o_f hc13 h
    have h := o_f hc14 h
    have h := o_f hc15 h
    have h := o_f hc16 h
    have h := o_f hc17 h
    have h := o_f hc18 h
    have h := o_f hc19 h
    have h := o_f hc20 h
    have h := o_f hc21 h
    have h := o_f hc22 h
    have h := o_f hc23 h
    have h := o_f hc24 h
    have h := o_f hc25 h
    have h := o_f hc26 h
    have h := o_f hc27 h
    have h := o_f hc28 h
    have h := o_f hc29 h
    have h := o_f hc30 h
    have h := o_f hc31 h
    have h := o_f hc32 h
    have h := o_t hc33 h
    refine G_iconst (g_da dt_Job_needs 10 rfl) ?_
    exact G_ireturn (g_da dt_Job_needs 11 rfl) rfl rfl rfl (g_nz rfl) (q_e h)
  · have h := o_f hc1 h
    have h := o_f hc2 h
    have h := o_f hc3 h
    have h := o_f hc4 h
    have h := o_f hc5 h
    have h := o_f hc6 h
    have h := o_f hc7 h
    have h := o_f hc8 h
    have h := o_f hc9 h
    have h := o_f hc10 h
    have h := o_f hc11 h
    have h := o_f hc12 h
    have h := o_f hc13 h
    have h := o_f hc14 h
    have h := o_f hc15 h
    have h := o_f hc16 h
    have h := o_f hc17 h
    have h := o_f hc18 h
    have h := o_f hc19 h
    have h := o_f hc20 h
    have h := o_f hc21 h
    have h := o_f hc22 h
    have h := o_f hc23 h
    have h := o_f hc24 h
    have h := o_f hc25 h
    have h := o_f hc26 h
    have h := o_f hc27 h
    have h := o_f hc28 h
    have h := o_f hc29 h
    have h := o_f hc30 h
    have h := o_f hc31 h
    have h := o_f hc32 h
    have h := o_f hc33 h
    have h := o_t hc34 h
    refine G_iconst (g_da dt_Job_needs 10 rfl) ?_
    exact G_ireturn (g_da dt_Job_needs 11 rfl) rfl rfl rfl (g_nz rfl) (q_e h)
  · have h := o_f hc1 h
    have h := o_f hc2 h
    have h := o_f hc3 h
    have h := o_f hc4 h
    have h := o_f hc5 h
    have h := o_f hc6 h
    have h := o_f hc7 h
    have h := o_f hc8 h
    have h := o_f hc9 h
    have h := o_f hc10 h
    have h := o_f hc11 h
    have h := o_f hc12 h
    have h := o_f hc13 h
    have h := o_f hc14 h
    have h := o_f hc15 h
    have h := o_f hc16 h
    have h := o_f hc17 h
    have h := o_f hc18 h
    have h := o_f hc19 h
    have h := o_f hc20 h
    have h := o_f hc21 h
    have h := o_f hc22 h
    have h := o_f hc23 h
    have h := o_f hc24 h
    have h := o_f hc25 h
    have h := o_f hc26 h
    have h := o_f hc27 h
    have h := o_f hc28 h
    have h := o_f hc29 h
    have h := o_f hc30 h
    have h := o_f hc31 h
    have h := o_f hc32 h
    have h := o_f hc33 h
    have h := o_f hc34 h
    have h := o_t hc35 h
    refine G_iconst (g_da dt_Job_needs 2 rfl) ?_
    exact G_ireturn (g_da dt_Job_needs 3 rfl) rfl rfl rfl (g_nz rfl) (q_e h)
  · have h := o_f hc1 h
    have h := o_f hc2 h
    have h := o_f hc3 h
    have h := o_f hc4 h
    have h := o_f hc5 h
    have h := o_f hc6 h
    have h := o_f hc7 h
    have h := o_f hc8 h
    have h := o_f hc9 h
    have h := o_f hc10 h
    have h := o_f hc11 h
    have h := o_f hc12 h
    have h := o_f hc13 h
    have h := o_f hc14 h
    have h := o_f hc15 h
    have h := o_f hc16 h
    have h := o_f hc17 h
    have h := o_f hc18 h
    have h := o_f hc19 h
    have h := o_f hc20 h
    have h := o_f hc21 h
    have h := o_f hc22 h
    have h := o_f hc23 h
    have h := o_f hc24 h
    have h := o_f hc25 h
    have h := o_f hc26 h
    have h := o_f hc27 h
    have h := o_f hc28 h
    have h := o_f hc29 h
    have h := o_f hc30 h
    have h := o_f hc31 h
    have h := o_f hc32 h
    have h := o_f hc33 h
    have h := o_f hc34 h
    have h := o_f hc35 h
    have h := o_t hc36 h
    refine G_iconst (g_da dt_Job_needs 10 rfl) ?_
    exact G_ireturn (g_da dt_Job_needs 11 rfl) rfl rfl rfl (g_nz rfl) (q_e h)
  · have h := o_f hc1 h
    have h := o_f hc2 h
    have h := o_f hc3 h
    have h := o_f hc4 h
    have h := o_f hc5 h
    have h := o_f hc6 h
    have h := o_f hc7 h
    have h := o_f hc8 h
    have h := o_f hc9 h
    have h := o_f hc10 h
    have h := o_f hc11 h
    have h := o_f hc12 h
    have h := o_f hc13 h
    have h := o_f hc14 h
    have h := o_f hc15 h
    have h := o_f hc16 h
    have h := o_f hc17 h
    have h := o_f hc18 h
    have h := o_f hc19 h
    have h := o_f hc20 h
    have h := o_f hc21 h
    have h := o_f hc22 h
    have h := o_f hc23 h
    have h := o_f hc24 h
    have h := o_f hc25 h
    have h := o_f hc26 h
    have h := o_f hc27 h
    have h := o_f hc28 h
    have h := o_f hc29 h
    have h := o_f hc30 h
    have h := o_f hc31 h
    have h := o_f hc32 h
    have h := o_f hc33 h
    have h := o_f hc34 h
    have h := o_f hc35 h
    have h := o_f hc36 h
    have h := o_t hc37 h
    refine G_iconst (g_da dt_Job_needs 10 rfl) ?_
    exact G_ireturn (g_da dt_Job_needs 11 rfl) rfl rfl rfl (g_nz rfl) (q_e h)
  · have h := o_f hc1 h
    have h := o_f hc2 h
    have h := o_f hc3 h
    have h := o_f hc4 h
    have h := o_f hc5 h
    have h := o_f hc6 h
    have h := o_f hc7 h
    have h := o_f hc8 h
    have h := o_f hc9 h
    have h := o_f hc10 h
    have h := o_f hc11 h
    have h := o_f hc12 h
    have h := o_f hc13 h
    have h := o_f hc14 h
    have h := o_f hc15 h
    have h := o_f hc16 h
    have h := o_f hc17 h
    have h := o_f hc18 h
    have h := o_f hc19 h
    have h := o_f hc20 h
    have h := o_f hc21 h
    have h := o_f hc22 h
    have h := o_f hc23 h
    have h := o_f hc24 h
    have h := o_f hc25 h
    have h := o_f hc26 h
    have h := o_f hc27 h
    have h := o_f hc28 h
    have h := o_f hc29 h
    have h := o_f hc30 h
    have h := o_f hc31 h
    have h := o_f hc32 h
    have h := o_f hc33 h
    have h := o_f hc34 h
    have h := o_f hc35 h
    have h := o_f hc36 h
    have h := o_f hc37 h
    have h := o_t hc38 h
    refine G_iconst (g_da dt_Job_needs 10 rfl) ?_
    exact G_ireturn (g_da dt_Job_needs 11 rfl) rfl rfl rfl (g_nz rfl) (q_e h)
  · have h := o_f hc1 h
    have h := o_f hc2 h
    have h := o_f hc3 h
    have h := o_f hc4 h
    have h := o_f hc5 h
    have h := o_f hc6 h
    have h := o_f hc7 h
    have h := o_f hc8 h
    have h := o_f hc9 h
    have h := o_f hc10 h
    have h := o_f hc11 h
    have h := o_f hc12 h
    have h := o_f hc13 h
    have h := o_f hc14 h
    have h := o_f hc15 h
    have h := o_f hc16 h
    have h := o_f hc17 h
    have h := o_f hc18 h
    have h := o_f hc19 h
    have h := o_f hc20 h
    have h := o_f hc21 h
    have h := o_f hc22 h
    have h := o_f hc23 h
    have h := o_f hc24 h
    have h := o_f hc25 h
    have h := o_f hc26 h
    have h := o_f hc27 h
    have h := o_f hc28 h
    have h := o_f hc29 h
    have h := o_f hc30 h
    have h := o_f hc31 h
    have h := o_f hc32 h
    have h := o_f hc33 h
    have h := o_f hc34 h
    have h := o_f hc35 h
    have h := o_f hc36 h
    have h := o_f hc37 h
    have h := o_f hc38 h
    have h := o_t hc39 h
    refine G_iconst (g_da dt_Job_needs 10 rfl) ?_
    exact G_ireturn (g_da dt_Job_needs 11 rfl) rfl rfl rfl (g_nz rfl) (q_e h)
  · have h := o_f hc1 h
    have h := o_f hc2 h
    have h := o_f hc3 h
    have h := o_f hc4 h
    have h := o_f hc5 h
    have h := o_f hc6 h
    have h := o_f hc7 h
    have h := o_f hc8 h
    have h := o_f hc9 h
    have h := o_f hc10 h
    have h := o_f hc11 h
    have h := o_f hc12 h
    have h := o_f hc13 h
    have h := o_f hc14 h
    have h := o_f hc15 h
    have h := o_f hc16 h
    have h := o_f hc17 h
    have h := o_f hc18 h
    have h := o_f hc19 h
    have h := o_f hc20 h
    have h := o_f hc21 h
    have h := o_f hc22 h
    have h := o_f hc23 h
    have h := o_f hc24 h
    have h := o_f hc25 h
    have h := o_f hc26 h
    have h := o_f hc27 h
    have h := o_f hc28 h
    have h := o_f hc29 h
    have h := o_f hc30 h
    have h := o_f hc31 h
    have h := o_f hc32 h
    have h := o_f hc33 h
    have h := o_f hc34 h
    have h := o_f hc35 h
    have h := o_f hc36 h
    have h := o_f hc37 h
    have h := o_f hc38 h
    have h := o_f hc39 h
    have h := o_t hc40 h
    refine G_iconst (g_da dt_Job_needs 4 rfl) ?_
    exact G_ireturn (g_da dt_Job_needs 5 rfl) rfl rfl rfl (g_nz rfl) (q_e h)
  · have h := o_f hc1 h
    have h := o_f hc2 h
    have h := o_f hc3 h
    have h := o_f hc4 h
    have h := o_f hc5 h
    have h := o_f hc6 h
    have h := o_f hc7 h
    have h := o_f hc8 h
    have h := o_f hc9 h
    have h := o_f hc10 h
    have h := o_f hc11 h
    have h := o_f hc12 h
    have h := o_f hc13 h
    have h := o_f hc14 h
    have h := o_f hc15 h
    have h := o_f hc16 h
    have h := o_f hc17 h
    have h := o_f hc18 h
    have h := o_f hc19 h
    have h := o_f hc20 h
    have h := o_f hc21 h
    have h := o_f hc22 h
    have h := o_f hc23 h
    have h := o_f hc24 h
    have h := o_f hc25 h
    have h := o_f hc26 h
    have h := o_f hc27 h
    have h := o_f hc28 h
    have h := o_f hc29 h
    have h := o_f hc30 h
    have h := o_f hc31 h
    have h := o_f hc32 h
    have h := o_f hc33 h
    have h := o_f hc34 h
    have h := o_f hc35 h
    have h := o_f hc36 h
    have h := o_f hc37 h
    have h := o_f hc38 h
    have h := o_f hc39 h
    have h := o_f hc40 h
    have h := o_t hc41 h
    refine G_iconst (g_da dt_Job_needs 4 rfl) ?_
    exact G_ireturn (g_da dt_Job_needs 5 rfl) rfl rfl rfl (g_nz rfl) (q_e h)
  · have h := o_f hc1 h
    have h := o_f hc2 h
    have h := o_f hc3 h
    have h := o_f hc4 h
    have h := o_f hc5 h
    have h := o_f hc6 h
    have h := o_f hc7 h
    have h := o_f hc8 h
    have h := o_f hc9 h
    have h := o_f hc10 h
    have h := o_f hc11 h
    have h := o_f hc12 h
    have h := o_f hc13 h
    have h := o_f hc14 h
    have h := o_f hc15 h
    have h := o_f hc16 h
    have h := o_f hc17 h
    have h := o_f hc18 h
    have h := o_f hc19 h
    have h := o_f hc20 h
    have h := o_f hc21 h
    have h := o_f hc22 h
    have h := o_f hc23 h
    have h := o_f hc24 h
    have h := o_f hc25 h
    have h := o_f hc26 h
    have h := o_f hc27 h
    have h := o_f hc28 h
    have h := o_f hc29 h
    have h := o_f hc30 h
    have h := o_f hc31 h
    have h := o_f hc32 h
    have h := o_f hc33 h
    have h := o_f hc34 h
    have h := o_f hc35 h
    have h := o_f hc36 h
    have h := o_f hc37 h
    have h := o_f hc38 h
    have h := o_f hc39 h
    have h := o_f hc40 h
    have h := o_f hc41 h
    have h := o_t hc42 h
    refine G_iconst (g_da dt_Job_needs 10 rfl) ?_
    exact G_ireturn (g_da dt_Job_needs 11 rfl) rfl rfl rfl (g_nz rfl) (q_e h)
  · have h := o_f hc1 h
    have h := o_f hc2 h
    have h := o_f hc3 h
    have h := o_f hc4 h
    have h := o_f hc5 h
    have h := o_f hc6 h
    have h := o_f hc7 h
    have h := o_f hc8 h
    have h := o_f hc9 h
    have h := o_f hc10 h
    have h := o_f hc11 h
    have h := o_f hc12 h
    have h := o_f hc13 h
    have h := o_f hc14 h
    have h := o_f hc15 h
    have h := o_f hc16 h
    have h := o_f hc17 h
    have h := o_f hc18 h
    have h := o_f hc19 h
    have h := o_f hc20 h
    have h := o_f hc21 h
    have h := o_f hc22 h
    have h := o_f hc23 h
    have h := o_f hc24 h
    have h := o_f hc25 h
    have h := o_f hc26 h
    have h := o_f hc27 h
    have h := o_f hc28 h
    have h := o_f hc29 h
    have h := o_f hc30 h
    have h := o_f hc31 h
    have h := o_f hc32 h
    have h := o_f hc33 h
    have h := o_f hc34 h
    have h := o_f hc35 h
    have h := o_f hc36 h
    have h := o_f hc37 h
    have h := o_f hc38 h
    have h := o_f hc39 h
    have h := o_f hc40 h
    have h := o_f hc41 h
    have h := o_f hc42 h
    have h := o_t hc43 h
    refine G_iconst (g_da dt_Job_needs 2 rfl) ?_
    exact G_ireturn (g_da dt_Job_needs 3 rfl) rfl rfl rfl (g_nz rfl) (q_e h)
  · have h := o_f hc1 h
    have h := o_f hc2 h
    have h := o_f hc3 h
    have h := o_f hc4 h
    have h := o_f hc5 h
    have h := o_f hc6 h
    have h := o_f hc7 h
    have h := o_f hc8 h
    have h := o_f hc9 h
    have h := o_f hc10 h
    have h := o_f hc11 h
    have h := o_f hc12 h
    have h := o_f hc13 h
    have h := o_f hc14 h
    have h := o_f hc15 h
    have h := o_f hc16 h
    have h := o_f hc17 h
    have h := o_f hc18 h
    have h := o_f hc19 h
    have h := o_f hc20 h
    have h := o_f hc21 h
    have h := o_f hc22 h
    have h := o_f hc23 h
    have h := o_f hc24 h
    have h := o_f hc25 h
    have h := o_f hc26 h
    have h := o_f hc27 h
    have h := o_f hc28 h
    have h := o_f hc29 h
    have h := o_f hc30 h
    have h := o_f hc31 h
    have h := o_f hc32 h
    have h := o_f hc33 h
    have h := o_f hc34 h
    have h := o_f hc35 h
    have h := o_f hc36 h
    have h := o_f hc37 h
    have h := o_f hc38 h
    have h := o_f hc39 h
    have h := o_f hc40 h
    have h := o_f hc41 h
    have h := o_f hc42 h
    have h := o_f hc43 h
    have h := o_t hc44 h
    refine G_iconst (g_da dt_Job_needs 10 rfl) ?_
    exact G_ireturn (g_da dt_Job_needs 11 rfl) rfl rfl rfl (g_nz rfl) (q_e h)
  · have h := o_f hc1 h
    have h := o_f hc2 h
    have h := o_f hc3 h
    have h := o_f hc4 h
    have h := o_f hc5 h
    have h := o_f hc6 h
    have h := o_f hc7 h
    have h := o_f hc8 h
    have h := o_f hc9 h
    have h := o_f hc10 h
    have h := o_f hc11 h
    have h := o_f hc12 h
    have h := o_f hc13 h
    have h := o_f hc14 h
    have h := o_f hc15 h
    have h := o_f hc16 h
    have h := o_f hc17 h
    have h := o_f hc18 h
    have h := o_f hc19 h
    have h := o_f hc20 h
    have h := o_f hc21 h
    have h := o_f hc22 h
    have h := o_f hc23 h
    have h := o_f hc24 h
    have h := o_f hc25 h
    have h := o_f hc26 h
    have h := o_f hc27 h
    have h := o_f hc28 h
    have h := o_f hc29 h
    have h := o_f hc30 h
    have h := o_f hc31 h
    have h := o_f hc32 h
    have h := o_f hc33 h
    have h := o_f hc34 h
    have h := o_f hc35 h
    have h := o_f hc36 h
    have h := o_f hc37 h
    have h := o_f hc38 h
    have h := o_f hc39 h
    have h := o_f hc40 h
    have h := o_f hc41 h
    have h := o_f hc42 h
    have h := o_f hc43 h
    have h := o_f hc44 h
    have h := o_t hc45 h
    refine G_iconst (g_da dt_Job_needs 10 rfl) ?_
    exact G_ireturn (g_da dt_Job_needs 11 rfl) rfl rfl rfl (g_nz rfl) (q_e h)
  · have h := o_f hc1 h
    have h := o_f hc2 h
    have h := o_f hc3 h
    have h := o_f hc4 h
    have h := o_f hc5 h
    have h := o_f hc6 h
    have h := o_f hc7 h
    have h := o_f hc8 h
    have h := o_f hc9 h
    have h := o_f hc10 h
    have h := o_f hc11 h
    have h := o_f hc12 h
    have h := o_f hc13 h
    have h := o_f hc14 h
    have h := o_f hc15 h
    have h := o_f hc16 h
    have h := o_f hc17 h
    have h := o_f hc18 h
    have h := o_f hc19 h
    have h := o_f hc20 h
    have h := o_f hc21 h
    have h := o_f hc22 h
    have h := o_f hc23 h
    have h := o_f hc24 h
    have h := o_f hc25 h
    have h := o_f hc26 h
    have h := o_f hc27 h
    have h := o_f hc28 h
    have h := o_f hc29 h
    have h := o_f hc30 h
    have h := o_f hc31 h
    have h := o_f hc32 h
    have h := o_f hc33 h
    have h := o_f hc34 h
    have h := o_f hc35 h
    have h := o_f hc36 h
    have h := o_f hc37 h
    have h := o_f hc38 h
    have h := o_f hc39 h
    have h := o_f hc40 h
    have h := o_f hc41 h
    have h := o_f hc42 h
    have h := o_f hc43 h
    have h := o_f hc44 h
    have h := o_f hc45 h
    have h := o_t hc46 h
    refine G_iconst (g_da dt_Job_needs 4 rfl) ?_
    exact G_ireturn (g_da dt_Job_needs 5 rfl) rfl rfl rfl (g_nz rfl) (q_e h)
  · have h := o_f hc1 h
    have h := o_f hc2 h
    have h := o_f hc3 h
    have h := o_f hc4 h
    have h := o_f hc5 h
    have h := o_f hc6 h
    have h := o_f hc7 h
    have h := o_f hc8 h
    have h := o_f hc9 h
    have h := o_f hc10 h
    have h := o_f hc11 h
    have h := o_f hc12 h
    have h := o_f hc13 h
    have h := o_f hc14 h
    have h := o_f hc15 h
    have h := o_f hc16 h
    have h := o_f hc17 h
    have h := o_f hc18 h
    have h := o_f hc19 h
    have h := o_f hc20 h
    have h := o_f hc21 h
    have h := o_f hc22 h
    have h := o_f hc23 h
    have h := o_f hc24 h
    have h := o_f hc25 h
    have h := o_f hc26 h
    have h := o_f hc27 h
    have h := o_f hc28 h
    have h := o_f hc29 h
    have h := o_f hc30 h
    have h := o_f hc31 h
    have h := o_f hc32 h
    have h := o_f hc33 h
    have h := o_f hc34 h
    have h := o_f hc35 h
    have h := o_f hc36 h
    have h := o_f hc37 h
    have h := o_f hc38 h
    have h := o_f hc39 h
    have h := o_f hc40 h
    have h := o_f hc41 h
    have h := o_f hc42 h
    have h := o_f hc43 h
    have h := o_f hc44 h
    have h := o_f hc45 h
    have h := o_f hc46 h
    have h := o_t hc47 h
    refine G_iconst (g_da dt_Job_needs 4 rfl) ?_
    exact G_ireturn (g_da dt_Job_needs 5 rfl) rfl rfl rfl (g_nz rfl) (q_e h)
  · have h := o_f hc1 h
    have h := o_f hc2 h
    have h := o_f hc3 h
    have h := o_f hc4 h
    have h := o_f hc5 h
    have h := o_f hc6 h
    have h := o_f hc7 h
    have h := o_f hc8 h
    have h := o_f hc9 h
    have h := o_f hc10 h
    have h := o_f hc11 h
    have h := o_f hc12 h
    have h := o_f hc13 h
    have h := o_f hc14 h
    have h := o_f hc15 h
    have h := o_f hc16 h
    have h := o_f hc17 h
    have h := o_f hc18 h
    have h := o_f hc19 h
    have h := o_f hc20 h
    have h := o_f hc21 h
    have h := o_f hc22 h
    have h := o_f hc23 h
    have h := o_f hc24 h
    have h := o_f hc25 h
    have h := o_f hc26 h
    have h := o_f hc27 h
    have h := o_f hc28 h
    have h := o_f hc29 h
    have h := o_f hc30 h
    have h := o_f hc31 h
    have h := o_f hc32 h
    have h := o_f hc33 h
    have h := o_f hc34 h
    have h := o_f hc35 h
    have h := o_f hc36 h
    have h := o_f hc37 h
    have h := o_f hc38 h
    have h := o_f hc39 h
    have h := o_f hc40 h
    have h := o_f hc41 h
    have h := o_f hc42 h
    have h := o_f hc43 h
    have h := o_f hc44 h
    have h := o_f hc45 h
    have h := o_f hc46 h
    have h := o_f hc47 h
    have h := o_t hc48 h
    refine G_iconst (g_da dt_Job_needs 4 rfl) ?_
    exact G_ireturn (g_da dt_Job_needs 5 rfl) rfl rfl rfl (g_nz rfl) (q_e h)
  · have h := o_f hc1 h
    have h := o_f hc2 h
    have h := o_f hc3 h
    have h := o_f hc4 h
    have h := o_f hc5 h
    have h := o_f hc6 h
    have h := o_f hc7 h
    have h := o_f hc8 h
    have h := o_f hc9 h
    have h := o_f hc10 h
    have h := o_f hc11 h
    have h := o_f hc12 h
    have h := o_f hc13 h
    have h := o_f hc14 h
    have h := o_f hc15 h
    have h := o_f hc16 h
    have h := o_f hc17 h
    have h := o_f hc18 h
    have h := o_f hc19 h
    have h := o_f hc20 h
    have h := o_f hc21 h
    have h := o_f hc22 h
    have h := o_f hc23 h
    have h := o_f hc24 h
    have h := o_f hc25 h
    have h := o_f hc26 h
    have h := o_f hc27 h
    have h := o_f hc28 h
    have h := o_f hc29 h
    have h := o_f hc30 h
    have h := o_f hc31 h
    have h := o_f hc32 h
    have h := o_f hc33 h
    have h := o_f hc34 h
    have h := o_f hc35 h
    have h := o_f hc36 h
    have h := o_f hc37 h
    have h := o_f hc38 h
    have h := o_f hc39 h
    have h := o_f hc40 h
    have h := o_f hc41 h
    have h := o_f hc42 h
    have h := o_f hc43 h
    have h := o_f hc44 h
    have h := o_f hc45 h
    have h := o_f hc46 h
    have h := o_f hc47 h
    have h := o_f hc48 h
    have h := o_t hc49 h
    refine G_iconst (g_da dt_Job_needs 10 rfl) ?_
    exact G_ireturn (g_da dt_Job_needs 11 rfl) rfl rfl rfl (g_nz rfl) (q_e h)
  · have h := o_f hc1 h
    have h := o_f hc2 h
    have h := o_f hc3 h
    have h := o_f hc4 h
    have h := o_f hc5 h
    have h := o_f hc6 h
    have h := o_f hc7 h
    have h := o_f hc8 h
    have h := o_f hc9 h
    have h := o_f hc10 h
    have h := o_f hc11 h
    have h := o_f hc12 h
    have h := o_f hc13 h
    have h := o_f hc14 h
    have h := o_f hc15 h
    have h := o_f hc16 h
    have h := o_f hc17 h
    have h := o_f hc18 h
    have h := o_f hc19 h
    have h := o_f hc20 h
    have h := o_f hc21 h
    have h := o_f hc22 h
    have h := o_f hc23 h
    have h := o_f hc24 h
    have h := o_f hc25 h
    have h := o_f hc26 h
    have h := o_f hc27 h
    have h := o_f hc28 h
    have h := o_f hc29 h
    have h := o_f hc30 h
    have h := o_f hc31 h
    have h := o_f hc32 h
    have h := o_f hc33 h
    have h := o_f hc34 h
    have h := o_f hc35 h
    have h := o_f hc36 h
    have h := o_f hc37 h
    have h := o_f hc38 h
    have h := o_f hc39 h
    have h := o_f hc40 h
    have h := o_f hc41 h
    have h := o_f hc42 h
    have h := o_f hc43 h
    have h := o_f hc44 h
    have h := o_f hc45 h
    have h := o_f hc46 h
    have h := o_f hc47 h
    have h := o_f hc48 h
    have h := o_f hc49 h
    have h := o_t hc50 h
    refine G_iconst (g_da dt_Job_needs 10 rfl) ?_
    exact G_ireturn (g_da dt_Job_needs 11 rfl) rfl rfl rfl (g_nz rfl) (q_e h)
  · have h := o_f hc1 h
    have h := o_f hc2 h
    have h := o_f hc3 h
    have h := o_f hc4 h
    have h := o_f hc5 h
    have h := o_f hc6 h
    have h := o_f hc7 h
    have h := o_f hc8 h
    have h := o_f hc9 h
    have h := o_f hc10 h
    have h := o_f hc11 h
    have h := o_f hc12 h
    have h := o_f hc13 h
    have h := o_f hc14 h
    have h := o_f hc15 h
    have h := o_f hc16 h
    have h := o_f hc17 h
    have h := o_f hc18 h
    have h := o_f hc19 h
    have h := o_f hc20 h
    have h := o_f hc21 h
    have h := o_f hc22 h
    have h := o_f hc23 h
    have h := o_f hc24 h
    have h := o_f hc25 h
    have h := o_f hc26 h
    have h := o_f hc27 h
    have h := o_f hc28 h
    have h := o_f hc29 h
    have h := o_f hc30 h
    have h := o_f hc31 h
    have h := o_f hc32 h
    have h := o_f hc33 h
    have h := o_f hc34 h
    have h := o_f hc35 h
    have h := o_f hc36 h
    have h := o_f hc37 h
    have h := o_f hc38 h
    have h := o_f hc39 h
    have h := o_f hc40 h
    have h := o_f hc41 h
    have h := o_f hc42 h
    have h := o_f hc43 h
    have h := o_f hc44 h
    have h := o_f hc45 h
    have h := o_f hc46 h
    have h := o_f hc47 h
    have h := o_f hc48 h
    have h := o_f hc49 h
    have h := o_f hc50 h
    have h := o_t hc51 h
    refine G_iconst (g_da dt_Job_needs 10 rfl) ?_
    exact G_ireturn (g_da dt_Job_needs 11 rfl) rfl rfl rfl (g_nz rfl) (q_e h)
  · have h := o_f hc1 h
    have h := o_f hc2 h
    have h := o_f hc3 h
    have h := o_f hc4 h
    have h := o_f hc5 h
    have h := o_f hc6 h
    have h := o_f hc7 h
    have h := o_f hc8 h
    have h := o_f hc9 h
    have h := o_f hc10 h
    have h := o_f hc11 h
    have h := o_f hc12 h
    have h := o_f hc13 h
    have h := o_f hc14 h
    have h := o_f hc15 h
    have h := o_f hc16 h
    have h := o_f hc17 h
    have h := o_f hc18 h
    have h := o_f hc19 h
    have h := o_f hc20 h
    have h := o_f hc21 h
    have h := o_f hc22 h
    have h := o_f hc23 h
    have h := o_f hc24 h
    have h := o_f hc25 h
    have h := o_f hc26 h
    have h := o_f hc27 h
    have h := o_f hc28 h
    have h := o_f hc29 h
    have h := o_f hc30 h
    have h := o_f hc31 h
    have h := o_f hc32 h
    have h := o_f hc33 h
    have h := o_f hc34 h
    have h := o_f hc35 h
    have h := o_f hc36 h
    have h := o_f hc37 h
    have h := o_f hc38 h
    have h := o_f hc39 h
    have h := o_f hc40 h
    have h := o_f hc41 h
    have h := o_f hc42 h
    have h := o_f hc43 h
    have h := o_f hc44 h
    have h := o_f hc45 h
    have h := o_f hc46 h
    have h := o_f hc47 h
    have h := o_f hc48 h
    have h := o_f hc49 h
    have h := o_f hc50 h
    have h := o_f hc51 h
    have h := o_t hc52 h
    refine G_iconst (g_da dt_Job_needs 4 rfl) ?_
    exact G_ireturn (g_da dt_Job_needs 5 rfl) rfl rfl rfl (g_nz rfl) (q_e h)
  · have h := o_f hc1 h
    have h := o_f hc2 h
    have h := o_f hc3 h
    have h := o_f hc4 h
    have h := o_f hc5 h
    have h := o_f hc6 h
    have h := o_f hc7 h
    have h := o_f hc8 h
    have h := o_f hc9 h
    have h := o_f hc10 h
    have h := o_f hc11 h
    have h := o_f hc12 h
    have h := o_f hc13 h
    have h := o_f hc14 h
    have h := o_f hc15 h
    have h := o_f hc16 h
    have h := o_f hc17 h
    have h := o_f hc18 h
    have h := o_f hc19 h
    have h := o_f hc20 h
    have h := o_f hc21 h
    have h := o_f hc22 h
    have h := o_f hc23 h
    have h := o_f hc24 h
    have h := o_f hc25 h
    have h := o_f hc26 h
    have h := o_f hc27 h
    have h := o_f hc28 h
    have h := o_f hc29 h
    have h := o_f hc30 h
    have h := o_f hc31 h
    have h := o_f hc32 h
    have h := o_f hc33 h
    have h := o_f hc34 h
    have h := o_f hc35 h
    have h := o_f hc36 h
    have h := o_f hc37 h
    have h := o_f hc38 h
    have h := o_f hc39 h
    have h := o_f hc40 h
    have h := o_f hc41 h
    have h := o_f hc42 h
    have h := o_f hc43 h
    have h := o_f hc44 h
    have h := o_f hc45 h
    have h := o_f hc46 h
    have h := o_f hc47 h
    have h := o_f hc48 h
    have h := o_f hc49 h
    have h := o_f hc50 h
    have h := o_f hc51 h
    have h := o_f hc52 h
    have h := o_t hc53 h
    refine G_iconst (g_da dt_Job_needs 10 rfl) ?_
    exact G_ireturn (g_da dt_Job_needs 11 rfl) rfl rfl rfl (g_nz rfl) (q_e h)
  · have h := o_f hc1 h
    have h := o_f hc2 h
    have h := o_f hc3 h
    have h := o_f hc4 h
    have h := o_f hc5 h
    have h := o_f hc6 h
    have h := o_f hc7 h
    have h := o_f hc8 h
    have h := o_f hc9 h
    have h := o_f hc10 h
    have h := o_f hc11 h
    have h := o_f hc12 h
    have h := o_f hc13 h
    have h := o_f hc14 h
    have h := o_f hc15 h
    have h := o_f hc16 h
    have h := o_f hc17 h
    have h := o_f hc18 h
    have h := o_f hc19 h
    have h := o_f hc20 h
    have h := o_f hc21 h
    have h := o_f hc22 h
    have h := o_f hc23 h
    have h := o_f hc24 h
    have h := o_f hc25 h
    have h := o_f hc26 h
    have h := o_f hc27 h
    have h := o_f hc28 h
    have h := o_f hc29 h
    have h := o_f hc30 h
    have h := o_f hc31 h
    have h := o_f hc32 h
    have h := o_f hc33 h
    have h := o_f hc34 h
    have h := o_f hc35 h
    have h := o_f hc36 h
    have h := o_f hc37 h
    have h := o_f hc38 h
    have h := o_f hc39 h
    have h := o_f hc40 h
    have h := o_f hc41 h
    have h := o_f hc42 h
    have h := o_f hc43 h
    have h := o_f hc44 h
    have h := o_f hc45 h
    have h := o_f hc46 h
    have h := o_f hc47 h
    have h := o_f hc48 h
    have h := o_f hc49 h
    have h := o_f hc50 h
    have h := o_f hc51 h
    have h := o_f hc52 h
    have h := o_f hc53 h
    have h := o_t hc54 h
    refine G_iconst (g_da dt_Job_needs 10 rfl) ?_
    exact G_ireturn (g_da dt_Job_needs 11 rfl) rfl rfl rfl (g_nz rfl) (q_e h)
  · have h := o_f hc1 h
    have h := o_f hc2 h
    have h := o_f hc3 h
    have h := o_f hc4 h
    have h := o_f hc5 h
    have h := o_f hc6 h
    have h := o_f hc7 h
    have h := o_f hc8 h
    have h := o_f hc9 h
    have h := o_f hc10 h
    have h := o_f hc11 h
    have h := o_f hc12 h
    have h := o_f hc13 h
    have h := o_f hc14 h
    have h := o_f hc15 h
    have h := o_f hc16 h
    have h := o_f hc17 h
    have h := o_f hc18 h
    have h := o_f hc19 h
    have h := o_f hc20 h
    have h := o_f hc21 h
    have h := o_f hc22 h
    have h := o_f hc23 h
    have h := o_f hc24 h
    have h := o_f hc25 h
    have h := o_f hc26 h
    have h := o_f hc27 h
    have h := o_f hc28 h
    have h := o_f hc29 h
    have h := o_f hc30 h
    have h := o_f hc31 h
    have h := o_f hc32 h
    have h := o_f hc33 h
    have h := o_f hc34 h
    have h := o_f hc35 h
    have h := o_f hc36 h
    have h := o_f hc37 h
    have h := o_f hc38 h
    have h := o_f hc39 h
    have h := o_f hc40 h
    have h := o_f hc41 h
    have h := o_f hc42 h
    have h := o_f hc43 h
    have h := o_f hc44 h
    have h := o_f hc45 h
    have h := o_f hc46 h
    have h := o_f hc47 h
    have h := o_f hc48 h
    have h := o_f hc49 h
    have h := o_f hc50 h
    have h := o_f hc51 h
    have h := o_f hc52 h
    have h := o_f hc53 h
    have h := o_f hc54 h
    have h := o_t hc55 h
    refine G_iconst (g_da dt_Job_needs 10 rfl) ?_
    exact G_ireturn (g_da dt_Job_needs 11 rfl) rfl rfl rfl (g_nz rfl) (q_e h)
  · have h := o_f hc1 h
    have h := o_f hc2 h
    have h := o_f hc3 h
    have h := o_f hc4 h
    have h := o_f hc5 h
    have h := o_f hc6 h
    have h := o_f hc7 h
    have h := o_f hc8 h
    have h := o_f hc9 h
    have h := o_f hc10 h
    have h := o_f hc11 h
    have h := o_f hc12 h
    have h := o_f hc13 h
    have h := o_f hc14 h
    have h := o_f hc15 h
    have h := o_f hc16 h
    have h := o_f hc17 h
    have h := o_f hc18 h
    have h := o_f hc19 h
    have h := o_f hc20 h
    have h := o_f hc21 h
    have h := o_f hc22 h
    have h := o_f hc23 h
    have h := o_f hc24 h
    have h := o_f hc25 h
    have h := o_f hc26 h
    have h := o_f hc27 h
    have h := o_f hc28 h
    have h := o_f hc29 h
    have h := o_f hc30 h
    have h := o_f hc31 h
    have h := o_f hc32 h
    have h := o_f hc33 h
    have h := o_f hc34 h
    have h := o_f hc35 h
    have h := o_f hc36 h
    have h := o_f hc37 h
    have h := o_f hc38 h
    have h := o_f hc39 h
    have h := o_f hc40 h
    have h := o_f hc41 h
    have h := o_f hc42 h
    have h := o_f hc43 h
    have h := o_f hc44 h
    have h := o_f hc45 h
    have h := o_f hc46 h
    have h := o_f hc47 h
    have h := o_f hc48 h
    have h := o_f hc49 h
    have h := o_f hc50 h
    have h := o_f hc51 h
    have h := o_f hc52 h
    have h := o_f hc53 h
    have h := o_f hc54 h
    have h := o_f hc55 h
    have h := o_t hc56 h
    refine G_iconst (g_da dt_Job_needs 10 rfl) ?_
    exact G_ireturn (g_da dt_Job_needs 11 rfl) rfl rfl rfl (g_nz rfl) (q_e h)
  · have h := o_f hc1 h
    have h := o_f hc2 h
    have h := o_f hc3 h
    have h := o_f hc4 h
    have h := o_f hc5 h
    have h := o_f hc6 h
    have h := o_f hc7 h
    have h := o_f hc8 h
    have h := o_f hc9 h
    have h := o_f hc10 h
    have h := o_f hc11 h
    have h := o_f hc12 h
    have h := o_f hc13 h
    have h := o_f hc14 h
    have h := o_f hc15 h
    have h := o_f hc16 h
    have h := o_f hc17 h
    have h := o_f hc18 h
    have h := o_f hc19 h
    have h := o_f hc20 h
    have h := o_f hc21 h
    have h := o_f hc22 h
    have h := o_f hc23 h
    have h := o_f hc24 h
    have h := o_f hc25 h
    have h := o_f hc26 h
    have h := o_f hc27 h
    have h := o_f hc28 h
    have h := o_f hc29 h
    have h := o_f hc30 h
    have h := o_f hc31 h
    have h := o_f hc32 h
    have h := o_f hc33 h
    have h := o_f hc34 h
    have h := o_f hc35 h
    have h := o_f hc36 h
    have h := o_f hc37 h
    have h := o_f hc38 h
    have h := o_f hc39 h
    have h := o_f hc40 h
    have h := o_f hc41 h
    have h := o_f hc42 h
    have h := o_f hc43 h
    have h := o_f hc44 h
    have h := o_f hc45 h
    have h := o_f hc46 h
    have h := o_f hc47 h
    have h := o_f hc48 h
    have h := o_f hc49 h
    have h := o_f hc50 h
    have h := o_f hc51 h
    have h := o_f hc52 h
    have h := o_f hc53 h
    have h := o_f hc54 h
    have h := o_f hc55 h
    have h := o_f hc56 h
    have h := o_t hc57 h
    refine G_iconst (g_da dt_Job_needs 10 rfl) ?_
    exact G_ireturn (g_da dt_Job_needs 11 rfl) rfl rfl rfl (g_nz rfl) (q_e h)
  · have h := o_f hc1 h
    have h := o_f hc2 h
    have h := o_f hc3 h
    have h := o_f hc4 h
    have h := o_f hc5 h
    have h := o_f hc6 h
    have h := o_f hc7 h
    have h := o_f hc8 h
    have h := o_f hc9 h
    have h := o_f hc10 h
    have h := o_f hc11 h
    have h := o_f hc12 h
    have h := o_f hc13 h
    have h := o_f hc14 h
    have h := o_f hc15 h
    have h := o_f hc16 h
    have h := o_f hc17 h
    have h := o_f hc18 h
    have h := o_f hc19 h
    have h := o_f hc20 h
    have h := o_f hc21 h
    have h := o_f hc22 h
    have h := o_f hc23 h
    have h := o_f hc24 h
    have h := o_f hc25 h
    have h := o_f hc26 h
    have h := o_f hc27 h
    have h := o_f hc28 h
    have h := o_f hc29 h
    have h := o_f hc30 h
    have h := o_f hc31 h
    have h := o_f hc32 h
    have h := o_f hc33 h
    have h := o_f hc34 h
    have h := o_f hc35 h
    have h := o_f hc36 h
    have h := o_f hc37 h
    have h := o_f hc38 h
    have h := o_f hc39 h
    have h := o_f hc40 h
    have h := o_f hc41 h
    have h := o_f hc42 h
    have h := o_f hc43 h
    have h := o_f hc44 h
    have h := o_f hc45 h
    have h := o_f hc46 h
    have h := o_f hc47 h
    have h := o_f hc48 h
    have h := o_f hc49 h
    have h := o_f hc50 h
    have h := o_f hc51 h
    have h := o_f hc52 h
    have h := o_f hc53 h
    have h := o_f hc54 h
    have h := o_f hc55 h
    have h := o_f hc56 h
    have h := o_f hc57 h
    have h := o_t hc58 h
    refine G_iconst (g_da dt_Job_needs 10 rfl) ?_
    exact G_ireturn (g_da dt_Job_needs 11 rfl) rfl rfl rfl (g_nz rfl) (q_e h)
  · have h := o_f hc1 h
    have h := o_f hc2 h
    have h := o_f hc3 h
    have h := o_f hc4 h
    have h := o_f hc5 h
    have h := o_f hc6 h
    have h := o_f hc7 h
    have h := o_f hc8 h
    have h := o_f hc9 h
    have h := o_f hc10 h
    have h := o_f hc11 h
    have h := o_f hc12 h
    have h := o_f hc13 h
    have h := o_f hc14 h
    have h := o_f hc15 h
    have h := o_f hc16 h
    have h := o_f hc17 h
    have h := o_f hc18 h
    have h := o_f hc19 h
    have h := o_f hc20 h
    have h := o_f hc21 h
    have h := o_f hc22 h
    have h := o_f hc23 h
    have h := o_f hc24 h
    have h := o_f hc25 h
    have h := o_f hc26 h
    have h := o_f hc27 h
    have h := o_f hc28 h
    have h := o_f hc29 h
    have h := o_f hc30 h
    have h := o_f hc31 h
    have h := o_f hc32 h
    have h := o_f hc33 h
    have h := o_f hc34 h
    have h := o_f hc35 h
    have h := o_f hc36 h
    have h := o_f hc37 h
    have h := o_f hc38 h
    have h := o_f hc39 h
    have h := o_f hc40 h
    have h := o_f hc41 h
    have h := o_f hc42 h
    have h := o_f hc43 h
    have h := o_f hc44 h
    have h := o_f hc45 h
    have h := o_f hc46 h
    have h := o_f hc47 h
    have h := o_f hc48 h
    have h := o_f hc49 h
    have h := o_f hc50 h
    have h := o_f hc51 h
    have h := o_f hc52 h
    have h := o_f hc53 h
    have h := o_f hc54 h
    have h := o_f hc55 h
    have h := o_f hc56 h
    have h := o_f hc57 h
    have h := o_f hc58 h
    have h := o_t hc59 h
    refine G_iconst (g_da dt_Job_needs 10 rfl) ?_
    exact G_ireturn (g_da dt_Job_needs 11 rfl) rfl rfl rfl (g_nz rfl) (q_e h)
  · have h := o_f hc1 h
    have h := o_f hc2 h
    have h := o_f hc3 h
    have h := o_f hc4 h
    have h := o_f hc5 h
    have h := o_f hc6 h
    have h := o_f hc7 h
    have h := o_f hc8 h
    have h := o_f hc9 h
    have h := o_f hc10 h
    have h := o_f hc11 h
    have h := o_f hc12 h
    have h := o_f hc13 h
    have h := o_f hc14 h
    have h := o_f hc15 h
    have h := o_f hc16 h
    have h := o_f hc17 h
    have h := o_f hc18 h
    have h := o_f hc19 h
    have h := o_f hc20 h
    have h := o_f hc21 h
    have h := o_f hc22 h
    have h := o_f hc23 h
    have h := o_f hc24 h
    have h := o_f hc25 h
    have h := o_f hc26 h
    have h := o_f hc27 h
    have h := o_f hc28 h
    have h := o_f hc29 h
    have h := o_f hc30 h
    have h := o_f hc31 h
    have h := o_f hc32 h
    have h := o_f hc33 h
    have h := o_f hc34 h
    have h := o_f hc35 h
    have h := o_f hc36 h
    have h := o_f hc37 h
    have h := o_f hc38 h
    have h := o_f hc39 h
    have h := o_f hc40 h
    have h := o_f hc41 h
    have h := o_f hc42 h
    have h := o_f hc43 h
    have h := o_f hc44 h
    have h := o_f hc45 h
    have h := o_f hc46 h
    have h := o_f hc47 h
    have h := o_f hc48 h
    have h := o_f hc49 h
    have h := o_f hc50 h
    have h := o_f hc51 h
    have h := o_f hc52 h
    have h := o_f hc53 h
    have h := o_f hc54 h
    have h := o_f hc55 h
    have h := o_f hc56 h
    have h := o_f hc57 h
    have h := o_f hc58 h
    have h := o_f hc59 h
    have h := o_t hc60 h
    refine G_iconst (g_da dt_Job_needs 10 rfl) ?_
    exact G_ireturn (g_da dt_Job_needs 11 rfl) rfl rfl rfl (g_nz rfl) (q_e h)
  · have h := o_f hc1 h
    have h := o_f hc2 h
    have h := o_f hc3 h
    have h := o_f hc4 h
    have h := o_f hc5 h
    have h := o_f hc6 h
    have h := o_f hc7 h
    have h := o_f hc8 h
    have h := o_f hc9 h
    have h := o_f hc10 h
    have h := o_f hc11 h
    have h := o_f hc12 h
    have h := o_f hc13 h
    have h := o_f hc14 h
    have h := o_f hc15 h
    have h := o_f hc16 h
    have h := o_f hc17 h
    have h := o_f hc18 h
    have h := o_f hc19 h
    have h := o_f hc20 h
    have h := o_f hc21 h
    have h := o_f hc22 h
    have h := o_f hc23 h
    have h := o_f hc24 h
    have h := o_f hc25 h
    have h := o_f hc26 h
    have h := o_f hc27 h
    have h := o_f hc28 h
    have h := o_f hc29 h
    have h := o_f hc30 h
    have h := o_f hc31 h
    have h := o_f hc32 h
    have h := o_f hc33 h
    have h := o_f hc34 h
    have h := o_f hc35 h
    have h := o_f hc36 h
    have h := o_f hc37 h
    have h := o_f hc38 h
    have h := o_f hc39 h
    have h := o_f hc40 h
    have h := o_f hc41 h
    have h := o_f hc42 h
    have h := o_f hc43 h
    have h := o_f hc44 h
    have h := o_f hc45 h
    have h := o_f hc46 h
    have h := o_f hc47 h
    have h := o_f hc48 h
    have h := o_f hc49 h
    have h := o_f hc50 h
    have h := o_f hc51 h
    have h := o_f hc52 h
    have h := o_f hc53 h
    have h := o_f hc54 h
    have h := o_f hc55 h
    have h := o_f hc56 h
    have h := o_f hc57 h
    have h := o_f hc58 h
    have h := o_f hc59 h
    have h := o_f hc60 h
    have h := o_t hc61 h
    refine G_iconst (g_da dt_Job_needs 10 rfl) ?_
    exact G_ireturn (g_da dt_Job_needs 11 rfl) rfl rfl rfl (g_nz rfl) (q_e h)
  · have h := o_f hc1 h
    have h := o_f hc2 h
    have h := o_f hc3 h
    have h := o_f hc4 h
    have h := o_f hc5 h
    have h := o_f hc6 h
    have h := o_f hc7 h
    have h := o_f hc8 h
    have h := o_f hc9 h
    have h := o_f hc10 h
    have h := o_f hc11 h
    have h := o_f hc12 h
    have h := o_f hc13 h
    have h := o_f hc14 h
    have h := o_f hc15 h
    have h := o_f hc16 h
    have h := o_f hc17 h
    have h := o_f hc18 h
    have h := o_f hc19 h
    have h := o_f hc20 h
    have h := o_f hc21 h
    have h := o_f hc22 h
    have h := o_f hc23 h
    have h := o_f hc24 h
    have h := o_f hc25 h
    have h := o_f hc26 h
    have h := o_f hc27 h
    have h := o_f hc28 h
    have h := o_f hc29 h
    have h := o_f hc30 h
    have h := o_f hc31 h
    have h := o_f hc32 h
    have h := o_f hc33 h
    have h := o_f hc34 h
    have h := o_f hc35 h
    have h := o_f hc36 h
    have h := o_f hc37 h
    have h := o_f hc38 h
    have h := o_f hc39 h
    have h := o_f hc40 h
    have h := o_f hc41 h
    have h := o_f hc42 h
    have h := o_f hc43 h
    have h := o_f hc44 h
    have h := o_f hc45 h
    have h := o_f hc46 h
    have h := o_f hc47 h
    have h := o_f hc48 h
    have h := o_f hc49 h
    have h := o_f hc50 h
    have h := o_f hc51 h
    have h := o_f hc52 h
    have h := o_f hc53 h
    have h := o_f hc54 h
    have h := o_f hc55 h
    have h := o_f hc56 h
    have h := o_f hc57 h
    have h := o_f hc58 h
    have h := o_f hc59 h
    have h := o_f hc60 h
    have h := o_f hc61 h
    have h := o_t hc62 h
    refine G_iconst (g_da dt_Job_needs 10 rfl) ?_
    exact G_ireturn (g_da dt_Job_needs 11 rfl) rfl rfl rfl (g_nz rfl) (q_e h)
  · have h := o_f hc1 h
    have h := o_f hc2 h
    have h := o_f hc3 h
    have h := o_f hc4 h
    have h := o_f hc5 h
    have h := o_f hc6 h
    have h := o_f hc7 h
    have h := o_f hc8 h
    have h := o_f hc9 h
    have h := o_f hc10 h
    have h := o_f hc11 h
    have h := o_f hc12 h
    have h := o_f hc13 h
    have h := o_f hc14 h
    have h := o_f hc15 h
    have h := o_f hc16 h
    have h := o_f hc17 h
    have h := o_f hc18 h
    have h := o_f hc19 h
    have h := o_f hc20 h
    have h := o_f hc21 h
    have h := o_f hc22 h
    have h := o_f hc23 h
    have h := o_f hc24 h
    have h := o_f hc25 h
    have h := o_f hc26 h
    have h := o_f hc27 h
    have h := o_f hc28 h
    have h := o_f hc29 h
    have h := o_f hc30 h
    have h := o_f hc31 h
    have h := o_f hc32 h
    have h := o_f hc33 h
    have h := o_f hc34 h
    have h := o_f hc35 h
    have h := o_f hc36 h
    have h := o_f hc37 h
    have h := o_f hc38 h
    have h := o_f hc39 h
    have h := o_f hc40 h
    have h := o_f hc41 h
    have h := o_f hc42 h
    have h := o_f hc43 h
    have h := o_f hc44 h
    have h := o_f hc45 h
    have h := o_f hc46 h
    have h := o_f hc47 h
    have h := o_f hc48 h
    have h := o_f hc49 h
    have h := o_f hc50 h
    have h := o_f hc51 h
    have h := o_f hc52 h
    have h := o_f hc53 h
    have h := o_f hc54 h
    have h := o_f hc55 h
    have h := o_f hc56 h
    have h := o_f hc57 h
    have h := o_f hc58 h
    have h := o_f hc59 h
    have h := o_f hc60 h
    have h := o_f hc61 h
    have h := o_f hc62 h
    have h := o_t hc63 h
    refine G_iconst (g_da dt_Job_needs 10 rfl) ?_
    exact G_ireturn (g_da dt_Job_needs 11 rfl) rfl rfl rfl (g_nz rfl) (q_e h)
  · have h := o_f hc1 h
    have h := o_f hc2 h
    have h := o_f hc3 h
    have h := o_f hc4 h
    have h := o_f hc5 h
    have h := o_f hc6 h
    have h := o_f hc7 h
    have h := o_f hc8 h
    have h := o_f hc9 h
    have h := o_f hc10 h
    have h := o_f hc11 h
    have h := o_f hc12 h
    have h := o_f hc13 h
    have h := o_f hc14 h
    have h := o_f hc15 h
    have h := o_f hc16 h
    have h := o_f hc17 h
    have h := o_f hc18 h
    have h := o_f hc19 h
    have h := o_f hc20 h
    have h := o_f hc21 h
    have h := o_f hc22 h
    have h := o_f hc23 h
    have h := o_f hc24 h
    have h := o_f hc25 h
    have h := o_f hc26 h
    have h := o_f hc27 h
    have h := o_f hc28 h
    have h := o_f hc29 h
    have h := o_f hc30 h
    have h := o_f hc31 h
    have h := o_f hc32 h
    have h := o_f hc33 h
    have h := o_f hc34 h
    have h := o_f hc35 h
    have h := o_f hc36 h
    have h := o_f hc37 h
    have h := o_f hc38 h
    have h := o_f hc39 h
    have h := o_f hc40 h
    have h := o_f hc41 h
    have h := o_f hc42 h
    have h := o_f hc43 h
    have h := o_f hc44 h
    have h := o_f hc45 h
    have h := o_f hc46 h
    have h := o_f hc47 h
    have h := o_f hc48 h
    have h := o_f hc49 h
    have h := o_f hc50 h
    have h := o_f hc51 h
    have h := o_f hc52 h
    have h := o_f hc53 h
    have h := o_f hc54 h
    have h := o_f hc55 h
    have h := o_f hc56 h
    have h := o_f hc57 h
    have h := o_f hc58 h
    have h := o_f hc59 h
    have h := o_f hc60 h
    have h := o_f hc61 h
    have h := o_f hc62 h
    have h := o_f hc63 h
    have h := o_t hc64 h
    refine G_iconst (g_da dt_Job_needs 10 rfl) ?_
    exact G_ireturn (g_da dt_Job_needs 11 rfl) rfl rfl rfl (g_nz rfl) (q_e h)
  · have h := o_f hc1 h
    have h := o_f hc2 h
    have h := o_f hc3 h
    have h := o_f hc4 h
    have h := o_f hc5 h
    have h := o_f hc6 h
    have h := o_f hc7 h
    have h := o_f hc8 h
    have h := o_f hc9 h
    have h := o_f hc10 h
    have h := o_f hc11 h
    have h := o_f hc12 h
    have h := o_f hc13 h
    have h := o_f hc14 h
    have h := o_f hc15 h
    have h := o_f hc16 h
    have h := o_f hc17 h
    have h := o_f hc18 h
    have h := o_f hc19 h
    have h := o_f hc20 h
    have h := o_f hc21 h
    have h := o_f hc22 h
    have h := o_f hc23 h
    have h := o_f hc24 h
    have h := o_f hc25 h
    have h := o_f hc26 h
    have h := o_f hc27 h
    have h := o_f hc28 h
    have h := o_f hc29 h
    have h := o_f hc30 h
    have h := o_f hc31 h
    have h := o_f hc32 h
    have h := o_f hc33 h
    have h := o_f hc34 h
    have h := o_f hc35 h
    have h := o_f hc36 h
    have h := o_f hc37 h
    have h := o_f hc38 h
    have h := o_f hc39 h
    have h := o_f hc40 h
    have h := o_f hc41 h
    have h := o_f hc42 h
    have h := o_f hc43 h
    have h := o_f hc44 h
    have h := o_f hc45 h
    have h := o_f hc46 h
    have h := o_f hc47 h
    have h := o_f hc48 h
    have h := o_f hc49 h
    have h := o_f hc50 h
    have h := o_f hc51 h
    have h := o_f hc52 h
    have h := o_f hc53 h
    have h := o_f hc54 h
    have h := o_f hc55 h
    have h := o_f hc56 h
    have h := o_f hc57 h
    have h := o_f hc58 h
    have h := o_f hc59 h
    have h := o_f hc60 h
    have h := o_f hc61 h
    have h := o_f hc62 h
    have h := o_f hc63 h
    have h := o_f hc64 h
    have h := o_t hc65 h
    refine G_iconst (g_da dt_Job_needs 10 rfl) ?_
    exact G_ireturn (g_da dt_Job_needs 11 rfl) rfl rfl rfl (g_nz rfl) (q_e h)
  · have h := o_f hc1 h
    have h := o_f hc2 h
    have h := o_f hc3 h
    have h := o_f hc4 h
    have h := o_f hc5 h
    have h := o_f hc6 h
    have h := o_f hc7 h
    have h := o_f hc8 h
    have h := o_f hc9 h
    have h := o_f hc10 h
    have h := o_f hc11 h
    have h := o_f hc12 h
    have h := o_f hc13 h
    have h := o_f hc14 h
    have h := o_f hc15 h
    have h := o_f hc16 h
    have h := o_f hc17 h
    have h := o_f hc18 h
    have h := o_f hc19 h
    have h := o_f hc20 h
    have h := o_f hc21 h
    have h := o_f hc22 h
    have h := o_f hc23 h
    have h := o_f hc24 h
    have h := o_f hc25 h
    have h := o_f hc26 h
    have h := o_f hc27 h
    have h := o_f hc28 h
    have h := o_f hc29 h
    have h := o_f hc30 h
    have h := o_f hc31 h
    have h := o_f hc32 h
    have h := o_f hc33 h
    have h := o_f hc34 h
    have h := o_f hc35 h
    have h := o_f hc36 h
    have h := o_f hc37 h
    have h := o_f hc38 h
    have h := o_f hc39 h
    have h := o_f hc40 h
    have h := o_f hc41 h
    have h := o_f hc42 h
    have h := o_f hc43 h
    have h := o_f hc44 h
    have h := o_f hc45 h
    have h := o_f hc46 h
    have h := o_f hc47 h
    have h := o_f hc48 h
    have h := o_f hc49 h
    have h := o_f hc50 h
    have h := o_f hc51 h
    have h := o_f hc52 h
    have h := o_f hc53 h
    have h := o_f hc54 h
    have h := o_f hc55 h
    have h := o_f hc56 h
    have h := o_f hc57 h
    have h := o_f hc58 h
    have h := o_f hc59 h
    have h := o_f hc60 h
    have h := o_f hc61 h
    have h := o_f hc62 h
    have h := o_f hc63 h
    have h := o_f hc64 h
    have h := o_f hc65 h
    have h := o_t hc66 h
    refine G_iconst (g_da dt_Job_needs 10 rfl) ?_
    exact G_ireturn (g_da dt_Job_needs 11 rfl) rfl rfl rfl (g_nz rfl) (q_e h)
  · have h := o_f hc1 h
    have h := o_f hc2 h
    have h := o_f hc3 h
    have h := o_f hc4 h
    have h := o_f hc5 h
    have h := o_f hc6 h
    have h := o_f hc7 h
    have h := o_f hc8 h
    have h := o_f hc9 h
    have h := o_f hc10 h
    have h := o_f hc11 h
    have h := o_f hc12 h
    have h := o_f hc13 h
    have h := o_f hc14 h
    have h := o_f hc15 h
    have h := o_f hc16 h
    have h := o_f hc17 h
    have h := o_f hc18 h
    have h := o_f hc19 h
    have h := o_f hc20 h
    have h := o_f hc21 h
    have h := o_f hc22 h
    have h := o_f hc23 h
    have h := o_f hc24 h
    have h := o_f hc25 h
    have h := o_f hc26 h
    have h := o_f hc27 h
    have h := o_f hc28 h
    have h := o_f hc29 h
    have h := o_f hc30 h
    have h := o_f hc31 h
    have h := o_f hc32 h
    have h := o_f hc33 h
    have h := o_f hc34 h
    have h := o_f hc35 h
    have h := o_f hc36 h
    have h := o_f hc37 h
    have h := o_f hc38 h
    have h := o_f hc39 h
    have h := o_f hc40 h
    have h := o_f hc41 h
    have h := o_f hc42 h
    have h := o_f hc43 h
    have h := o_f hc44 h
    have h := o_f hc45 h
    have h := o_f hc46 h
    have h := o_f hc47 h
    have h := o_f hc48 h
    have h := o_f hc49 h
    have h := o_f hc50 h
    have h := o_f hc51 h
    have h := o_f hc52 h
    have h := o_f hc53 h
    have h := o_f hc54 h
    have h := o_f hc55 h
    have h := o_f hc56 h
    have h := o_f hc57 h
    have h := o_f hc58 h
    have h := o_f hc59 h
    have h := o_f hc60 h
    have h := o_f hc61 h
    have h := o_f hc62 h
    have h := o_f hc63 h
    have h := o_f hc64 h
    have h := o_f hc65 h
    have h := o_f hc66 h
    have h := o_t hc67 h
    refine G_iconst (g_da dt_Job_needs 10 rfl) ?_
    exact G_ireturn (g_da dt_Job_needs 11 rfl) rfl rfl rfl (g_nz rfl) (q_e h)
  · have h := o_f hc1 h
    have h := o_f hc2 h
    have h := o_f hc3 h
    have h := o_f hc4 h
    have h := o_f hc5 h
    have h := o_f hc6 h
    have h := o_f hc7 h
    have h := o_f hc8 h
    have h := o_f hc9 h
    have h := o_f hc10 h
    have h := o_f hc11 h
    have h := o_f hc12 h
    have h := o_f hc13 h
    have h := o_f hc14 h
    have h := o_f hc15 h
    have h := o_f hc16 h
    have h := o_f hc17 h
    have h := o_f hc18 h
    have h := o_f hc19 h
    have h := o_f hc20 h
    have h := o_f hc21 h
    have h := o_f hc22 h
    have h := o_f hc23 h
    have h := o_f hc24 h
    have h := o_f hc25 h
    have h := o_f hc26 h
    have h := o_f hc27 h
    have h := o_f hc28 h
    have h := o_f hc29 h
    have h := o_f hc30 h
    have h := o_f hc31 h
    have h := o_f hc32 h
    have h := o_f hc33 h
    have h := o_f hc34 h
    have h := o_f hc35 h
    have h := o_f hc36 h
    have h := o_f hc37 h
    have h := o_f hc38 h
    have h := o_f hc39 h
    have h := o_f hc40 h
    have h := o_f hc41 h
    have h := o_f hc42 h
    have h := o_f hc43 h
    have h := o_f hc44 h
    have h := o_f hc45 h
    have h := o_f hc46 h
    have h := o_f hc47 h
    have h := o_f hc48 h
    have h := o_f hc49 h
    have h := o_f hc50 h
    have h := o_f hc51 h
    have h := o_f hc52 h
    have h := o_f hc53 h
    have h := o_f hc54 h
    have h := o_f hc55 h
    have h := o_f hc56 h
    have h := o_f hc57 h
    have h := o_f hc58 h
    have h := o_f hc59 h
    have h := o_f hc60 h
    have h := o_f hc61 h
    have h := o_f hc62 h
    have h := o_f hc63 h
    have h := o_f hc64 h
    have h := o_f hc65 h
    have h := o_f hc66 h
    have h := o_f hc67 h
    have h := o_t hc68 h
    refine G_iconst (g_da dt_Job_needs 10 rfl) ?_
    exact G_ireturn (g_da dt_Job_needs 11 rfl) rfl rfl rfl (g_nz rfl) (q_e h)
  · have h := o_f hc1 h
    have h := o_f hc2 h
    have h := o_f hc3 h
    have h := o_f hc4 h
    have h := o_f hc5 h
    have h := o_f hc6 h
    have h := o_f hc7 h
    have h := o_f hc8 h
    have h := o_f hc9 h
    have h := o_f hc10 h
    have h := o_f hc11 h
    have h := o_f hc12 h
    have h := o_f hc13 h
    have h := o_f hc14 h
    have h := o_f hc15 h
    have h := o_f hc16 h
    have h := o_f hc17 h
    have h := o_f hc18 h
    have h := o_f hc19 h
    have h := o_f hc20 h
    have h := o_f hc21 h
    have h := o_f hc22 h
    have h := o_f hc23 h
    have h := o_f hc24 h
    have h := o_f hc25 h
    have h := o_f hc26 h
    have h := o_f hc27 h
    have h := o_f hc28 h
    have h := o_f hc29 h
    have h := o_f hc30 h
    have h := o_f hc31 h
    have h := o_f hc32 h
    have h := o_f hc33 h
    have h := o_f hc34 h
    have h := o_f hc35 h
    have h := o_f hc36 h
    have h := o_f hc37 h
    have h := o_f hc38 h
    have h := o_f hc39 h
    have h := o_f hc40 h
    have h := o_f hc41 h
    have h := o_f hc42 h
    have h := o_f hc43 h
    have h := o_f hc44 h
    have h := o_f hc45 h
    have h := o_f hc46 h
    have h := o_f hc47 h
    have h := o_f hc48 h
    have h := o_f hc49 h
    have h := o_f hc50 h
    have h := o_f hc51 h
    have h := o_f hc52 h
    have h := o_f hc53 h
    have h := o_f hc54 h
    have h := o_f hc55 h
    have h := o_f hc56 h
    have h := o_f hc57 h
    have h := o_f hc58 h
    have h := o_f hc59 h
    have h := o_f hc60 h
    have h := o_f hc61 h
    have h := o_f hc62 h
    have h := o_f hc63 h
    have h := o_f hc64 h
    have h := o_f hc65 h
    have h := o_f hc66 h
    have h := o_f hc67 h
    have h := o_f hc68 h
    have h := o_t hc69 h
    refine G_iconst (g_da dt_Job_needs 10 rfl) ?_
    exact G_ireturn (g_da dt_Job_needs 11 rfl) rfl rfl rfl (g_nz rfl) (q_e h)
  · have h := o_f hc1 h
    have h := o_f hc2 h
    have h := o_f hc3 h
    have h := o_f hc4 h
    have h := o_f hc5 h
    have h := o_f hc6 h
    have h := o_f hc7 h
    have h := o_f hc8 h
    have h := o_f hc9 h
    have h := o_f hc10 h
    have h := o_f hc11 h
    have h := o_f hc12 h
    have h := o_f hc13 h
    have h := o_f hc14 h
    have h := o_f hc15 h
    have h := o_f hc16 h
    have h := o_f hc17 h
    have h := o_f hc18 h
    have h := o_f hc19 h
    have h := o_f hc20 h
    have h := o_f hc21 h
    have h := o_f hc22 h
    have h := o_f hc23 h
    have h := o_f hc24 h
    have h := o_f hc25 h
    have h := o_f hc26 h
    have h := o_f hc27 h
    have h := o_f hc28 h
    have h := o_f hc29 h
    have h := o_f hc30 h
    have h := o_f hc31 h
    have h := o_f hc32 h
    have h := o_f hc33 h
    have h := o_f hc34 h
    have h := o_f hc35 h
    have h := o_f hc36 h
    have h := o_f hc37 h
    have h := o_f hc38 h
    have h := o_f hc39 h
    have h := o_f hc40 h
    have h := o_f hc41 h
    have h := o_f hc42 h
    have h := o_f hc43 h
    have h := o_f hc44 h
    have h := o_f hc45 h
    have h := o_f hc46 h
    have h := o_f hc47 h
    have h := o_f hc48 h
    have h := o_f hc49 h
    have h := o_f hc50 h
    have h := o_f hc51 h
    have h := o_f hc52 h
    have h := o_f hc53 h
    have h := o_f hc54 h
    have h := o_f hc55 h
    have h := o_f hc56 h
    have h := o_f hc57 h
    have h := o_f hc58 h
    have h := o_f hc59 h
    have h := o_f hc60 h
    have h := o_f hc61 h
    have h := o_f hc62 h
    have h := o_f hc63 h
    have h := o_f hc64 h
    have h := o_f hc65 h
    have h := o_f hc66 h
    have h := o_f hc67 h
    have h := o_f hc68 h
    have h := o_f hc69 h
    have h := o_t hc70 h
    refine G_iconst (g_da dt_Job_needs 10 rfl) ?_
    exact G_ireturn (g_da dt_Job_needs 11 rfl) rfl rfl rfl (g_nz rfl) (q_e h)
  · have h := o_f hc1 h
    have h := o_f hc2 h
    have h := o_f hc3 h
    have h := o_f hc4 h
    have h := o_f hc5 h
    have h := o_f hc6 h
    have h := o_f hc7 h
    have h := o_f hc8 h
    have h := o_f hc9 h
    have h := o_f hc10 h
    have h := o_f hc11 h
    have h := o_f hc12 h
    have h := o_f hc13 h
    have h := o_f hc14 h
    have h := o_f hc15 h
    have h := o_f hc16 h
    have h := o_f hc17 h
    have h := o_f hc18 h
    have h := o_f hc19 h
    have h := o_f hc20 h
    have h := o_f hc21 h
    have h := o_f hc22 h
    have h := o_f hc23 h
    have h := o_f hc24 h
    have h := o_f hc25 h
    have h := o_f hc26 h
    have h := o_f hc27 h
    have h := o_f hc28 h
    have h := o_f hc29 h
    have h := o_f hc30 h
    have h := o_f hc31 h
    have h := o_f hc32 h
    have h := o_f hc33 h
    have h := o_f hc34 h
    have h := o_f hc35 h
    have h := o_f hc36 h
    have h := o_f hc37 h
    have h := o_f hc38 h
    have h := o_f hc39 h
    have h := o_f hc40 h
    have h := o_f hc41 h
    have h := o_f hc42 h
    have h := o_f hc43 h
    have h := o_f hc44 h
    have h := o_f hc45 h
    have h := o_f hc46 h
    have h := o_f hc47 h
    have h := o_f hc48 h
    have h := o_f hc49 h
    have h := o_f hc50 h
    have h := o_f hc51 h
    have h := o_f hc52 h
    have h := o_f hc53 h
    have h := o_f hc54 h
    have h := o_f hc55 h
    have h := o_f hc56 h
    have h := o_f hc57 h
    have h := o_f hc58 h
    have h := o_f hc59 h
    have h := o_f hc60 h
    have h := o_f hc61 h
    have h := o_f hc62 h
    have h := o_f hc63 h
    have h := o_f hc64 h
    have h := o_f hc65 h
    have h := o_f hc66 h
    have h := o_f hc67 h
    have h := o_f hc68 h
    have h := o_f hc69 h
    have h := o_f hc70 h
    have h := o_t hc71 h
    refine G_iconst (g_da dt_Job_needs 10 rfl) ?_
    exact G_ireturn (g_da dt_Job_needs 11 rfl) rfl rfl rfl (g_nz rfl) (q_e h)
  · have h := o_f hc1 h
    have h := o_f hc2 h
    have h := o_f hc3 h
    have h := o_f hc4 h
    have h := o_f hc5 h
    have h := o_f hc6 h
    have h := o_f hc7 h
    have h := o_f hc8 h
    have h := o_f hc9 h
    have h := o_f hc10 h
    have h := o_f hc11 h
    have h := o_f hc12 h
    have h := o_f hc13 h
    have h := o_f hc14 h
    have h := o_f hc15 h
    have h := o_f hc16 h
    have h := o_f hc17 h
    have h := o_f hc18 h
    have h := o_f hc19 h
    have h := o_f hc20 h
    have h := o_f hc21 h
    have h := o_f hc22 h
    have h := o_f hc23 h
    have h := o_f hc24 h
    have h := o_f hc25 h
    have h := o_f hc26 h
    have h := o_f hc27 h
    have h := o_f hc28 h
    have h := o_f hc29 h
    have h := o_f hc30 h
    have h := o_f hc31 h
    have h := o_f hc32 h
    have h := o_f hc33 h
    have h := o_f hc34 h
    have h := o_f hc35 h
    have h := o_f hc36 h
    have h := o_f hc37 h
    have h := o_f hc38 h
    have h := o_f hc39 h
    have h := o_f hc40 h
    have h := o_f hc41 h
    have h := o_f hc42 h
    have h := o_f hc43 h
    have h := o_f hc44 h
    have h := o_f hc45 h
    have h := o_f hc46 h
    have h := o_f hc47 h
    have h := o_f hc48 h
    have h := o_f hc49 h
    have h := o_f hc50 h
    have h := o_f hc51 h
    have h := o_f hc52 h
    have h := o_f hc53 h
    have h := o_f hc54 h
    have h := o_f hc55 h
    have h := o_f hc56 h
    have h := o_f hc57 h
    have h := o_f hc58 h
    have h := o_f hc59 h
    have h := o_f hc60 h
    have h := o_f hc61 h
    have h := o_f hc62 h
    have h := o_f hc63 h
    have h := o_f hc64 h
    have h := o_f hc65 h
    have h := o_f hc66 h
    have h := o_f hc67 h
    have h := o_f hc68 h
    have h := o_f hc69 h
    have h := o_f hc70 h
    have h := o_f hc71 h
    have h := o_t hc72 h
    refine G_iconst (g_da dt_Job_needs 10 rfl) ?_
    exact G_ireturn (g_da dt_Job_needs 11 rfl) rfl rfl rfl (g_nz rfl) (q_e h)
  · have h := o_f hc1 h
    have h := o_f hc2 h
    have h := o_f hc3 h
    have h := o_f hc4 h
    have h := o_f hc5 h
    have h := o_f hc6 h
    have h := o_f hc7 h
    have h := o_f hc8 h
    have h := o_f hc9 h
    have h := o_f hc10 h
    have h := o_f hc11 h
    have h := o_f hc12 h
    have h := o_f hc13 h
    have h := o_f hc14 h
    have h := o_f hc15 h
    have h := o_f hc16 h
    have h := o_f hc17 h
    have h := o_f hc18 h
    have h := o_f hc19 h
    have h := o_f hc20 h
    have h := o_f hc21 h
    have h := o_f hc22 h
    have h := o_f hc23 h
    have h := o_f hc24 h
    have h := o_f hc25 h
    have h := o_f hc26 h
    have h := o_f hc27 h
    have h := o_f hc28 h
    have h := o_f hc29 h
    have h := o_f hc30 h
    have h := o_f hc31 h
    have h := o_f hc32 h
    have h := o_f hc33 h
    have h := o_f hc34 h
    have h := o_f hc35 h
    have h := o_f hc36 h
    have h := o_f hc37 h
    have h := o_f hc38 h
    have h := o_f hc39 h
    have h := o_f hc40 h
    have h := o_f hc41 h
    have h := o_f hc42 h
    have h := o_f hc43 h
    have h := o_f hc44 h
    have h := o_f hc45 h
    have h := o_f hc46 h
    have h := o_f hc47 h
    have h := o_f hc48 h
    have h := o_f hc49 h
    have h := o_f hc50 h
    have h := o_f hc51 h
    have h := o_f hc52 h
    have h := o_f hc53 h
    have h := o_f hc54 h
    have h := o_f hc55 h
    have h := o_f hc56 h
    have h := o_f hc57 h
    have h := o_f hc58 h
    have h := o_f hc59 h
    have h := o_f hc60 h
    have h := o_f hc61 h
    have h := o_f hc62 h
    have h := o_f hc63 h
    have h := o_f hc64 h
    have h := o_f hc65 h
    have h := o_f hc66 h
    have h := o_f hc67 h
    have h := o_f hc68 h
    have h := o_f hc69 h
    have h := o_f hc70 h
    have h := o_f hc71 h
    have h := o_f hc72 h
    have h := o_t hc73 h
    refine G_iconst (g_da dt_Job_needs 10 rfl) ?_
    exact G_ireturn (g_da dt_Job_needs 11 rfl) rfl rfl rfl (g_nz rfl) (q_e h)
  · have h := o_f hc1 h
    have h := o_f hc2 h
    have h := o_f hc3 h
    have h := o_f hc4 h
    have h := o_f hc5 h
    have h := o_f hc6 h
    have h := o_f hc7 h
    have h := o_f hc8 h
    have h := o_f hc9 h
    have h := o_f hc10 h
    have h := o_f hc11 h
    have h := o_f hc12 h
    have h := o_f hc13 h
    have h := o_f hc14 h
    have h := o_f hc15 h
    have h := o_f hc16 h
    have h := o_f hc17 h
    have h := o_f hc18 h
    have h := o_f hc19 h
    have h := o_f hc20 h
    have h := o_f hc21 h
    have h := o_f hc22 h
    have h := o_f hc23 h
    have h := o_f hc24 h
    have h := o_f hc25 h
    have h := o_f hc26 h
    have h := o_f hc27 h
    have h := o_f hc28 h
    have h := o_f hc29 h
    have h := o_f hc30 h
    have h := o_f hc31 h
    have h := o_f hc32 h
    have h := o_f hc33 h
    have h := o_f hc34 h
    have h := o_f hc35 h
    have h := o_f hc36 h
    have h := o_f hc37 h
    have h := o_f hc38 h
    have h := o_f hc39 h
    have h := o_f hc40 h
    have h := o_f hc41 h
    have h := o_f hc42 h
    have h := o_f hc43 h
    have h := o_f hc44 h
    have h := o_f hc45 h
    have h := o_f hc46 h
    have h := o_f hc47 h
    have h := o_f hc48 h
    have h := o_f hc49 h
    have h := o_f hc50 h
    have h := o_f hc51 h
    have h := o_f hc52 h
    have h := o_f hc53 h
    have h := o_f hc54 h
    have h := o_f hc55 h
    have h := o_f hc56 h
    have h := o_f hc57 h
    have h := o_f hc58 h
    have h := o_f hc59 h
    have h := o_f hc60 h
    have h := o_f hc61 h
    have h := o_f hc62 h
    have h := o_f hc63 h
    have h := o_f hc64 h
    have h := o_f hc65 h
    have h := o_f hc66 h
    have h := o_f hc67 h
    have h := o_f hc68 h
    have h := o_f hc69 h
    have h := o_f hc70 h
    have h := o_f hc71 h
    have h := o_f hc72 h
    have h := o_f hc73 h
    have h := o_t hc74 h
    refine G_iconst (g_da dt_Job_needs 10 rfl) ?_
    exact G_ireturn (g_da dt_Job_needs 11 rfl) rfl rfl rfl (g_nz rfl) (q_e h)
  · have h := o_f hc1 h
    have h := o_f hc2 h
    have h := o_f hc3 h
    have h := o_f hc4 h
    have h := o_f hc5 h
    have h := o_f hc6 h
    have h := o_f hc7 h
    have h := o_f hc8 h
    have h := o_f hc9 h
    have h := o_f hc10 h
    have h := o_f hc11 h
    have h := o_f hc12 h
    have h := o_f hc13 h
    have h := o_f hc14 h
    have h := o_f hc15 h
    have h := o_f hc16 h
    have h := o_f hc17 h
    have h := o_f hc18 h
    have h := o_f hc19 h
    have h := o_f hc20 h
    have h := o_f hc21 h
    have h := o_f hc22 h
    have h := o_f hc23 h
    have h := o_f hc24 h
    have h := o_f hc25 h
    have h := o_f hc26 h
    have h := o_f hc27 h
    have h := o_f hc28 h
    have h := o_f hc29 h
    have h := o_f hc30 h
    have h := o_f hc31 h
    have h := o_f hc32 h
    have h := o_f hc33 h
    have h := o_f hc34 h
    have h := o_f hc35 h
    have h := o_f hc36 h
    have h := o_f hc37 h
    have h := o_f hc38 h
    have h := o_f hc39 h
    have h := o_f hc40 h
    have h := o_f hc41 h
    have h := o_f hc42 h
    have h := o_f hc43 h
    have h := o_f hc44 h
    have h := o_f hc45 h
    have h := o_f hc46 h
    have h := o_f hc47 h
    have h := o_f hc48 h
    have h := o_f hc49 h
    have h := o_f hc50 h
    have h := o_f hc51 h
    have h := o_f hc52 h
    have h := o_f hc53 h
    have h := o_f hc54 h
    have h := o_f hc55 h
    have h := o_f hc56 h
    have h := o_f hc57 h
    have h := o_f hc58 h
    have h := o_f hc59 h
    have h := o_f hc60 h
    have h := o_f hc61 h
    have h := o_f hc62 h
    have h := o_f hc63 h
    have h := o_f hc64 h
    have h := o_f hc65 h
    have h := o_f hc66 h
    have h := o_f hc67 h
    have h := o_f hc68 h
    have h := o_f hc69 h
    have h := o_f hc70 h
    have h := o_f hc71 h
    have h := o_f hc72 h
    have h := o_f hc73 h
    have h := o_f hc74 h
    have h := o_t hc75 h
    refine G_iconst (g_da dt_Job_needs 10 rfl) ?_
    exact G_ireturn (g_da dt_Job_needs 11 rfl) rfl rfl rfl (g_nz rfl) (q_e h)
  · have h := o_f hc1 h
    have h := o_f hc2 h
    have h := o_f hc3 h
    have h := o_f hc4 h
    have h := o_f hc5 h
    have h := o_f hc6 h
    have h := o_f hc7 h
    have h := o_f hc8 h
    have h := o_f hc9 h
    have h := o_f hc10 h
    have h := o_f hc11 h
    have h := o_f hc12 h
    have h := o_f hc13 h
    have h := o_f hc14 h
    have h := o_f hc15 h
    have h := o_f hc16 h
    have h := o_f hc17 h
    have h := o_f hc18 h
    have h := o_f hc19 h
    have h := o_f hc20 h
    have h := o_f hc21 h
    have h := o_f hc22 h
    have h := o_f hc23 h
    have h := o_f hc24 h
    have h := o_f hc25 h
    have h := o_f hc26 h
    have h := o_f hc27 h
    have h := o_f hc28 h
    have h := o_f hc29 h
    have h := o_f hc30 h
    have h := o_f hc31 h
    have h := o_f hc32 h
    have h := o_f hc33 h
    have h := o_f hc34 h
    have h := o_f hc35 h
    have h := o_f hc36 h
    have h := o_f hc37 h
    have h := o_f hc38 h
    have h := o_f hc39 h
    have h := o_f hc40 h
    have h := o_f hc41 h
    have h := o_f hc42 h
    have h := o_f hc43 h
    have h := o_f hc44 h
    have h := o_f hc45 h
    have h := o_f hc46 h
    have h := o_f hc47 h
    have h := o_f hc48 h
    have h := o_f hc49 h
    have h := o_f hc50 h
    have h := o_f hc51 h
    have h := o_f hc52 h
    have h := o_f hc53 h
    have h := o_f hc54 h
    have h := o_f hc55 h
    have h := o_f hc56 h
    have h := o_f hc57 h
    have h := o_f hc58 h
    have h := o_f hc59 h
    have h := o_f hc60 h
    have h := o_f hc61 h
    have h := o_f hc62 h
    have h := o_f hc63 h
    have h := o_f hc64 h
    have h := o_f hc65 h
    have h := o_f hc66 h
    have h := o_f hc67 h
    have h := o_f hc68 h
    have h := o_f hc69 h
    have h := o_f hc70 h
    have h := o_f hc71 h
    have h := o_f hc72 h
    have h := o_f hc73 h
    have h := o_f hc74 h
    have h := o_f hc75 h
    have h := o_t hc76 h
    refine G_iconst (g_da dt_Job_needs 10 rfl) ?_
    exact G_ireturn (g_da dt_Job_needs 11 rfl) rfl rfl rfl (g_nz rfl) (q_e h)
  · have h := o_f hc1 h
    have h := o_f hc2 h
    have h := o_f hc3 h
    have h := o_f hc4 h
    have h := o_f hc5 h
    have h := o_f hc6 h
    have h := o_f hc7 h
    have h := o_f hc8 h
    have h := o_f hc9 h
    have h := o_f hc10 h
    have h := o_f hc11 h
    have h := o_f hc12 h
    have h := o_f hc13 h
    have h := o_f hc14 h
    have h := o_f hc15 h
    have h := o_f hc16 h
    have h := o_f hc17 h
    have h := o_f hc18 h
    have h := o_f hc19 h
    have h := o_f hc20 h
    have h := o_f hc21 h
    have h := o_f hc22 h
    have h := o_f hc23 h
    have h := o_f hc24 h
    have h := o_f hc25 h
    have h := o_f hc26 h
    have h := o_f hc27 h
    have h := o_f hc28 h
    have h := o_f hc29 h
    have h := o_f hc30 h
    have h := o_f hc31 h
    have h := o_f hc32 h
    have h := o_f hc33 h
    have h := o_f hc34 h
    have h := o_f hc35 h
    have h := o_f hc36 h
    have h := o_f hc37 h
    have h := o_f hc38 h
    have h := o_f hc39 h
    have h := o_f hc40 h
    have h := o_f hc41 h
    have h := o_f hc42 h
    have h := o_f hc43 h
    have h := o_f hc44 h
    have h := o_f hc45 h
    have h := o_f hc46 h
    have h := o_f hc47 h
    have h := o_f hc48 h
    have h := o_f hc49 h
    have h := o_f hc50 h
    have h := o_f hc51 h
    have h := o_f hc52 h
    have h := o_f hc53 h
    have h := o_f hc54 h
    have h := o_f hc55 h
    have h := o_f hc56 h
    have h := o_f hc57 h
    have h := o_f hc58 h
    have h := o_f hc59 h
    have h := o_f hc60 h
    have h := o_f hc61 h
    have h := o_f hc62 h
    have h := o_f hc63 h
    have h := o_f hc64 h
    have h := o_f hc65 h
    have h := o_f hc66 h
    have h := o_f hc67 h
    have h := o_f hc68 h
    have h := o_f hc69 h
    have h := o_f hc70 h
    have h := o_f hc71 h
    have h := o_f hc72 h
    have h := o_f hc73 h
    have h := o_f hc74 h
    have h := o_f hc75 h
    have h := o_f hc76 h
    have h := o_t hc77 h
    refine G_iconst (g_da dt_Job_needs 10 rfl) ?_
    exact G_ireturn (g_da dt_Job_needs 11 rfl) rfl rfl rfl (g_nz rfl) (q_e h)
  · have h := o_f hc1 h
    have h := o_f hc2 h
    have h := o_f hc3 h
    have h := o_f hc4 h
    have h := o_f hc5 h
    have h := o_f hc6 h
    have h := o_f hc7 h
    have h := o_f hc8 h
    have h := o_f hc9 h
    have h := o_f hc10 h
    have h := o_f hc11 h
    have h := o_f hc12 h
    have h := o_f hc13 h
    have h := o_f hc14 h
    have h := o_f hc15 h
    have h := o_f hc16 h
    have h := o_f hc17 h
    have h := o_f hc18 h
    have h := o_f hc19 h
    have h := o_f hc20 h
    have h := o_f hc21 h
    have h := o_f hc22 h
    have h := o_f hc23 h
    have h := o_f hc24 h
    have h := o_f hc25 h
    have h := o_f hc26 h
    have h := o_f hc27 h
    have h := o_f hc28 h
    have h := o_f hc29 h
    have h := o_f hc30 h
    have h := o_f hc31 h
    have h := o_f hc32 h
    have h := o_f hc33 h
    have h := o_f hc34 h
    have h := o_f hc35 h
    have h := o_f hc36 h
    have h := o_f hc37 h
    have h := o_f hc38 h
    have h := o_f hc39 h
    have h := o_f hc40 h
    have h := o_f hc41 h
    have h := o_f hc42 h
    have h := o_f hc43 h
    have h := o_f hc44 h
    have h := o_f hc45 h
    have h := o_f hc46 h
    have h := o_f hc47 h
    have h := o_f hc48 h
    have h := o_f hc49 h
    have h := o_f hc50 h
    have h := o_f hc51 h
    have h := o_f hc52 h
    have h := o_f hc53 h
    have h := o_f hc54 h
    have h := o_f hc55 h
    have h := o_f hc56 h
    have h := o_f hc57 h
    have h := o_f hc58 h
    have h := o_f hc59 h
    have h := o_f hc60 h
    have h := o_f hc61 h
    have h := o_f hc62 h
    have h := o_f hc63 h
    have h := o_f hc64 h
    have h := o_f hc65 h
    have h := o_f hc66 h
    have h := o_f hc67 h
    have h := o_f hc68 h
    have h := o_f hc69 h
    have h := o_f hc70 h
    have h := o_f hc71 h
    have h := o_f hc72 h
    have h := o_f hc73 h
    have h := o_f hc74 h
    have h := o_f hc75 h
    have h := o_f hc76 h
    have h := o_f hc77 h
    have h := o_t hc78 h
    refine G_iconst (g_da dt_Job_needs 10 rfl) ?_
    exact G_ireturn (g_da dt_Job_needs 11 rfl) rfl rfl rfl (g_nz rfl) (q_e h)
  · have h := o_f hc1 h
    have h := o_f hc2 h
    have h := o_f hc3 h
    have h := o_f hc4 h
    have h := o_f hc5 h
    have h := o_f hc6 h
    have h := o_f hc7 h
    have h := o_f hc8 h
    have h := o_f hc9 h
    have h := o_f hc10 h
    have h := o_f hc11 h
    have h := o_f hc12 h
    have h := o_f hc13 h
    have h := o_f hc14 h
    have h := o_f hc15 h
    have h := o_f hc16 h
    have h := o_f hc17 h
    have h := o_f hc18 h
    have h := o_f hc19 h
    have h := o_f hc20 h
    have h := o_f hc21 h
    have h := o_f hc22 h
    have h := o_f hc23 h
    have h := o_f hc24 h
    have h := o_f hc25 h
    have h := o_f hc26 h
    have h := o_f hc27 h
    have h := o_f hc28 h
    have h := o_f hc29 h
    have h := o_f hc30 h
    have h := o_f hc31 h
    have h := o_f hc32 h
    have h := o_f hc33 h
    have h := o_f hc34 h
    have h := o_f hc35 h
    have h := o_f hc36 h
    have h := o_f hc37 h
    have h := o_f hc38 h
    have h := o_f hc39 h
    have h := o_f hc40 h
    have h := o_f hc41 h
    have h := o_f hc42 h
    have h := o_f hc43 h
    have h := o_f hc44 h
    have h := o_f hc45 h
    have h := o_f hc46 h
    have h := o_f hc47 h
    have h := o_f hc48 h
    have h := o_f hc49 h
    have h := o_f hc50 h
    have h := o_f hc51 h
    have h := o_f hc52 h
    have h := o_f hc53 h
    have h := o_f hc54 h
    have h := o_f hc55 h
    have h := o_f hc56 h
    have h := o_f hc57 h
    have h := o_f hc58 h
    have h := o_f hc59 h
    have h := o_f hc60 h
    have h := o_f hc61 h
    have h := o_f hc62 h
    have h := o_f hc63 h
    have h := o_f hc64 h
    have h := o_f hc65 h
    have h := o_f hc66 h
    have h := o_f hc67 h
    have h := o_f hc68 h
    have h := o_f hc69 h
    have h := o_f hc70 h
    have h := o_f hc71 h
    have h := o_f hc72 h
    have h := o_f hc73 h
    have h := o_f hc74 h
    have h := o_f hc75 h
    have h := o_f hc76 h
    have h := o_f hc77 h
    have h := o_f hc78 h
    have h := o_t hc79 h
    refine G_iconst (g_da dt_Job_needs 10 rfl) ?_
    exact G_ireturn (g_da dt_Job_needs 11 rfl) rfl rfl rfl (g_nz rfl) (q_e h)
  · have h := o_f hc1 h
    have h := o_f hc2 h
    have h := o_f hc3 h
    have h := o_f hc4 h
    have h := o_f hc5 h
    have h := o_f hc6 h
    have h := o_f hc7 h
    have h := o_f hc8 h
    have h := o_f hc9 h
    have h := o_f hc10 h
    have h := o_f hc11 h
    have h := o_f hc12 h
    have h := o_f hc13 h
    have h := o_f hc14 h
    have h := o_f hc15 h
    have h := o_f hc16 h
    have h := o_f hc17 h
    have h := o_f hc18 h
    have h := o_f hc19 h
    have h := o_f hc20 h
    have h := o_f hc21 h
    have h := o_f hc22 h
    have h := o_f hc23 h
    have h := o_f hc24 h
    have h := o_f hc25 h
    have h := o_f hc26 h
    have h := o_f hc27 h
    have h := o_f hc28 h
    have h := o_f hc29 h
    have h := o_f hc30 h
    have h := o_f hc31 h
    have h := o_f hc32 h
    have h := o_f hc33 h
    have h := o_f hc34 h
    have h := o_f hc35 h
    have h := o_f hc36 h
    have h := o_f hc37 h
    have h := o_f hc38 h
    have h := o_f hc39 h
    have h := o_f hc40 h
    have h := o_f hc41 h
    have h := o_f hc42 h
    have h := o_f hc43 h
    have h := o_f hc44 h
    have h := o_f hc45 h
    have h := o_f hc46 h
    have h := o_f hc47 h
    have h := o_f hc48 h
    have h := o_f hc49 h
    have h := o_f hc50 h
    have h := o_f hc51 h
    have h := o_f hc52 h
    have h := o_f hc53 h
    have h := o_f hc54 h
    have h := o_f hc55 h
    have h := o_f hc56 h
    have h := o_f hc57 h
    have h := o_f hc58 h
    have h := o_f hc59 h
    have h := o_f hc60 h
    have h := o_f hc61 h
    have h := o_f hc62 h
    have h := o_f hc63 h
    have h := o_f hc64 h
    have h := o_f hc65 h
    have h := o_f hc66 h
    have h := o_f hc67 h
    have h := o_f hc68 h
    have h := o_f hc69 h
    have h := o_f hc70 h
    have h := o_f hc71 h
    have h := o_f hc72 h
    have h := o_f hc73 h
    have h := o_f hc74 h
    have h := o_f hc75 h
    have h := o_f hc76 h
    have h := o_f hc77 h
    have h := o_f hc78 h
    have h := o_f hc79 h
    have h := o_t hc80 h
    refine G_iconst (g_da dt_Job_needs 10 rfl) ?_
    exact G_ireturn (g_da dt_Job_needs 11 rfl) rfl rfl rfl (g_nz rfl) (q_e h)
  · have h := o_f hc1 h
    have h := o_f hc2 h
    have h := o_f hc3 h
    have h := o_f hc4 h
    have h := o_f hc5 h
    have h := o_f hc6 h
    have h := o_f hc7 h
    have h := o_f hc8 h
    have h := o_f hc9 h
    have h := o_f hc10 h
    have h := o_f hc11 h
    have h := o_f hc12 h
    have h := o_f hc13 h
    have h := o_f hc14 h
    have h := o_f hc15 h
    have h := o_f hc16 h
    have h := o_f hc17 h
    have h := o_f hc18 h
    have h := o_f hc19 h
    have h := o_f hc20 h
    have h := o_f hc21 h
    have h := o_f hc22 h
    have h := o_f hc23 h
    have h := o_f hc24 h
    have h := o_f hc25 h
    have h := o_f hc26 h
    have h := o_f hc27 h
    have h := o_f hc28 h
    have h := o_f hc29 h
    have h := o_f hc30 h
    have h := o_f hc31 h
    have h := o_f hc32 h
    have h := o_f hc33 h
    have h := o_f hc34 h
    have h := o_f hc35 h
    have h := o_f hc36 h
    have h := o_f hc37 h
    have h := o_f hc38 h
    have h := o_f hc39 h
    have h := o_f hc40 h
    have h := o_f hc41 h
    have h := o_f hc42 h
    have h := o_f hc43 h
    have h := o_f hc44 h
    have h := o_f hc45 h
    have h := o_f hc46 h
    have h := o_f hc47 h
    have h := o_f hc48 h
    have h := o_f hc49 h
    have h := o_f hc50 h
    have h := o_f hc51 h
    have h := o_f hc52 h
    have h := o_f hc53 h
    have h := o_f hc54 h
    have h := o_f hc55 h
    have h := o_f hc56 h
    have h := o_f hc57 h
    have h := o_f hc58 h
    have h := o_f hc59 h
    have h := o_f hc60 h
    have h := o_f hc61 h
    have h := o_f hc62 h
    have h := o_f hc63 h
    have h := o_f hc64 h
    have h := o_f hc65 h
    have h := o_f hc66 h
    have h := o_f hc67 h
    have h := o_f hc68 h
    have h := o_f hc69 h
    have h := o_f hc70 h
    have h := o_f hc71 h
    have h := o_f hc72 h
    have h := o_f hc73 h
    have h := o_f hc74 h
    have h := o_f hc75 h
    have h := o_f hc76 h
    have h := o_f hc77 h
    have h := o_f hc78 h
    have h := o_f hc79 h
    have h := o_f hc80 h
    have h := o_t hc81 h
    refine G_iconst (g_da dt_Job_needs 10 rfl) ?_
    exact G_ireturn (g_da dt_Job_needs 11 rfl) rfl rfl rfl (g_nz rfl) (q_e h)
  · have h := o_f hc1 h
    have h := o_f hc2 h
    have h := o_f hc3 h
    have h := o_f hc4 h
    have h := o_f hc5 h
    have h := o_f hc6 h
    have h := o_f hc7 h
    have h := o_f hc8 h
    have h := o_f hc9 h
    have h := o_f hc10 h
    have h := o_f hc11 h
    have h := o_f hc12 h
    have h := o_f hc13 h
    have h := o_f hc14 h
    have h := o_f hc15 h
    have h := o_f hc16 h
    have h := o_f hc17 h
    have h := o_f hc18 h
    have h := o_f hc19 h
    have h := o_f hc20 h
    have h := o_f hc21 h
    have h := o_f hc22 h
    have h := o_f hc23 h
    have h := o_f hc24 h
    have h := o_f hc25 h
    have h := o_f hc26 h
    have h := o_f hc27 h
    have h := o_f hc28 h
    have h := o_f hc29 h
    have h := o_f hc30 h
    have h := o_f hc31 h
    have h := o_f hc32 h
    have h := o_f hc33 h
    have h := o_f hc34 h
    have h := o_f hc35 h
    have h := o_f hc36 h
    have h := o_f hc37 h
    have h := o_f hc38 h
    have h := o_f hc39 h
    have h := o_f hc40 h
    have h := o_f hc41 h
    have h := o_f hc42 h
    have h := o_f hc43 h
    have h := o_f hc44 h
    have h := o_f hc45 h
    have h := o_f hc46 h
    have h := o_f hc47 h
    have h := o_f hc48 h
    have h := o_f hc49 h
    have h := o_f hc50 h
    have h := o_f hc51 h
    have h := o_f hc52 h
    have h := o_f hc53 h
    have h := o_f hc54 h
    have h := o_f hc55 h
    have h := o_f hc56 h
    have h := o_f hc57 h
    have h := o_f hc58 h
    have h := o_f hc59 h
    have h := o_f hc60 h
    have h := o_f hc61 h
    have h := o_f hc62 h
    have h := o_f hc63 h
    have h := o_f hc64 h
    have h := o_f hc65 h
    have h := o_f hc66 h
    have h := o_f hc67 h
    have h := o_f hc68 h
    have h := o_f hc69 h
    have h := o_f hc70 h
    have h := o_f hc71 h
    have h := o_f hc72 h
    have h := o_f hc73 h
    have h := o_f hc74 h
    have h := o_f hc75 h
    have h := o_f hc76 h
    have h := o_f hc77 h
    have h := o_f hc78 h
    have h := o_f hc79 h
    have h := o_f hc80 h
    have h := o_f hc81 h
    have h := o_t hc82 h
    refine G_iconst (g_da dt_Job_needs 10 rfl) ?_
    exact G_ireturn (g_da dt_Job_needs 11 rfl) rfl rfl rfl (g_nz rfl) (q_e h)
  · have h := o_f hc1 h
    have h := o_f hc2 h
    have h := o_f hc3 h
    have h := o_f hc4 h
    have h := o_f hc5 h
    have h := o_f hc6 h
    have h := o_f hc7 h
    have h := o_f hc8 h
    have h := o_f hc9 h
    have h := o_f hc10 h
    have h := o_f hc11 h
    have h := o_f hc12 h
    have h := o_f hc13 h
    have h := o_f hc14 h
    have h := o_f hc15 h
    have h := o_f hc16 h
    have h := o_f hc17 h
    have h := o_f hc18 h
    have h := o_f hc19 h
    have h := o_f hc20 h
    have h := o_f hc21 h
    have h := o_f hc22 h
    have h := o_f hc23 h
    have h := o_f hc24 h
    have h := o_f hc25 h
    have h := o_f hc26 h
    have h := o_f hc27 h
    have h := o_f hc28 h
    have h := o_f hc29 h
    have h := o_f hc30 h
    have h := o_f hc31 h
    have h := o_f hc32 h
    have h := o_f hc33 h
    have h := o_f hc34 h
    have h := o_f hc35 h
    have h := o_f hc36 h
    have h := o_f hc37 h
    have h := o_f hc38 h
    have h := o_f hc39 h
    have h := o_f hc40 h
    have h := o_f hc41 h
    have h := o_f hc42 h
    have h := o_f hc43 h
    have h := o_f hc44 h
    have h := o_f hc45 h
    have h := o_f hc46 h
    have h := o_f hc47 h
    have h := o_f hc48 h
    have h := o_f hc49 h
    have h := o_f hc50 h
    have h := o_f hc51 h
    have h := o_f hc52 h
    have h := o_f hc53 h
    have h := o_f hc54 h
    have h := o_f hc55 h
    have h := o_f hc56 h
    have h := o_f hc57 h
    have h := o_f hc58 h
    have h := o_f hc59 h
    have h := o_f hc60 h
    have h := o_f hc61 h
    have h := o_f hc62 h
    have h := o_f hc63 h
    have h := o_f hc64 h
    have h := o_f hc65 h
    have h := o_f hc66 h
    have h := o_f hc67 h
    have h := o_f hc68 h
    have h := o_f hc69 h
    have h := o_f hc70 h
    have h := o_f hc71 h
    have h := o_f hc72 h
    have h := o_f hc73 h
    have h := o_f hc74 h
    have h := o_f hc75 h
    have h := o_f hc76 h
    have h := o_f hc77 h
    have h := o_f hc78 h
    have h := o_f hc79 h
    have h := o_f hc80 h
    have h := o_f hc81 h
    have h := o_f hc82 h
    have h := o_t hc83 h
    refine G_iconst (g_da dt_Job_needs 10 rfl) ?_
    exact G_ireturn (g_da dt_Job_needs 11 rfl) rfl rfl rfl (g_nz rfl) (q_e h)
  · have h := o_f hc1 h
    have h := o_f hc2 h
    have h := o_f hc3 h
    have h := o_f hc4 h
    have h := o_f hc5 h
    have h := o_f hc6 h
    have h := o_f hc7 h
    have h := o_f hc8 h
    have h := o_f hc9 h
    have h := o_f hc10 h
    have h := o_f hc11 h
    have h := o_f hc12 h
    have h := o_f hc13 h
    have h := o_f hc14 h
    have h := o_f hc15 h
    have h := o_f hc16 h
    have h := o_f hc17 h
    have h := o_f hc18 h
    have h := o_f hc19 h
    have h := o_f hc20 h
    have h := o_f hc21 h
    have h := o_f hc22 h
    have h := o_f hc23 h
    have h := o_f hc24 h
    have h := o_f hc25 h
    have h := o_f hc26 h
    have h := o_f hc27 h
    have h := o_f hc28 h
    have h := o_f hc29 h
    have h := o_f hc30 h
    have h := o_f hc31 h
    have h := o_f hc32 h
    have h := o_f hc33 h
    have h := o_f hc34 h
    have h := o_f hc35 h
    have h := o_f hc36 h
    have h := o_f hc37 h
    have h := o_f hc38 h
    have h := o_f hc39 h
    have h := o_f hc40 h
    have h := o_f hc41 h
    have h := o_f hc42 h
    have h := o_f hc43 h
    have h := o_f hc44 h
    have h := o_f hc45 h
    have h := o_f hc46 h
    have h := o_f hc47 h
    have h := o_f hc48 h
    have h := o_f hc49 h
    have h := o_f hc50 h
    have h := o_f hc51 h
    have h := o_f hc52 h
    have h := o_f hc53 h
    have h := o_f hc54 h
    have h := o_f hc55 h
    have h := o_f hc56 h
    have h := o_f hc57 h
    have h := o_f hc58 h
    have h := o_f hc59 h
    have h := o_f hc60 h
    have h := o_f hc61 h
    have h := o_f hc62 h
    have h := o_f hc63 h
    have h := o_f hc64 h
    have h := o_f hc65 h
    have h := o_f hc66 h
    have h := o_f hc67 h
    have h := o_f hc68 h
    have h := o_f hc69 h
    have h := o_f hc70 h
    have h := o_f hc71 h
    have h := o_f hc72 h
    have h := o_f hc73 h
    have h := o_f hc74 h
    have h := o_f hc75 h
    have h := o_f hc76 h
    have h := o_f hc77 h
    have h := o_f hc78 h
    have h := o_f hc79 h
    have h := o_f hc80 h
    have h := o_f hc81 h
    have h := o_f hc82 h
    have h := o_f hc83 h
    have h := o_t hc84 h
    refine G_iconst (g_da dt_Job_needs 10 rfl) ?_
    exact G_ireturn (g_da dt_Job_needs 11 rfl) rfl rfl rfl (g_nz rfl) (q_e h)
  · have h := o_f hc1 h
    have h := o_f hc2 h
    have h := o_f hc3 h
    have h := o_f hc4 h
    have h := o_f hc5 h
    have h := o_f hc6 h
    have h := o_f hc7 h
    have h := o_f hc8 h
    have h := o_f hc9 h
    have h := o_f hc10 h
    have h := o_f hc11 h
    have h := o_f hc12 h
    have h := o_f hc13 h
    have h := o_f hc14 h
    have h := o_f hc15 h
    have h := o_f hc16 h
    have h := o_f hc17 h
    have h := o_f hc18 h
    have h := o_f hc19 h
    have h := o_f hc20 h
    have h := o_f hc21 h
    have h := o_f hc22 h
    have h := o_f hc23 h
    have h := o_f hc24 h
    have h := o_f hc25 h
    have h := o_f hc26 h
    have h := o_f hc27 h
    have h := o_f hc28 h
    have h := o_f hc29 h
    have h := o_f hc30 h
    have h := o_f hc31 h
    have h := o_f hc32 h
    have h := o_f hc33 h
    have h := o_f hc34 h
    have h := o_f hc35 h
    have h := o_f hc36 h
    have h := o_f hc37 h
    have h := o_f hc38 h
    have h := o_f hc39 h
    have h := o_f hc40 h
    have h := o_f hc41 h
    have h := o_f hc42 h
    have h := o_f hc43 h
    have h := o_f hc44 h
    have h := o_f hc45 h
    have h := o_f hc46 h
    have h := o_f hc47 h
    have h := o_f hc48 h
    have h := o_f hc49 h
    have h := o_f hc50 h
    have h := o_f hc51 h
    have h := o_f hc52 h
    have h := o_f hc53 h
    have h := o_f hc54 h
    have h := o_f hc55 h
    have h := o_f hc56 h
    have h := o_f hc57 h
    have h := o_f hc58 h
    have h := o_f hc59 h
    have h := o_f hc60 h
    have h := o_f hc61 h
    have h := o_f hc62 h
    have h := o_f hc63 h
    have h := o_f hc64 h
    have h := o_f hc65 h
    have h := o_f hc66 h
    have h := o_f hc67 h
    have h := o_f hc68 h
    have h := o_f hc69 h
    have h := o_f hc70 h
    have h := o_f hc71 h
    have h := o_f hc72 h
    have h := o_f hc73 h
    have h := o_f hc74 h
    have h := o_f hc75 h
    have h := o_f hc76 h
    have h := o_f hc77 h
    have h := o_f hc78 h
    have h := o_f hc79 h
    have h := o_f hc80 h
    have h := o_f hc81 h
    have h := o_f hc82 h
    have h := o_f hc83 h
    have h := o_f hc84 h
    have h := o_t hc85 h
    refine G_iconst (g_da dt_Job_needs 10 rfl) ?_
    exact G_ireturn (g_da dt_Job_needs 11 rfl) rfl rfl rfl (g_nz rfl) (q_e h)
  · have h := o_f hc1 h
    have h := o_f hc2 h
    have h := o_f hc3 h
    have h := o_f hc4 h
    have h := o_f hc5 h
    have h := o_f hc6 h
    have h := o_f hc7 h
    have h := o_f hc8 h
    have h := o_f hc9 h
    have h := o_f hc10 h
    have h := o_f hc11 h
    have h := o_f hc12 h
    have h := o_f hc13 h
    have h := o_f hc14 h
    have h := o_f hc15 h
    have h := o_f hc16 h
    have h := o_f hc17 h
    have h := o_f hc18 h
    have h := o_f hc19 h
    have h := o_f hc20 h
    have h := o_f hc21 h
    have h := o_f hc22 h
    have h := o_f hc23 h
    have h := o_f hc24 h
    have h := o_f hc25 h
    have h := o_f hc26 h
    have h := o_f hc27 h
    have h := o_f hc28 h
    have h := o_f hc29 h
    have h := o_f hc30 h
    have h := o_f hc31 h
    have h := o_f hc32 h
    have h := o_f hc33 h
    have h := o_f hc34 h
    have h := o_f hc35 h
    have h := o_f hc36 h
    have h := o_f hc37 h
    have h := o_f hc38 h
    have h := o_f hc39 h
    have h := o_f hc40 h
    have h := o_f hc41 h
    have h := o_f hc42 h
    have h := o_f hc43 h
    have h := o_f hc44 h
    have h := o_f hc45 h
    have h := o_f hc46 h
    have h := o_f hc47 h
    have h := o_f hc48 h
    have h := o_f hc49 h
    have h := o_f hc50 h
    have h := o_f hc51 h
    have h := o_f hc52 h
    have h := o_f hc53 h
    have h := o_f hc54 h
    have h := o_f hc55 h
    have h := o_f hc56 h
    have h := o_f hc57 h
    have h := o_f hc58 h
    have h := o_f hc59 h
    have h := o_f hc60 h
    have h := o_f hc61 h
    have h := o_f hc62 h
    have h := o_f hc63 h
    have h := o_f hc64 h
    have h := o_f hc65 h
    have h := o_f hc66 h
    have h := o_f hc67 h
    have h := o_f hc68 h
    have h := o_f hc69 h
    have h := o_f hc70 h
    have h := o_f hc71 h
    have h := o_f hc72 h
    have h := o_f hc73 h
    have h := o_f hc74 h
    have h := o_f hc75 h
    have h := o_f hc76 h
    have h := o_f hc77 h
    have h := o_f hc78 h
    have h := o_f hc79 h
    have h := o_f hc80 h
    have h := o_f hc81 h
    have h := o_f hc82 h
    have h := o_f hc83 h
    have h := o_f hc84 h
    have h := o_f hc85 h
    have h := o_t hc86 h
    refine G_iconst (g_da dt_Job_needs 10 rfl) ?_
    exact G_ireturn (g_da dt_Job_needs 11 rfl) rfl rfl rfl (g_nz rfl) (q_e h)
  · have h := o_f hc1 h
    have h := o_f hc2 h
    have h := o_f hc3 h
    have h := o_f hc4 h
    have h := o_f hc5 h
    have h := o_f hc6 h
    have h := o_f hc7 h
    have h := o_f hc8 h
    have h := o_f hc9 h
    have h := o_f hc10 h
    have h := o_f hc11 h
    have h := o_f hc12 h
    have h := o_f hc13 h
    have h := o_f hc14 h
    have h := o_f hc15 h
    have h := o_f hc16 h
    have h := o_f hc17 h
    have h := o_f hc18 h
    have h := o_f hc19 h
    have h := o_f hc20 h
    have h := o_f hc21 h
    have h := o_f hc22 h
    have h := o_f hc23 h
    have h := o_f hc24 h
    have h := o_f hc25 h
    have h := o_f hc26 h
    have h := o_f hc27 h
    have h := o_f hc28 h
    have h := o_f hc29 h
    have h := o_f hc30 h
    have h := o_f hc31 h
    have h := o_f hc32 h
    have h := o_f hc33 h
    have h := o_f hc34 h
    have h := o_f hc35 h
    have h := o_f hc36 h
    have h := o_f hc37 h
    have h := o_f hc38 h
    have h := o_f hc39 h
    have h := o_f hc40 h
    have h := o_f hc41 h
    have h := o_f hc42 h
    have h := o_f hc43 h
    have h := o_f hc44 h
    have h := o_f hc45 h
    have h := o_f hc46 h
    have h := o_f hc47 h
    have h := o_f hc48 h
    have h := o_f hc49 h
    have h := o_f hc50 h
    have h := o_f hc51 h
    have h := o_f hc52 h
    have h := o_f hc53 h
    have h := o_f hc54 h
    have h := o_f hc55 h
    have h := o_f hc56 h
    have h := o_f hc57 h
    have h := o_f hc58 h
    have h := o_f hc59 h
    have h := o_f hc60 h
    have h := o_f hc61 h
    have h := o_f hc62 h
    have h := o_f hc63 h
    have h := o_f hc64 h
    have h := o_f hc65 h
    have h := o_f hc66 h
    have h := o_f hc67 h
    have h := o_f hc68 h
    have h := o_f hc69 h
    have h := o_f hc70 h
    have h := o_f hc71 h
    have h := o_f hc72 h
    have h := o_f hc73 h
    have h := o_f hc74 h
    have h := o_f hc75 h
    have h := o_f hc76 h
    have h := o_f hc77 h
    have h := o_f hc78 h
    have h := o_f hc79 h
    have h := o_f hc80 h
    have h := o_f hc81 h
    have h := o_f hc82 h
    have h := o_f hc83 h
    have h := o_f hc84 h
    have h := o_f hc85 h
    have h := o_f hc86 h
    have h := o_t hc87 h
    refine G_iconst (g_da dt_Job_needs 10 rfl) ?_
    exact G_ireturn (g_da dt_Job_needs 11 rfl) rfl rfl rfl (g_nz rfl) (q_e h)
  · have h := o_f hc1 h
    have h := o_f hc2 h
    have h := o_f hc3 h
    have h := o_f hc4 h
    have h := o_f hc5 h
    have h := o_f hc6 h
    have h := o_f hc7 h
    have h := o_f hc8 h
    have h := o_f hc9 h
    have h := o_f hc10 h
    have h := o_f hc11 h
    have h := o_f hc12 h
    have h := o_f hc13 h
    have h := o_f hc14 h
    have h := o_f hc15 h
    have h := o_f hc16 h
    have h := o_f hc17 h
    have h := o_f hc18 h
    have h := o_f hc19 h
    have h := o_f hc20 h
    have h := o_f hc21 h
    have h := o_f hc22 h
    have h := o_f hc23 h
    have h := o_f hc24 h
    have h := o_f hc25 h
    have h := o_f hc26 h
    have h := o_f hc27 h
    have h := o_f hc28 h
    have h := o_f hc29 h
    have h := o_f hc30 h
    have h := o_f hc31 h
    have h := o_f hc32 h
    have h := o_f hc33 h
    have h := o_f hc34 h
    have h := o_f hc35 h
    have h := o_f hc36 h
    have h := o_f hc37 h
    have h := o_f hc38 h
    have h := o_f hc39 h
    have h := o_f hc40 h
    have h := o_f hc41 h
    have h := o_f hc42 h
    have h := o_f hc43 h
    have h := o_f hc44 h
    have h := o_f hc45 h
    have h := o_f hc46 h
    have h := o_f hc47 h
    have h := o_f hc48 h
    have h := o_f hc49 h
    have h := o_f hc50 h
    have h := o_f hc51 h
    have h := o_f hc52 h
    have h := o_f hc53 h
    have h := o_f hc54 h
    have h := o_f hc55 h
    have h := o_f hc56 h
    have h := o_f hc57 h
    have h := o_f hc58 h
    have h := o_f hc59 h
    have h := o_f hc60 h
    have h := o_f hc61 h
    have h := o_f hc62 h
    have h := o_f hc63 h
    have h := o_f hc64 h
    have h := o_f hc65 h
    have h := o_f hc66 h
    have h := o_f hc67 h
    have h := o_f hc68 h
    have h := o_f hc69 h
    have h := o_f hc70 h
    have h := o_f hc71 h
    have h := o_f hc72 h
    have h := o_f hc73 h
    have h := o_f hc74 h
    have h := o_f hc75 h
    have h := o_f hc76 h
    have h := o_f hc77 h
    have h := o_f hc78 h
    have h := o_f hc79 h
    have h := o_f hc80 h
    have h := o_f hc81 h
    have h := o_f hc82 h
    have h := o_f hc83 h
    have h := o_f hc84 h
    have h := o_f hc85 h
    have h := o_f hc86 h
    have h := o_f hc87 h
    have h := o_t hc88 h
    refine G_iconst (g_da dt_Job_needs 10 rfl) ?_
    exact G_ireturn (g_da dt_Job_needs 11 rfl) rfl rfl rfl (g_nz rfl) (q_e h)
  · have h := o_f hc1 h
    have h := o_f hc2 h
    have h := o_f hc3 h
    have h := o_f hc4 h
    have h := o_f hc5 h
    have h := o_f hc6 h
    have h := o_f hc7 h
    have h := o_f hc8 h
    have h := o_f hc9 h
    have h := o_f hc10 h
    have h := o_f hc11 h
    have h := o_f hc12 h
    have h := o_f hc13 h
    have h := o_f hc14 h
    have h := o_f hc15 h
    have h := o_f hc16 h
    have h := o_f hc17 h
    have h := o_f hc18 h
    have h := o_f hc19 h
    have h := o_f hc20 h
    have h := o_f hc21 h
    have h := o_f hc22 h
    have h := o_f hc23 h
    have h := o_f hc24 h
    have h := o_f hc25 h
    have h := o_f hc26 h
    have h := o_f hc27 h
    have h := o_f hc28 h
    have h := o_f hc29 h
    have h := o_f hc30 h
    have h := o_f hc31 h
    have h := o_f hc32 h
    have h := o_f hc33 h
    have h := o_f hc34 h
    have h := o_f hc35 h
    have h := o_f hc36 h
    have h := o_f hc37 h
    have h := o_f hc38 h
    have h := o_f hc39 h
    have h := o_f hc40 h
    have h := o_f hc41 h
    have h := o_f hc42 h
    have h := o_f hc43 h
    have h := o_f hc44 h
    have h := o_f hc45 h
    have h := o_f hc46 h
    have h := o_f hc47 h
    have h := o_f hc48 h
    have h := o_f hc49 h
    have h := o_f hc50 h
    have h := o_f hc51 h
    have h := o_f hc52 h
    have h := o_f hc53 h
    have h := o_f hc54 h
    have h := o_f hc55 h
    have h := o_f hc56 h
    have h := o_f hc57 h
    have h := o_f hc58 h
    have h := o_f hc59 h
    have h := o_f hc60 h
    have h := o_f hc61 h
    have h := o_f hc62 h
    have h := o_f hc63 h
    have h := o_f hc64 h
    have h := o_f hc65 h
    have h := o_f hc66 h
    have h := o_f hc67 h
    have h := o_f hc68 h
    have h := o_f hc69 h
    have h := o_f hc70 h
    have h := o_f hc71 h
    have h := o_f hc72 h
    have h := o_f hc73 h
    have h := o_f hc74 h
    have h := o_f hc75 h
    have h := o_f hc76 h
    have h := o_f hc77 h
    have h := o_f hc78 h
    have h := o_f hc79 h
    have h := o_f hc80 h
    have h := o_f hc81 h
    have h := o_f hc82 h
    have h := o_f hc83 h
    have h := o_f hc84 h
    have h := o_f hc85 h
    have h := o_f hc86 h
    have h := o_f hc87 h
    have h := o_f hc88 h
    have h := o_t hc89 h
    refine G_iconst (g_da dt_Job_needs 10 rfl) ?_
    exact G_ireturn (g_da dt_Job_needs 11 rfl) rfl rfl rfl (g_nz rfl) (q_e h)
  · have h := o_f hc1 h
    have h := o_f hc2 h
    have h := o_f hc3 h
    have h := o_f hc4 h
    have h := o_f hc5 h
    have h := o_f hc6 h
    have h := o_f hc7 h
    have h := o_f hc8 h
    have h := o_f hc9 h
    have h := o_f hc10 h
    have h := o_f hc11 h
    have h := o_f hc12 h
    have h := o_f hc13 h
    have h := o_f hc14 h
    have h := o_f hc15 h
    have h := o_f hc16 h
    have h := o_f hc17 h
    have h := o_f hc18 h
    have h := o_f hc19 h
    have h := o_f hc20 h
    have h := o_f hc21 h
    have h := o_f hc22 h
    have h := o_f hc23 h
    have h := o_f hc24 h
    have h := o_f hc25 h
    have h := o_f hc26 h
    have h := o_f hc27 h
    have h := o_f hc28 h
    have h := o_f hc29 h
    have h := o_f hc30 h
    have h := o_f hc31 h
    have h := o_f hc32 h
    have h := o_f hc33 h
    have h := o_f hc34 h
    have h := o_f hc35 h
    have h := o_f hc36 h
    have h := o_f hc37 h
    have h := o_f hc38 h
    have h := o_f hc39 h
    have h := o_f hc40 h
    have h := o_f hc41 h
    have h := o_f hc42 h
    have h := o_f hc43 h
    have h := o_f hc44 h
    have h := o_f hc45 h
    have h := o_f hc46 h
    have h := o_f hc47 h
    have h := o_f hc48 h
    have h := o_f hc49 h
    have h := o_f hc50 h
    have h := o_f hc51 h
    have h := o_f hc52 h
    have h := o_f hc53 h
    have h := o_f hc54 h
    have h := o_f hc55 h
    have h := o_f hc56 h
    have h := o_f hc57 h
    have h := o_f hc58 h
    have h := o_f hc59 h
    have h := o_f hc60 h
    have h := o_f hc61 h
    have h := o_f hc62 h
    have h := o_f hc63 h
    have h := o_f hc64 h
    have h := o_f hc65 h
    have h := o_f hc66 h
    have h := o_f hc67 h
    have h := o_f hc68 h
    have h := o_f hc69 h
    have h := o_f hc70 h
    have h := o_f hc71 h
    have h := o_f hc72 h
    have h := o_f hc73 h
    have h := o_f hc74 h
    have h := o_f hc75 h
    have h := o_f hc76 h
    have h := o_f hc77 h
    have h := o_f hc78 h
    have h := o_f hc79 h
    have h := o_f hc80 h
    have h := o_f hc81 h
    have h := o_f hc82 h
    have h := o_f hc83 h
    have h := o_f hc84 h
    have h := o_f hc85 h
    have h := o_f hc86 h
    have h := o_f hc87 h
    have h := o_f hc88 h
    have h := o_f hc89 h
    have h := o_t hc90 h
    refine G_iconst (g_da dt_Job_needs 2 rfl) ?_
    exact G_ireturn (g_da dt_Job_needs 3 rfl) rfl rfl rfl (g_nz rfl) (q_e h)
  · have h := o_f hc1 h
    have h := o_f hc2 h
    have h := o_f hc3 h
    have h := o_f hc4 h
    have h := o_f hc5 h
    have h := o_f hc6 h
    have h := o_f hc7 h
    have h := o_f hc8 h
    have h := o_f hc9 h
    have h := o_f hc10 h
    have h := o_f hc11 h
    have h := o_f hc12 h
    have h := o_f hc13 h
    have h := o_f hc14 h
    have h := o_f hc15 h
    have h := o_f hc16 h
    have h := o_f hc17 h
    have h := o_f hc18 h
    have h := o_f hc19 h
    have h := o_f hc20 h
    have h := o_f hc21 h
    have h := o_f hc22 h
    have h := o_f hc23 h
    have h := o_f hc24 h
    have h := o_f hc25 h
    have h := o_f hc26 h
    have h := o_f hc27 h
    have h := o_f hc28 h
    have h := o_f hc29 h
    have h := o_f hc30 h
    have h := o_f hc31 h
    have h := o_f hc32 h
    have h := o_f hc33 h
    have h := o_f hc34 h
    have h := o_f hc35 h
    have h := o_f hc36 h
    have h := o_f hc37 h
    have h := o_f hc38 h
    have h := o_f hc39 h
    have h := o_f hc40 h
    have h := o_f hc41 h
    have h := o_f hc42 h
    have h := o_f hc43 h
    have h := o_f hc44 h
    have h := o_f hc45 h
    have h := o_f hc46 h
    have h := o_f hc47 h
    have h := o_f hc48 h
    have h := o_f hc49 h
    have h := o_f hc50 h
    have h := o_f hc51 h
    have h := o_f hc52 h
    have h := o_f hc53 h
    have h := o_f hc54 h
    have h := o_f hc55 h
    have h := o_f hc56 h
    have h := o_f hc57 h
    have h := o_f hc58 h
    have h := o_f hc59 h
    have h := o_f hc60 h
    have h := o_f hc61 h
    have h := o_f hc62 h
    have h := o_f hc63 h
    have h := o_f hc64 h
    have h := o_f hc65 h
    have h := o_f hc66 h
    have h := o_f hc67 h
    have h := o_f hc68 h
    have h := o_f hc69 h
    have h := o_f hc70 h
    have h := o_f hc71 h
    have h := o_f hc72 h
    have h := o_f hc73 h
    have h := o_f hc74 h
    have h := o_f hc75 h
    have h := o_f hc76 h
    have h := o_f hc77 h
    have h := o_f hc78 h
    have h := o_f hc79 h
    have h := o_f hc80 h
    have h := o_f hc81 h
    have h := o_f hc82 h
    have h := o_f hc83 h
    have h := o_f hc84 h
    have h := o_f hc85 h
    have h := o_f hc86 h
    have h := o_f hc87 h
    have h := o_f hc88 h
    have h := o_f hc89 h
    have h := o_f hc90 h
    refine G_iconst (g_da dt_Job_needs 10 rfl) ?_
    exact G_ireturn (g_da dt_Job_needs 11 rfl) rfl rfl rfl (g_nz rfl) (q_e h)
