set_option maxHeartbeats 4000000 in
set_option maxRecDepth 100000 in
theorem M_out1_66_ok {J : gS → gS} (hJm : g_jm J) {z0 : Int} {s0 : gS}  {l2 l3 l4 t0 : Int} {s : gS} (h : M_out1_66 l2 l3 l4 t0 s = some (z0, s0)) : G M_M_out1 (QE g_S J z0 s0) (g_S, 0, 0) (J s) 66 [some (.ref 49), none, some (gi l2), some (gi l3), some (gi l4), none] [gi t0] := by
  unfold M_out1_66 at h
  refine G_istore (lv' := [_, none, _, _, _, _]) (g_da dt_M_out1 39 rfl) (Nat.le_of_ble_eq_true rfl) rfl rfl ?_
  refine G_iload_n (g_da dt_M_out1 40 rfl) rfl rfl ?_
  refine G_if_ne (g_da dt_M_out1 41 rfl) rfl rfl  (fun hc15 => ?_) (fun hc15 => ?_)
  · have h := o_f hc15 h
    refine G_iload_n (g_da dt_M_out1 44 rfl) rfl rfl ?_
    refine G_iconst (g_da dt_M_out1 45 rfl) ?_
    refine G_icmp_ne (g_da dt_M_out1 46 rfl) rfl rfl w_1 (fun hc16 => ?_) (fun hc16 => ?_)
    · have h := o_f hc16 h
      refine G_iload_n (g_da dt_M_out1 51 rfl) rfl rfl ?_
      refine G_iconst (g_da dt_M_out1 52 rfl) ?_
      refine G_icmp_ne (g_da dt_M_out1 53 rfl) rfl rfl w_2 (fun hc17 => ?_) (fun hc17 => ?_)
      · have h := o_f hc17 h
        refine G_aload_n (g_da dt_M_out1 56 rfl) rfl rfl ?_
        refine H_getI (g_da dt_M_out1 57 rfl) sh_49 fl_15_126 rfl (hJm 49 rfl) ?_
        refine G_if_eq (g_da dt_M_out1 58 rfl) rfl rfl  (fun hc18 => ?_) (fun hc18 => ?_)
        · have h := o_t hc18 h
          refine G_iconst (g_da dt_M_out1 69 rfl) ?_
          exact G_ireturn (g_da dt_M_out1 70 rfl) rfl rfl rfl (g_nz rfl) (q_e h)
        · have h := o_f hc18 h
          refine G_iload (g_da dt_M_out1 59 rfl) rfl ?_
          refine G_iconst (g_da dt_M_out1 60 rfl) ?_
          refine G_iadd (g_da dt_M_out1 61 rfl) ?_
          refine G_aload_n (g_da dt_M_out1 62 rfl) rfl rfl ?_
          refine H_getI (g_da dt_M_out1 63 rfl) sh_49 fl_15_139 rfl (hJm 49 rfl) ?_
          refine G_icmp_ge (g_da dt_M_out1 64 rfl) rfl rfl rfl (fun hc19 => ?_) (fun hc19 => ?_)
          · have h := o_t hc19 h
            refine G_iconst (g_da dt_M_out1 69 rfl) ?_
            exact G_ireturn (g_da dt_M_out1 70 rfl) rfl rfl rfl (g_nz rfl) (q_e h)
          · have h := o_f hc19 h
            refine G_iload (g_da dt_M_out1 65 rfl) rfl ?_
            refine G_iconst (g_da dt_M_out1 66 rfl) ?_
            refine G_iadd (g_da dt_M_out1 67 rfl) ?_
            refine G_goto (g_da dt_M_out1 68 rfl) rfl ?_
            exact G_ireturn (g_da dt_M_out1 70 rfl) rfl rfl rfl (g_nz rfl) (q_e h)
      · have h := o_t hc17 h
        refine G_iload (g_da dt_M_out1 54 rfl) rfl ?_
        refine G_goto (g_da dt_M_out1 55 rfl) rfl ?_
        exact G_ireturn (g_da dt_M_out1 70 rfl) rfl rfl rfl (g_nz rfl) (q_e h)
    · have h := o_t hc16 h
      refine G_iload_n (g_da dt_M_out1 47 rfl) rfl rfl ?_
      refine G_iload (g_da dt_M_out1 48 rfl) rfl ?_
      obtain ⟨hz20, h⟩ := o_g h
      refine G_idiv (g_da dt_M_out1 49 rfl) hz20 ?_
      refine G_goto (g_da dt_M_out1 50 rfl) rfl ?_
      exact G_ireturn (g_da dt_M_out1 70 rfl) rfl rfl rfl (g_nz rfl) (q_e h)
  · have h := o_t hc15 h
    refine G_iload_n (g_da dt_M_out1 42 rfl) rfl rfl ?_
    refine G_goto (g_da dt_M_out1 43 rfl) rfl ?_
    exact G_ireturn (g_da dt_M_out1 70 rfl) rfl rfl rfl (g_nz rfl) (q_e h)
set_option maxHeartbeats 4000000 in
set_option maxRecDepth 100000 in
theorem M_out1_ok {J : gS → gS} (hJm : g_jm J) {z0 : Int} {s0 : gS} {a1 a2 : Int} {s : gS} (h : M_out1 a1 a2 s = some (z0, s0)) : Ct M_M_out1 g_S [.ref 49, gi a1, gi a2] (J s) (QE g_S J z0 s0) := by
  refine Ct_of [some (.ref 49), some (gi a1), some (gi a2), none, none, none] (plainFor_of_name (by decide)) rfl (Nat.le_of_ble_eq_true rfl) rfl (by decide) q_rE ?_
  unfold M_out1 at h
  refine G_aload_n (g_da dt_M_out1 0 rfl) rfl rfl ?_
  refine G_iconst (g_da dt_M_out1 1 rfl) ?_
  refine H_putI (g_da dt_M_out1 2 rfl) sh_49 fp_15_83 rfl (hJm 49 rfl) (fun s1 e2 => ?_)
  have h := o_l h s1 e2
  refine G_iload_n (g_da dt_M_out1 3 rfl) rfl rfl ?_
  refine G_if_lt (g_da dt_M_out1 4 rfl) rfl rfl  (fun hc3 => ?_) (fun hc3 => ?_)
  · have h := o_t hc3 h
    refine G_iconst (g_da dt_M_out1 14 rfl) ?_
    exact G_ireturn (g_da dt_M_out1 15 rfl) rfl rfl rfl (g_nz rfl) (q_e h)
  · have h := o_f hc3 h
    refine G_iload_n (g_da dt_M_out1 5 rfl) rfl rfl ?_
    refine G_aload_n (g_da dt_M_out1 6 rfl) rfl rfl ?_
    refine H_getI (g_da dt_M_out1 7 rfl) sh_49 fl_15_110 rfl (hJm 49 rfl) ?_
    refine G_icmp_ge (g_da dt_M_out1 8 rfl) rfl rfl rfl (fun hc4 => ?_) (fun hc4 => ?_)
    · have h := o_t hc4 h
      refine G_iconst (g_da dt_M_out1 14 rfl) ?_
      exact G_ireturn (g_da dt_M_out1 15 rfl) rfl rfl rfl (g_nz rfl) (q_e h)
    · have h := o_f hc4 h
      refine G_iload_n (g_da dt_M_out1 9 rfl) rfl rfl ?_
      refine G_if_lt (g_da dt_M_out1 10 rfl) rfl rfl  (fun hc5 => ?_) (fun hc5 => ?_)
      · have h := o_t hc5 h
        refine G_iconst (g_da dt_M_out1 14 rfl) ?_
        exact G_ireturn (g_da dt_M_out1 15 rfl) rfl rfl rfl (g_nz rfl) (q_e h)
      · have h := o_f hc5 h
        refine G_iload_n (g_da dt_M_out1 11 rfl) rfl rfl ?_
        refine G_iconst (g_da dt_M_out1 12 rfl) ?_
        refine G_icmp_le (g_da dt_M_out1 13 rfl) rfl rfl w_3 (fun hc6 => ?_) (fun hc6 => ?_)
        · have h := o_t hc6 h
          refine G_aload_n (g_da dt_M_out1 16 rfl) rfl rfl ?_
          refine G_getR (g_da dt_M_out1 17 rfl) sh_49 fl_15_71 rfl ?_
          refine G_iload_n (g_da dt_M_out1 18 rfl) rfl rfl ?_
          obtain ⟨hb7, h⟩ := o_g h
          refine H_iaload (g_da dt_M_out1 19 rfl) sh_70 (hJm 70 rfl) rfl hb7 rfl ?_
          refine H_topi (fun v8 e9 => ?_)
          have h := o_l h v8 e9
          refine G_istore_n (lv' := [_, _, _, _, none, none]) (g_da dt_M_out1 20 rfl) rfl (Nat.le_of_ble_eq_true rfl) rfl rfl ?_
          refine G_aload_n (g_da dt_M_out1 21 rfl) rfl rfl ?_
          refine H_getI (g_da dt_M_out1 22 rfl) sh_49 fl_15_113 rfl (hJm 49 rfl) ?_
          refine G_aload_n (g_da dt_M_out1 23 rfl) rfl rfl ?_
          refine H_getI (g_da dt_M_out1 24 rfl) sh_49 fl_15_123 rfl (hJm 49 rfl) ?_
          obtain ⟨hz10, h⟩ := o_g h
          refine G_idiv (g_da dt_M_out1 25 rfl) hz10 ?_
          refine H_topi (fun v11 e12 => ?_)
          have h := o_l h v11 e12
          refine G_istore (lv' := [_, _, _, _, _, none]) (g_da dt_M_out1 26 rfl) (Nat.le_of_ble_eq_true rfl) rfl rfl ?_
          refine G_aload_n (g_da dt_M_out1 27 rfl) rfl rfl ?_
          refine H_getI (g_da dt_M_out1 28 rfl) sh_49 fl_15_126 rfl (hJm 49 rfl) ?_
          refine G_if_eq (g_da dt_M_out1 29 rfl) rfl rfl  (fun hc13 => ?_) (fun hc13 => ?_)
          · have h := o_t hc13 h
            refine G_iload_n (g_da dt_M_out1 36 rfl) rfl rfl ?_
            refine G_iload (g_da dt_M_out1 37 rfl) rfl ?_
            obtain ⟨hz14, h⟩ := o_g h
            refine G_irem (g_da dt_M_out1 38 rfl) hz14 ?_
            exact G_subK (M_out1_66_ok hJm h) ⟨rfl, ⟨rfl, ⟨rfl, ⟨rfl, trivial⟩⟩⟩⟩
          · have h := o_f hc13 h
            refine G_iload_n (g_da dt_M_out1 30 rfl) rfl rfl ?_
            refine G_iload (g_da dt_M_out1 31 rfl) rfl ?_
            obtain ⟨hz21, h⟩ := o_g h
            refine G_irem (g_da dt_M_out1 32 rfl) hz21 ?_
            refine G_iconst (g_da dt_M_out1 33 rfl) ?_
            refine G_imul (g_da dt_M_out1 34 rfl) ?_
            refine G_goto (g_da dt_M_out1 35 rfl) rfl ?_
            exact G_subK (M_out1_66_ok hJm h) ⟨rfl, ⟨rfl, ⟨rfl, ⟨rfl, trivial⟩⟩⟩⟩
        · have h := o_f hc6 h
          refine G_iconst (g_da dt_M_out1 14 rfl) ?_
          exact G_ireturn (g_da dt_M_out1 15 rfl) rfl rfl rfl (g_nz rfl) (q_e h)
set_option maxHeartbeats 4000000 in
set_option maxRecDepth 100000 in
theorem M_isPixel_ok {J : gS → gS} {z0 : Int} {s0 : gS} {a0 a1 : Int} {s : gS} (h : M_isPixel a0 a1 s = some (z0, s0)) : Ct M_M_isPixel g_S [gi a0, gi a1] (J s) (QE g_S J z0 s0) := by
  refine Ct_of [some (gi a0), some (gi a1)] (plainFor_of_name (by decide)) rfl (Nat.le_of_ble_eq_true rfl) rfl (by decide) q_rE ?_
  unfold M_isPixel at h
  refine G_iload_n (g_da dt_M_isPixel 0 rfl) rfl rfl ?_
  refine G_if_lt (g_da dt_M_isPixel 1 rfl) rfl rfl  (fun hc1 => ?_) (fun hc1 => ?_)
  · have h := o_t hc1 h
    refine G_iconst (g_da dt_M_isPixel 12 rfl) ?_
    exact G_ireturn (g_da dt_M_isPixel 13 rfl) rfl (g_bool (Or.inl w_0)).1 rfl (g_nz rfl) (q_e h)
  · have h := o_f hc1 h
    refine G_iload_n (g_da dt_M_isPixel 2 rfl) rfl rfl ?_
    refine G_bipush (g_da dt_M_isPixel 3 rfl) b8w_64 ?_
    refine G_icmp_ge (g_da dt_M_isPixel 4 rfl) rfl rfl w_64 (fun hc2 => ?_) (fun hc2 => ?_)
    · have h := o_t hc2 h
      refine G_iconst (g_da dt_M_isPixel 12 rfl) ?_
      exact G_ireturn (g_da dt_M_isPixel 13 rfl) rfl (g_bool (Or.inl w_0)).1 rfl (g_nz rfl) (q_e h)
    · have h := o_f hc2 h
      refine G_iload_n (g_da dt_M_isPixel 5 rfl) rfl rfl ?_
      refine G_if_lt (g_da dt_M_isPixel 6 rfl) rfl rfl  (fun hc3 => ?_) (fun hc3 => ?_)
      · have h := o_t hc3 h
        refine G_iconst (g_da dt_M_isPixel 12 rfl) ?_
        exact G_ireturn (g_da dt_M_isPixel 13 rfl) rfl (g_bool (Or.inl w_0)).1 rfl (g_nz rfl) (q_e h)
      · have h := o_f hc3 h
        refine G_iload_n (g_da dt_M_isPixel 7 rfl) rfl rfl ?_
        refine G_bipush (g_da dt_M_isPixel 8 rfl) b8w_48 ?_
        refine G_icmp_ge (g_da dt_M_isPixel 9 rfl) rfl rfl w_48 (fun hc4 => ?_) (fun hc4 => ?_)
        · have h := o_t hc4 h
          refine G_iconst (g_da dt_M_isPixel 12 rfl) ?_
          exact G_ireturn (g_da dt_M_isPixel 13 rfl) rfl (g_bool (Or.inl w_0)).1 rfl (g_nz rfl) (q_e h)
        · have h := o_f hc4 h
          refine G_iconst (g_da dt_M_isPixel 10 rfl) ?_
          refine G_goto (g_da dt_M_isPixel 11 rfl) rfl ?_
          exact G_ireturn (g_da dt_M_isPixel 13 rfl) rfl (g_bool (Or.inr w_1)).1 rfl (g_nz rfl) (q_e h)
set_option maxHeartbeats 4000000 in
set_option maxRecDepth 100000 in
theorem M_pixel_44_ok {J : gS → gS} (hJm : g_jm J) {z0 : Int} {s0 : gS}  {l2 l3 t1 t2 : Int} {s : gS} (h : M_pixel_44 l2 l3 t1 t2 s = some (z0, s0)) : G M_M_pixel (QE g_S J z0 s0) (g_S, 0, 0) (J s) 44 [none, none, some (gi l2), some (gi l3)] [gi t2, gi t1, .ref 64] := by
  unfold M_pixel_44 at h
  refine G_imul (g_da dt_M_pixel 23 rfl) ?_
  refine G_bipush (g_da dt_M_pixel 24 rfl) b8w_64 ?_
  refine G_iload_n (g_da dt_M_pixel 25 rfl) rfl rfl ?_
  refine G_imul (g_da dt_M_pixel 26 rfl) ?_
  refine G_iadd (g_da dt_M_pixel 27 rfl) ?_
  refine G_iload_n (g_da dt_M_pixel 28 rfl) rfl rfl ?_
  refine G_iadd (g_da dt_M_pixel 29 rfl) ?_
  obtain ⟨hb10, h⟩ := o_g h
  refine H_zaload (g_da dt_M_pixel 30 rfl) sh_64 (hJm 64 rfl) rfl hb10 rfl ?_
  refine G_if_eq (g_da dt_M_pixel 31 rfl) rfl rfl  (fun hc11 => ?_) (fun hc11 => ?_)
  · have h := o_t hc11 h
    refine G_iconst (g_da dt_M_pixel 34 rfl) ?_
    exact G_ireturn (g_da dt_M_pixel 35 rfl) rfl (g_bool (Or.inl w_0)).1 rfl (g_nz rfl) (q_e h)
  · have h := o_f hc11 h
    refine G_iconst (g_da dt_M_pixel 32 rfl) ?_
    refine G_goto (g_da dt_M_pixel 33 rfl) rfl ?_
    exact G_ireturn (g_da dt_M_pixel 35 rfl) rfl (g_bool (Or.inr w_1)).1 rfl (g_nz rfl) (q_e h)
set_option maxHeartbeats 4000000 in
set_option maxRecDepth 100000 in
theorem M_pixel_ok {J : gS → gS} (hJm : g_jm J) {z0 : Int} {s0 : gS} {a1 a2 a3 : Int} {s : gS} (h : M_pixel a1 a2 a3 s = some (z0, s0)) : Ct M_M_pixel g_S [.ref 49, gi a1, gi a2, gi a3] (J s) (QE g_S J z0 s0) := by
  refine Ct_of [some (.ref 49), some (gi a1), some (gi a2), some (gi a3)] (plainFor_of_name (by decide)) rfl (Nat.le_of_ble_eq_true rfl) rfl (by decide) q_rE ?_
  unfold M_pixel at h
  refine G_aload_n (g_da dt_M_pixel 0 rfl) rfl rfl ?_
  refine G_iconst (g_da dt_M_pixel 1 rfl) ?_
  refine H_putI (g_da dt_M_pixel 2 rfl) sh_49 fp_15_83 rfl (hJm 49 rfl) (fun s1 e2 => ?_)
  have h := o_l h s1 e2
  refine G_iload_n (g_da dt_M_pixel 3 rfl) rfl rfl ?_
  refine G_iconst (g_da dt_M_pixel 4 rfl) ?_
  refine G_icmp_lt (g_da dt_M_pixel 5 rfl) rfl rfl w_m1 (fun hc3 => ?_) (fun hc3 => ?_)
  · have h := o_t hc3 h
    refine G_iconst (g_da dt_M_pixel 34 rfl) ?_
    exact G_ireturn (g_da dt_M_pixel 35 rfl) rfl (g_bool (Or.inl w_0)).1 rfl (g_nz rfl) (q_e h)
  · have h := o_f hc3 h
    refine G_iload_n (g_da dt_M_pixel 6 rfl) rfl rfl ?_
    refine G_aload_n (g_da dt_M_pixel 7 rfl) rfl rfl ?_
    refine H_getI (g_da dt_M_pixel 8 rfl) sh_49 fl_15_139 rfl (hJm 49 rfl) ?_
    refine G_icmp_ge (g_da dt_M_pixel 9 rfl) rfl rfl rfl (fun hc4 => ?_) (fun hc4 => ?_)
    · have h := o_t hc4 h
      refine G_iconst (g_da dt_M_pixel 34 rfl) ?_
      exact G_ireturn (g_da dt_M_pixel 35 rfl) rfl (g_bool (Or.inl w_0)).1 rfl (g_nz rfl) (q_e h)
    · have h := o_f hc4 h
      refine G_iload_n (g_da dt_M_pixel 10 rfl) rfl rfl ?_
      refine G_iload_n (g_da dt_M_pixel 11 rfl) rfl rfl ?_
      obtain ⟨r5, s6, hc7, h⟩ := o_b h
      refine H_cSE (M_isPixel_ok hc7) (g_da dt_M_pixel 12 rfl) lk_15_302 ms_M_isPixel rfl rfl rfl rfl rfl rfl ?_
      refine G_if_eq (g_da dt_M_pixel 13 rfl) rfl rfl  (fun hc8 => ?_) (fun hc8 => ?_)
      · have h := o_t hc8 h
        refine G_iconst (g_da dt_M_pixel 34 rfl) ?_
        exact G_ireturn (g_da dt_M_pixel 35 rfl) rfl (g_bool (Or.inl w_0)).1 rfl (g_nz rfl) (q_e h)
      · have h := o_f hc8 h
        refine G_aload_n (g_da dt_M_pixel 14 rfl) rfl rfl ?_
        refine G_getR (g_da dt_M_pixel 15 rfl) sh_49 fl_15_53 rfl ?_
        refine G_sipush (g_da dt_M_pixel 16 rfl) s16w_3072 ?_
        refine G_iload_n (g_da dt_M_pixel 17 rfl) rfl rfl ?_
        refine G_iconst (g_da dt_M_pixel 18 rfl) ?_
        refine G_icmp_ne (g_da dt_M_pixel 19 rfl) rfl rfl w_m1 (fun hc9 => ?_) (fun hc9 => ?_)
        · have h := o_f hc9 h
          refine G_iload_n (g_da dt_M_pixel 22 rfl) rfl rfl ?_
          exact G_subK (M_pixel_44_ok hJm h) ⟨rfl, ⟨rfl, trivial⟩⟩
        · have h := o_t hc9 h
          refine G_bipush (g_da dt_M_pixel 20 rfl) b8w_8 ?_
          refine G_goto (g_da dt_M_pixel 21 rfl) rfl ?_
          exact G_subK (M_pixel_44_ok hJm h) ⟨rfl, ⟨rfl, trivial⟩⟩
set_option maxHeartbeats 4000000 in
set_option maxRecDepth 100000 in
theorem M_stateOf_49_ok {J : gS → gS} (hJm : g_jm J) {z0 : Int} {s0 : gS}  {s : gS} (h : M_stateOf_49 s = some (z0, s0)) : G M_M_stateOf (QE g_S J z0 s0) (g_S, 0, 0) (J s) 49 [some (.ref 49)] [] := by
  unfold M_stateOf_49 at h
  refine G_aload_n (g_da dt_M_stateOf 25 rfl) rfl rfl ?_
  refine H_getI (g_da dt_M_stateOf 26 rfl) sh_49 fl_15_327 rfl (hJm 49 rfl) ?_
  refine G_bipush (g_da dt_M_stateOf 27 rfl) b8w_80 ?_
  refine G_icmp_ge (g_da dt_M_stateOf 28 rfl) rfl rfl w_80 (fun hc8 => ?_) (fun hc8 => ?_)
  · have h := o_t hc8 h
    refine G_iconst (g_da dt_M_stateOf 31 rfl) ?_
    exact G_ireturn (g_da dt_M_stateOf 32 rfl) rfl rfl rfl (g_nz rfl) (q_e h)
  · have h := o_f hc8 h
    refine G_iconst (g_da dt_M_stateOf 29 rfl) ?_
    refine G_goto (g_da dt_M_stateOf 30 rfl) rfl ?_
    exact G_ireturn (g_da dt_M_stateOf 32 rfl) rfl rfl rfl (g_nz rfl) (q_e h)
set_option maxHeartbeats 4000000 in
set_option maxRecDepth 100000 in
theorem M_stateOf_ok {J : gS → gS} (hJm : g_jm J) {z0 : Int} {s0 : gS} {s : gS} (h : M_stateOf s = some (z0, s0)) : Ct M_M_stateOf g_S [.ref 49] (J s) (QE g_S J z0 s0) := by
  refine Ct_of [some (.ref 49)] (plainFor_of_name (by decide)) rfl (Nat.le_of_ble_eq_true rfl) rfl (by decide) q_rE ?_
  unfold M_stateOf at h
  refine G_aload_n (g_da dt_M_stateOf 0 rfl) rfl rfl ?_
  refine H_getI (g_da dt_M_stateOf 1 rfl) sh_49 fl_15_354 rfl (hJm 49 rfl) ?_
  refine G_if_eq (g_da dt_M_stateOf 2 rfl) rfl rfl  (fun hc1 => ?_) (fun hc1 => ?_)
  · have h := o_t hc1 h
    refine G_aload_n (g_da dt_M_stateOf 5 rfl) rfl rfl ?_
    refine H_getI (g_da dt_M_stateOf 6 rfl) sh_49 fl_15_357 rfl (hJm 49 rfl) ?_
    refine G_if_eq (g_da dt_M_stateOf 7 rfl) rfl rfl  (fun hc2 => ?_) (fun hc2 => ?_)
    · have h := o_t hc2 h
      refine G_aload_n (g_da dt_M_stateOf 10 rfl) rfl rfl ?_
      refine H_getI (g_da dt_M_stateOf 11 rfl) sh_49 fl_15_110 rfl (hJm 49 rfl) ?_
      refine G_aload_n (g_da dt_M_stateOf 12 rfl) rfl rfl ?_
      refine H_getI (g_da dt_M_stateOf 13 rfl) sh_49 fl_15_113 rfl (hJm 49 rfl) ?_
      refine G_icmp_lt (g_da dt_M_stateOf 14 rfl) rfl rfl rfl (fun hc3 => ?_) (fun hc3 => ?_)
      · have h := o_t hc3 h
        refine G_aload_n (g_da dt_M_stateOf 17 rfl) rfl rfl ?_
        obtain ⟨r4, s5, hc6, h⟩ := o_b h
        refine H_cVE (M_insideMany_ok hJm hc6) (g_da dt_M_stateOf 18 rfl) lk_15_345 mv_M_insideMany rfl sh_49 rfl rfl rfl rfl rfl rfl ?_
        refine G_if_ne (g_da dt_M_stateOf 19 rfl) rfl rfl  (fun hc7 => ?_) (fun hc7 => ?_)
        · have h := o_f hc7 h
          exact G_subK (M_stateOf_49_ok hJm h) ⟨rfl, trivial⟩
        · have h := o_t hc7 h
          refine G_aload_n (g_da dt_M_stateOf 20 rfl) rfl rfl ?_
          refine H_getI (g_da dt_M_stateOf 21 rfl) sh_49 fl_15_348 rfl (hJm 49 rfl) ?_
          refine G_if_ne (g_da dt_M_stateOf 22 rfl) rfl rfl  (fun hc9 => ?_) (fun hc9 => ?_)
          · have h := o_f hc9 h
            exact G_subK (M_stateOf_49_ok hJm h) ⟨rfl, trivial⟩
          · have h := o_t hc9 h
            refine G_iconst (g_da dt_M_stateOf 23 rfl) ?_
            refine G_goto (g_da dt_M_stateOf 24 rfl) rfl ?_
            exact G_ireturn (g_da dt_M_stateOf 32 rfl) rfl rfl rfl (g_nz rfl) (q_e h)
      · have h := o_f hc3 h
        refine G_iconst (g_da dt_M_stateOf 15 rfl) ?_
        exact G_ireturn (g_da dt_M_stateOf 16 rfl) rfl rfl rfl (g_nz rfl) (q_e h)
    · have h := o_f hc2 h
      refine G_iconst (g_da dt_M_stateOf 8 rfl) ?_
      exact G_ireturn (g_da dt_M_stateOf 9 rfl) rfl rfl rfl (g_nz rfl) (q_e h)
  · have h := o_f hc1 h
    refine G_iconst (g_da dt_M_stateOf 3 rfl) ?_
    exact G_ireturn (g_da dt_M_stateOf 4 rfl) rfl rfl rfl (g_nz rfl) (q_e h)
set_option maxHeartbeats 4000000 in
set_option maxRecDepth 100000 in
theorem M_press_ok {J : gS → gS} (hJm : g_jm J) {z0 : Int} {s0 : gS} {a1 : Int} {s : gS} (h : M_press a1 s = some (z0, s0)) : Ct M_M_press g_S [.ref 49, gi a1] (J s) (QE g_S J z0 s0) := by
  refine Ct_of [some (.ref 49), some (gi a1)] (plainFor_of_name (by decide)) rfl (Nat.le_of_ble_eq_true rfl) rfl (by decide) q_rE ?_
  unfold M_press at h
  refine G_aload_n (g_da dt_M_press 0 rfl) rfl rfl ?_
  refine G_iconst (g_da dt_M_press 1 rfl) ?_
  refine H_putI (g_da dt_M_press 2 rfl) sh_49 fp_15_83 rfl (hJm 49 rfl) (fun s1 e2 => ?_)
  have h := o_l h s1 e2
  refine G_iload_n (g_da dt_M_press 3 rfl) rfl rfl ?_
  refine G_table [(0, 48), (1, 53), (2, 58), (3, 63), (4, 68), (5, 85), (6, 90)] 95 (g_da dt_M_press 4 rfl) rfl rfl rfl ⟨fun hc3 => ?_, fun hc3 => ⟨fun hc4 => ?_, fun hc4 => ⟨fun hc5 => ?_, fun hc5 => ⟨fun hc6 => ?_, fun hc6 => ⟨fun hc7 => ?_, fun hc7 => ⟨fun hc8 => ?_, fun hc8 => ⟨fun hc9 => ?_, fun hc9 => ?_⟩⟩⟩⟩⟩⟩⟩
  · have h := o_t hc3 h
    refine G_aload_n (g_da dt_M_press 5 rfl) rfl rfl ?_
    obtain ⟨r10, s11, hc12, h⟩ := o_b h
    refine H_cVE (M_stateOf_ok hJm hc12) (g_da dt_M_press 6 rfl) lk_15_372 mv_M_stateOf rfl sh_49 rfl rfl rfl rfl rfl rfl ?_
    exact G_ireturn (g_da dt_M_press 7 rfl) rfl rfl rfl (g_nz rfl) (q_e h)
  · have h := o_f hc3 h
    have h := o_t hc4 h
    refine G_aload_n (g_da dt_M_press 8 rfl) rfl rfl ?_
    refine H_getI (g_da dt_M_press 9 rfl) sh_49 fl_15_327 rfl (hJm 49 rfl) ?_
    exact G_ireturn (g_da dt_M_press 10 rfl) rfl rfl rfl (g_nz rfl) (q_e h)
  · have h := o_f hc3 h
    have h := o_f hc4 h
    have h := o_t hc5 h
    refine G_aload_n (g_da dt_M_press 11 rfl) rfl rfl ?_
    refine H_getI (g_da dt_M_press 12 rfl) sh_49 fl_15_348 rfl (hJm 49 rfl) ?_
    exact G_ireturn (g_da dt_M_press 13 rfl) rfl rfl rfl (g_nz rfl) (q_e h)
  · have h := o_f hc3 h
    have h := o_f hc4 h
    have h := o_f hc5 h
    have h := o_t hc6 h
    refine G_aload_n (g_da dt_M_press 14 rfl) rfl rfl ?_
    refine H_getI (g_da dt_M_press 15 rfl) sh_49 fl_15_110 rfl (hJm 49 rfl) ?_
    exact G_ireturn (g_da dt_M_press 16 rfl) rfl rfl rfl (g_nz rfl) (q_e h)
  · have h := o_f hc3 h
    have h := o_f hc4 h
    have h := o_f hc5 h
    have h := o_f hc6 h
    have h := o_t hc7 h
    refine G_aload_n (g_da dt_M_press 17 rfl) rfl rfl ?_
    refine H_getI (g_da dt_M_press 18 rfl) sh_49 fl_15_107 rfl (hJm 49 rfl) ?_
    refine G_iconst (g_da dt_M_press 19 rfl) ?_
    refine G_icmp_ne (g_da dt_M_press 20 rfl) rfl rfl w_2 (fun hc13 => ?_) (fun hc13 => ?_)
    · have h := o_f hc13 h
      refine G_iconst (g_da dt_M_press 24 rfl) ?_
      exact G_ireturn (g_da dt_M_press 25 rfl) rfl rfl rfl (g_nz rfl) (q_e h)
    · have h := o_t hc13 h
      refine G_aload_n (g_da dt_M_press 21 rfl) rfl rfl ?_
      refine H_getI (g_da dt_M_press 22 rfl) sh_49 fl_15_113 rfl (hJm 49 rfl) ?_
      refine G_goto (g_da dt_M_press 23 rfl) rfl ?_
      exact G_ireturn (g_da dt_M_press 25 rfl) rfl rfl rfl (g_nz rfl) (q_e h)
  · have h := o_f hc3 h
    have h := o_f hc4 h
    have h := o_f hc5 h
    have h := o_f hc6 h
    have h := o_f hc7 h
    have h := o_t hc8 h
    refine G_aload_n (g_da dt_M_press 26 rfl) rfl rfl ?_
    refine H_getI (g_da dt_M_press 27 rfl) sh_49 fl_15_351 rfl (hJm 49 rfl) ?_
    exact G_ireturn (g_da dt_M_press 28 rfl) rfl rfl rfl (g_nz rfl) (q_e h)
  · have h := o_f hc3 h
    have h := o_f hc4 h
    have h := o_f hc5 h
    have h := o_f hc6 h
    have h := o_f hc7 h
    have h := o_f hc8 h
    have h := o_t hc9 h
    refine G_aload_n (g_da dt_M_press 29 rfl) rfl rfl ?_
    refine H_getI (g_da dt_M_press 30 rfl) sh_49 fl_15_366 rfl (hJm 49 rfl) ?_
    exact G_ireturn (g_da dt_M_press 31 rfl) rfl rfl rfl (g_nz rfl) (q_e h)
  · have h := o_f hc3 h
    have h := o_f hc4 h
    have h := o_f hc5 h
    have h := o_f hc6 h
    have h := o_f hc7 h
    have h := o_f hc8 h
    have h := o_f hc9 h
    refine G_iconst (g_da dt_M_press 32 rfl) ?_
    exact G_ireturn (g_da dt_M_press 33 rfl) rfl rfl rfl (g_nz rfl) (q_e h)
set_option maxHeartbeats 4000000 in
set_option maxRecDepth 100000 in
theorem M_reckon_154_ok {J : gS → gS} (hJm : g_jm J) {z0 : Int} {s0 : gS}  {t1 : Int} {s : gS} (h : M_reckon_154 t1 s = some (z0, s0)) : G M_M_reckon (QG g_S J z0 s0) (g_S, 0, 0) (J s) 154 [none, none, none, none, none] [gi t1, .ref 49] := by
  unfold M_reckon_154 at h
  refine G_iconst (g_da dt_M_reckon 73 rfl) ?_
  obtain ⟨r22, s23, hc24, h⟩ := o_b h
  refine H_cVG (M_push_ok hJm hc24) (g_da dt_M_reckon 74 rfl) lk_15_237 mv_M_push rfl sh_49 rfl rfl rfl rfl rfl rfl ?_
  refine G_goto (g_da dt_M_reckon 75 rfl) rfl ?_
  exact G_return (g_da dt_M_reckon 90 rfl) rfl rfl (g_nz rfl) (q_g h)
set_option maxHeartbeats 4000000 in
set_option maxRecDepth 100000 in
theorem M_reckon_172_ok {J : gS → gS} (hJm : g_jm J) {z0 : Int} {s0 : gS}  {t1 : Int} {s : gS} (h : M_reckon_172 t1 s = some (z0, s0)) : G M_M_reckon (QG g_S J z0 s0) (g_S, 0, 0) (J s) 172 [none, none, none, none, none] [gi t1, .ref 49] := by
  unfold M_reckon_172 at h
  refine G_iconst (g_da dt_M_reckon 83 rfl) ?_
  obtain ⟨r26, s27, hc28, h⟩ := o_b h
  refine H_cVG (M_push_ok hJm hc28) (g_da dt_M_reckon 84 rfl) lk_15_237 mv_M_push rfl sh_49 rfl rfl rfl rfl rfl rfl ?_
  refine G_goto (g_da dt_M_reckon 85 rfl) rfl ?_
  exact G_return (g_da dt_M_reckon 90 rfl) rfl rfl (g_nz rfl) (q_g h)
set_option maxHeartbeats 4000000 in
set_option maxRecDepth 100000 in
theorem M_reckon_69_ok {J : gS → gS} (hJm : g_jm J) {z0 : Int} {s0 : gS}  {l1 t0 : Int} {s : gS} (h : M_reckon_69 l1 t0 s = some (z0, s0)) : G M_M_reckon (QG g_S J z0 s0) (g_S, 0, 0) (J s) 69 [some (.ref 49), some (gi l1), none, none, none] [gi t0] := by
  unfold M_reckon_69 at h
  refine G_istore_n (lv' := [_, _, _, none, none]) (g_da dt_M_reckon 40 rfl) rfl (Nat.le_of_ble_eq_true rfl) rfl rfl ?_
  refine G_aload_n (g_da dt_M_reckon 41 rfl) rfl rfl ?_
  refine G_iconst (g_da dt_M_reckon 42 rfl) ?_
  obtain ⟨r3, s4, hc5, h⟩ := o_b h
  refine H_cVE (M_number_ok hJm hc5) (g_da dt_M_reckon 43 rfl) lk_15_185 mv_M_number rfl sh_49 rfl rfl rfl rfl rfl rfl ?_
  refine G_istore_n (lv' := [_, _, _, _, none]) (g_da dt_M_reckon 44 rfl) rfl (Nat.le_of_ble_eq_true rfl) rfl rfl ?_
  refine G_aload_n (g_da dt_M_reckon 45 rfl) rfl rfl ?_
  refine G_iload_n (g_da dt_M_reckon 46 rfl) rfl rfl ?_
  obtain ⟨r6, s7, hc8, h⟩ := o_b h
  refine H_cVF (M_result_ok hJm hc8) (g_da dt_M_reckon 47 rfl) lk_15_210 mv_M_result rfl sh_49 rfl rfl rfl rfl rfl rfl ?_
  refine G_l2i (g_da dt_M_reckon 48 rfl) ?_
  refine G_istore (lv' := [_, _, _, _, _]) (g_da dt_M_reckon 49 rfl) (Nat.le_of_ble_eq_true rfl) rfl rfl ?_
  refine G_aload_n (g_da dt_M_reckon 50 rfl) rfl rfl ?_
  refine G_dup (g_da dt_M_reckon 51 rfl) rfl ?_
  refine H_getI (g_da dt_M_reckon 52 rfl) sh_49 fl_15_145 rfl (hJm 49 rfl) ?_
  refine G_iload_n (g_da dt_M_reckon 53 rfl) rfl rfl ?_
  obtain ⟨r9, s10, hc11, h⟩ := o_b h
  refine H_cSE (M_needs_ok hc11) (g_da dt_M_reckon 54 rfl) lk_15_103 ms_M_needs rfl rfl rfl rfl rfl rfl ?_
  refine G_isub (g_da dt_M_reckon 55 rfl) ?_
  refine H_putI (g_da dt_M_reckon 56 rfl) sh_49 fp_15_145 rfl (hJm 49 rfl) (fun s12 e13 => ?_)
  have h := o_l h s12 e13
  refine G_iload_n (g_da dt_M_reckon 57 rfl) rfl rfl ?_
  refine G_lookup [(37, 132), (60, 143), (61, 161)] 179 (g_da dt_M_reckon 58 rfl) rfl rfl rfl ⟨fun hc14 => ?_, fun hc14 => ⟨fun hc15 => ?_, fun hc15 => ⟨fun hc16 => ?_, fun hc16 => ?_⟩⟩⟩
  · have h := o_t hc14 h
    refine G_aload_n (g_da dt_M_reckon 59 rfl) rfl rfl ?_
    refine G_iload_n (g_da dt_M_reckon 60 rfl) rfl rfl ?_
    refine G_iload_n (g_da dt_M_reckon 61 rfl) rfl rfl ?_
    obtain ⟨hz17, h⟩ := o_g h
    refine G_irem (g_da dt_M_reckon 62 rfl) hz17 ?_
    refine G_iconst (g_da dt_M_reckon 63 rfl) ?_
    obtain ⟨r18, s19, hc20, h⟩ := o_b h
    refine H_cVG (M_push_ok hJm hc20) (g_da dt_M_reckon 64 rfl) lk_15_237 mv_M_push rfl sh_49 rfl rfl rfl rfl rfl rfl ?_
    refine G_goto (g_da dt_M_reckon 65 rfl) rfl ?_
    exact G_return (g_da dt_M_reckon 90 rfl) rfl rfl (g_nz rfl) (q_g h)
  · have h := o_f hc14 h
    have h := o_t hc15 h
    refine G_aload_n (g_da dt_M_reckon 66 rfl) rfl rfl ?_
    refine G_iload_n (g_da dt_M_reckon 67 rfl) rfl rfl ?_
    refine G_iload_n (g_da dt_M_reckon 68 rfl) rfl rfl ?_
    refine G_icmp_ge (g_da dt_M_reckon 69 rfl) rfl rfl rfl (fun hc21 => ?_) (fun hc21 => ?_)
    · have h := o_t hc21 h
      refine G_iconst (g_da dt_M_reckon 72 rfl) ?_
      exact G_subK (M_reckon_154_ok hJm h) trivial
    · have h := o_f hc21 h
      refine G_iconst (g_da dt_M_reckon 70 rfl) ?_
      refine G_goto (g_da dt_M_reckon 71 rfl) rfl ?_
      exact G_subK (M_reckon_154_ok hJm h) trivial
  · have h := o_f hc14 h
    have h := o_f hc15 h
    have h := o_t hc16 h
    refine G_aload_n (g_da dt_M_reckon 76 rfl) rfl rfl ?_
    refine G_iload_n (g_da dt_M_reckon 77 rfl) rfl rfl ?_
    refine G_iload_n (g_da dt_M_reckon 78 rfl) rfl rfl ?_
    refine G_icmp_ne (g_da dt_M_reckon 79 rfl) rfl rfl rfl (fun hc25 => ?_) (fun hc25 => ?_)
    · have h := o_f hc25 h
      refine G_iconst (g_da dt_M_reckon 82 rfl) ?_
      exact G_subK (M_reckon_172_ok hJm h) trivial
    · have h := o_t hc25 h
      refine G_iconst (g_da dt_M_reckon 80 rfl) ?_
      refine G_goto (g_da dt_M_reckon 81 rfl) rfl ?_
      exact G_subK (M_reckon_172_ok hJm h) trivial
  · have h := o_f hc14 h
    have h := o_f hc15 h
    have h := o_f hc16 h
    refine G_aload_n (g_da dt_M_reckon 86 rfl) rfl rfl ?_
    refine G_iload (g_da dt_M_reckon 87 rfl) rfl ?_
    refine G_iconst (g_da dt_M_reckon 88 rfl) ?_
    obtain ⟨r29, s30, hc31, h⟩ := o_b h
    refine H_cVG (M_push_ok hJm hc31) (g_da dt_M_reckon 89 rfl) lk_15_237 mv_M_push rfl sh_49 rfl rfl rfl rfl rfl rfl ?_
    exact G_return (g_da dt_M_reckon 90 rfl) rfl rfl (g_nz rfl) (q_g h)
set_option maxHeartbeats 4000000 in
set_option maxRecDepth 100000 in
theorem M_reckon_27_ok {J : gS → gS} (hJm : g_jm J) {z0 : Int} {s0 : gS}  {t0 : Int} {s : gS} (h : M_reckon_27 t0 s = some (z0, s0)) : G M_M_reckon (QG g_S J z0 s0) (g_S, 0, 0) (J s) 27 [some (.ref 49), none, none, none, none] [gi t0] := by
  unfold M_reckon_27 at h
  refine G_istore_n (lv' := [_, none, _, none, none]) (g_da dt_M_reckon 14 rfl) rfl (Nat.le_of_ble_eq_true rfl) rfl rfl ?_
  refine G_aload_n (g_da dt_M_reckon 15 rfl) rfl rfl ?_
  refine G_dup (g_da dt_M_reckon 16 rfl) rfl ?_
  refine H_getI (g_da dt_M_reckon 17 rfl) sh_49 fl_15_145 rfl (hJm 49 rfl) ?_
  refine G_iconst (g_da dt_M_reckon 18 rfl) ?_
  refine G_isub (g_da dt_M_reckon 19 rfl) ?_
  refine H_putI (g_da dt_M_reckon 20 rfl) sh_49 fp_15_145 rfl (hJm 49 rfl) (fun s42 e43 => ?_)
  have h := o_l h s42 e43
  refine G_aload_n (g_da dt_M_reckon 21 rfl) rfl rfl ?_
  refine G_iload_n (g_da dt_M_reckon 22 rfl) rfl rfl ?_
  refine G_iconst (g_da dt_M_reckon 23 rfl) ?_
  refine G_iadd (g_da dt_M_reckon 24 rfl) ?_
  refine G_aload_n (g_da dt_M_reckon 25 rfl) rfl rfl ?_
  refine G_iload_n (g_da dt_M_reckon 26 rfl) rfl rfl ?_
  obtain ⟨r44, s45, hc46, h⟩ := o_b h
  refine H_cVE (M_closing_ok hJm hc46) (g_da dt_M_reckon 27 rfl) lk_15_164 mv_M_closing rfl sh_49 rfl rfl rfl rfl rfl rfl ?_
  refine G_iconst (g_da dt_M_reckon 28 rfl) ?_
  obtain ⟨r47, s48, hc49, h⟩ := o_b h
  refine H_cVG (M_enter_ok hJm hc49) (g_da dt_M_reckon 29 rfl) lk_15_160 mv_M_enter rfl sh_49 rfl rfl rfl rfl rfl rfl ?_
  exact G_return (g_da dt_M_reckon 30 rfl) rfl rfl (g_nz rfl) (q_g h)
set_option maxHeartbeats 4000000 in
set_option maxRecDepth 100000 in
theorem M_reckon_ok {J : gS → gS} (hJm : g_jm J) {z0 : Int} {s0 : gS} {a1 : Int} {s : gS} (h : M_reckon a1 s = some (z0, s0)) : Ct M_M_reckon g_S [.ref 49, gi a1] (J s) (QG g_S J z0 s0) := by
  refine Ct_of [some (.ref 49), some (gi a1), none, none, none] (plainFor_of_name (by decide)) rfl (Nat.le_of_ble_eq_true rfl) rfl (by decide) q_rG ?_
  unfold M_reckon at h
  refine G_iload_n (g_da dt_M_reckon 0 rfl) rfl rfl ?_
  refine G_bipush (g_da dt_M_reckon 1 rfl) b8w_63 ?_
  refine G_icmp_ne (g_da dt_M_reckon 2 rfl) rfl rfl w_63 (fun hc1 => ?_) (fun hc1 => ?_)
  · have h := o_f hc1 h
    refine G_aload_n (g_da dt_M_reckon 31 rfl) rfl rfl ?_
    refine H_getI (g_da dt_M_reckon 32 rfl) sh_49 fl_15_145 rfl (hJm 49 rfl) ?_
    refine G_iconst (g_da dt_M_reckon 33 rfl) ?_
    refine G_icmp_le (g_da dt_M_reckon 34 rfl) rfl rfl w_1 (fun hc2 => ?_) (fun hc2 => ?_)
    · have h := o_t hc2 h
      refine G_iconst (g_da dt_M_reckon 39 rfl) ?_
      exact G_subK (M_reckon_69_ok hJm h) ⟨rfl, ⟨rfl, trivial⟩⟩
    · have h := o_f hc2 h
      refine G_aload_n (g_da dt_M_reckon 35 rfl) rfl rfl ?_
      refine G_iconst (g_da dt_M_reckon 36 rfl) ?_
      obtain ⟨r32, s33, hc34, h⟩ := o_b h
      refine H_cVE (M_number_ok hJm hc34) (g_da dt_M_reckon 37 rfl) lk_15_185 mv_M_number rfl sh_49 rfl rfl rfl rfl rfl rfl ?_
      refine G_goto (g_da dt_M_reckon 38 rfl) rfl ?_
      exact G_subK (M_reckon_69_ok hJm h) ⟨rfl, ⟨rfl, trivial⟩⟩
  · have h := o_t hc1 h
    refine G_aload_n (g_da dt_M_reckon 3 rfl) rfl rfl ?_
    refine G_iconst (g_da dt_M_reckon 4 rfl) ?_
    obtain ⟨r35, s36, hc37, h⟩ := o_b h
    refine H_cVE (M_number_ok hJm hc37) (g_da dt_M_reckon 5 rfl) lk_15_185 mv_M_number rfl sh_49 rfl rfl rfl rfl rfl rfl ?_
    refine G_if_eq (g_da dt_M_reckon 6 rfl) rfl rfl  (fun hc38 => ?_) (fun hc38 => ?_)
    · have h := o_t hc38 h
      refine G_aload_n (g_da dt_M_reckon 11 rfl) rfl rfl ?_
      refine G_iconst (g_da dt_M_reckon 12 rfl) ?_
      obtain ⟨r39, s40, hc41, h⟩ := o_b h
      refine H_cVE (M_number_ok hJm hc41) (g_da dt_M_reckon 13 rfl) lk_15_185 mv_M_number rfl sh_49 rfl rfl rfl rfl rfl rfl ?_
      exact G_subK (M_reckon_27_ok hJm h) ⟨rfl, trivial⟩
    · have h := o_f hc38 h
      refine G_aload_n (g_da dt_M_reckon 7 rfl) rfl rfl ?_
      refine G_iconst (g_da dt_M_reckon 8 rfl) ?_
      obtain ⟨r50, s51, hc52, h⟩ := o_b h
      refine H_cVE (M_number_ok hJm hc52) (g_da dt_M_reckon 9 rfl) lk_15_185 mv_M_number rfl sh_49 rfl rfl rfl rfl rfl rfl ?_
      refine G_goto (g_da dt_M_reckon 10 rfl) rfl ?_
      exact G_subK (M_reckon_27_ok hJm h) ⟨rfl, trivial⟩
set_option maxHeartbeats 4000000 in
set_option maxRecDepth 100000 in
theorem M_wordLong_36_ok {J : gS → gS} (hJm : g_jm J) {z0 : Int} {s0 : gS} {k36 : Int → Int → gS → gA} (hk36 : ∀ (l1 l2 : Int) (s : gS), k36 l1 l2 s = some (z0, s0) → G M_M_wordLong (QE g_S J z0 s0) (g_S, 0, 0) (J s) 36 [some (.ref 49), some (gi l1), some (gi l2)] [])  {l1 l2 : Int} {s : gS} (h : M_wordLong_36 k36 l1 l2 s = some (z0, s0)) : G M_M_wordLong (QE g_S J z0 s0) (g_S, 0, 0) (J s) 36 [some (.ref 49), some (gi l1), some (gi l2)] [] := by
  unfold M_wordLong_36 at h
  refine G_aload_n (g_da dt_M_wordLong 24 rfl) rfl rfl ?_
  refine G_getR (g_da dt_M_wordLong 25 rfl) sh_49 fl_15_13 rfl ?_
  refine G_iload_n (g_da dt_M_wordLong 26 rfl) rfl rfl ?_
  obtain ⟨hb5, h⟩ := o_g h
  refine H_iaload (g_da dt_M_wordLong 27 rfl) sh_51 (hJm 51 rfl) rfl hb5 rfl ?_
  obtain ⟨r6, s7, hc8, h⟩ := o_b h
  refine H_cSE (M_isDigit_ok hc8) (g_da dt_M_wordLong 28 rfl) lk_15_96 ms_M_isDigit rfl rfl rfl rfl rfl rfl ?_
  refine G_if_eq (g_da dt_M_wordLong 29 rfl) rfl rfl  (fun hc9 => ?_) (fun hc9 => ?_)
  · have h := o_t hc9 h
    refine G_iload_n (g_da dt_M_wordLong 46 rfl) rfl rfl ?_
    exact G_ireturn (g_da dt_M_wordLong 47 rfl) rfl rfl rfl (g_nz rfl) (q_e h)
  · have h := o_f hc9 h
    refine G_iload_n (g_da dt_M_wordLong 30 rfl) rfl rfl ?_
    refine G_iload_n (g_da dt_M_wordLong 31 rfl) rfl rfl ?_
    refine G_iadd (g_da dt_M_wordLong 32 rfl) ?_
    refine G_aload_n (g_da dt_M_wordLong 33 rfl) rfl rfl ?_
    refine H_getI (g_da dt_M_wordLong 34 rfl) sh_49 fl_15_120 rfl (hJm 49 rfl) ?_
    refine G_icmp_ge (g_da dt_M_wordLong 35 rfl) rfl rfl rfl (fun hc10 => ?_) (fun hc10 => ?_)
    · have h := o_t hc10 h
      refine G_iload_n (g_da dt_M_wordLong 46 rfl) rfl rfl ?_
      exact G_ireturn (g_da dt_M_wordLong 47 rfl) rfl rfl rfl (g_nz rfl) (q_e h)
    · have h := o_f hc10 h
      refine G_aload_n (g_da dt_M_wordLong 36 rfl) rfl rfl ?_
      refine G_getR (g_da dt_M_wordLong 37 rfl) sh_49 fl_15_13 rfl ?_
      refine G_iload_n (g_da dt_M_wordLong 38 rfl) rfl rfl ?_
      refine G_iload_n (g_da dt_M_wordLong 39 rfl) rfl rfl ?_
      refine G_iadd (g_da dt_M_wordLong 40 rfl) ?_
      obtain ⟨hb11, h⟩ := o_g h
      refine H_iaload (g_da dt_M_wordLong 41 rfl) sh_51 (hJm 51 rfl) rfl hb11 rfl ?_
      obtain ⟨r12, s13, hc14, h⟩ := o_b h
      refine H_cSE (M_isDigit_ok hc14) (g_da dt_M_wordLong 42 rfl) lk_15_96 ms_M_isDigit rfl rfl rfl rfl rfl rfl ?_
      refine G_if_eq (g_da dt_M_wordLong 43 rfl) rfl rfl  (fun hc15 => ?_) (fun hc15 => ?_)
      · have h := o_t hc15 h
        refine G_iload_n (g_da dt_M_wordLong 46 rfl) rfl rfl ?_
        exact G_ireturn (g_da dt_M_wordLong 47 rfl) rfl rfl rfl (g_nz rfl) (q_e h)
      · have h := o_f hc15 h
        refine G_iinc (lv' := [_, _, _]) (g_da dt_M_wordLong 44 rfl) rfl (Nat.le_of_ble_eq_true rfl) rfl rfl ?_
        refine G_goto (g_da dt_M_wordLong 45 rfl) rfl ?_
        exact G_subK (hk36 _ _ _ h) ⟨rfl, ⟨rfl, ⟨rfl, trivial⟩⟩⟩
set_option maxHeartbeats 4000000 in
set_option maxRecDepth 100000 in
theorem M_wordLong_36L_ok {J : gS → gS} (hJm : g_jm J) {z0 : Int} {s0 : gS} : ∀ (n : Nat) {l1 l2 : Int} {s : gS}, M_wordLong_36L n l1 l2 s = some (z0, s0) → G M_M_wordLong (QE g_S J z0 s0) (g_S, 0, 0) (J s) 36 [some (.ref 49), some (gi l1), some (gi l2)] [] := by
  intro n
  induction n with
  | zero => intro _ _ _ h; cases h
  | succ n ih => intro _ _ _ h; exact M_wordLong_36_ok hJm (fun _ _ _ h => ih h) h
set_option maxHeartbeats 4000000 in
set_option maxRecDepth 100000 in
theorem M_wordLong_ok {J : gS → gS} (hJm : g_jm J) {z0 : Int} {s0 : gS} {a1 : Int} {s : gS} (h : M_wordLong a1 s = some (z0, s0)) : Ct M_M_wordLong g_S [.ref 49, gi a1] (J s) (QE g_S J z0 s0) := by
  refine Ct_of [some (.ref 49), some (gi a1), none] (plainFor_of_name (by decide)) rfl (Nat.le_of_ble_eq_true rfl) rfl (by decide) q_rE ?_
  unfold M_wordLong at h
  refine G_aload_n (g_da dt_M_wordLong 0 rfl) rfl rfl ?_
  refine G_getR (g_da dt_M_wordLong 1 rfl) sh_49 fl_15_13 rfl ?_
  refine G_iload_n (g_da dt_M_wordLong 2 rfl) rfl rfl ?_
  obtain ⟨hb1, h⟩ := o_g h
  refine H_iaload (g_da dt_M_wordLong 3 rfl) sh_51 (hJm 51 rfl) rfl hb1 rfl ?_
  refine G_bipush (g_da dt_M_wordLong 4 rfl) b8w_123 ?_
  refine G_icmp_ne (g_da dt_M_wordLong 5 rfl) rfl rfl w_123 (fun hc2 => ?_) (fun hc2 => ?_)
  · have h := o_f hc2 h
    refine G_aload_n (g_da dt_M_wordLong 14 rfl) rfl rfl ?_
    refine G_getR (g_da dt_M_wordLong 15 rfl) sh_49 fl_15_13 rfl ?_
    refine G_iload_n (g_da dt_M_wordLong 16 rfl) rfl rfl ?_
    obtain ⟨hb3, h⟩ := o_g h
    refine H_iaload (g_da dt_M_wordLong 17 rfl) sh_51 (hJm 51 rfl) rfl hb3 rfl ?_
    refine G_bipush (g_da dt_M_wordLong 18 rfl) b8w_58 ?_
    refine G_icmp_ne (g_da dt_M_wordLong 19 rfl) rfl rfl w_58 (fun hc4 => ?_) (fun hc4 => ?_)
    · have h := o_f hc4 h
      refine G_iconst (g_da dt_M_wordLong 22 rfl) ?_
      refine G_istore_n (lv' := [_, _, _]) (g_da dt_M_wordLong 23 rfl) rfl (Nat.le_of_ble_eq_true rfl) rfl rfl ?_
      exact G_subK (M_wordLong_36L_ok hJm gFu h) ⟨rfl, ⟨rfl, ⟨rfl, trivial⟩⟩⟩
    · have h := o_t hc4 h
      refine G_iconst (g_da dt_M_wordLong 20 rfl) ?_
      exact G_ireturn (g_da dt_M_wordLong 21 rfl) rfl rfl rfl (g_nz rfl) (q_e h)
  · have h := o_t hc2 h
    refine G_aload_n (g_da dt_M_wordLong 6 rfl) rfl rfl ?_
    refine G_iload_n (g_da dt_M_wordLong 7 rfl) rfl rfl ?_
    obtain ⟨r16, s17, hc18, h⟩ := o_b h
    refine H_cVE (M_closing_ok hJm hc18) (g_da dt_M_wordLong 8 rfl) lk_15_164 mv_M_closing rfl sh_49 rfl rfl rfl rfl rfl rfl ?_
    refine G_iload_n (g_da dt_M_wordLong 9 rfl) rfl rfl ?_
    refine G_isub (g_da dt_M_wordLong 10 rfl) ?_
    refine G_iconst (g_da dt_M_wordLong 11 rfl) ?_
    refine G_iadd (g_da dt_M_wordLong 12 rfl) ?_
    exact G_ireturn (g_da dt_M_wordLong 13 rfl) rfl rfl rfl (g_nz rfl) (q_e h)
set_option maxHeartbeats 4000000 in
set_option maxRecDepth 100000 in
theorem M_step_215_ok {J : gS → gS} (hJm : g_jm J) {z0 : Int} {s0 : gS}  {l2 : Int} {s : gS} (h : M_step_215 l2 s = some (z0, s0)) : G M_M_step (QG g_S J z0 s0) (g_S, 0, 0) (J s) 215 [some (.ref 49), none, some (gi l2), none, none, none] [] := by
  unfold M_step_215 at h
  refine G_aload_n (g_da dt_M_step 123 rfl) rfl rfl ?_
  refine G_iload_n (g_da dt_M_step 124 rfl) rfl rfl ?_
  obtain ⟨r30, s31, hc32, h⟩ := o_b h
  refine H_cVG (M_order_ok hJm hc32) (g_da dt_M_step 125 rfl) lk_15_244 mv_M_order rfl sh_49 rfl rfl rfl rfl rfl rfl ?_
  exact G_return (g_da dt_M_step 126 rfl) rfl rfl (g_nz rfl) (q_g h)
set_option maxHeartbeats 4000000 in
set_option maxRecDepth 100000 in
theorem M_step_65_ok {J : gS → gS} (hJm : g_jm J) {z0 : Int} {s0 : gS} {k65 : Int → Int → Int → gS → gA} {k101 : Int → gS → gA} (hk65 : ∀ (l1 l4 l5 : Int) (s : gS), k65 l1 l4 l5 s = some (z0, s0) → G M_M_step (QG g_S J z0 s0) (g_S, 0, 0) (J s) 65 [some (.ref 49), some (gi l1), none, none, some (gi l4), some (gi l5)] []) (hk101 : ∀ (l4 : Int) (s : gS), k101 l4 s = some (z0, s0) → G M_M_step (QG g_S J z0 s0) (g_S, 0, 0) (J s) 101 [some (.ref 49), none, none, none, some (gi l4), none] [])  {l1 l4 l5 : Int} {s : gS} (h : M_step_65 k65 k101 l1 l4 l5 s = some (z0, s0)) : G M_M_step (QG g_S J z0 s0) (g_S, 0, 0) (J s) 65 [some (.ref 49), some (gi l1), none, none, some (gi l4), some (gi l5)] [] := by
  unfold M_step_65 at h
  refine G_iload (g_da dt_M_step 41 rfl) rfl ?_
  refine G_aload_n (g_da dt_M_step 42 rfl) rfl rfl ?_
  refine G_iload_n (g_da dt_M_step 43 rfl) rfl rfl ?_
  obtain ⟨r51, s52, hc53, h⟩ := o_b h
  refine H_cVE (M_wordLong_ok hJm hc53) (g_da dt_M_step 44 rfl) lk_15_234 mv_M_wordLong rfl sh_49 rfl rfl rfl rfl rfl rfl ?_
  refine G_icmp_ge (g_da dt_M_step 45 rfl) rfl rfl rfl (fun hc54 => ?_) (fun hc54 => ?_)
  · have h := o_t hc54 h
    exact G_subK (hk101 _ _ h) ⟨rfl, ⟨rfl, trivial⟩⟩
  · have h := o_f hc54 h
    refine G_bipush (g_da dt_M_step 46 rfl) b8w_10 ?_
    refine G_iload (g_da dt_M_step 47 rfl) rfl ?_
    refine G_imul (g_da dt_M_step 48 rfl) ?_
    refine G_aload_n (g_da dt_M_step 49 rfl) rfl rfl ?_
    refine G_getR (g_da dt_M_step 50 rfl) sh_49 fl_15_13 rfl ?_
    refine G_iload_n (g_da dt_M_step 51 rfl) rfl rfl ?_
    refine G_iload (g_da dt_M_step 52 rfl) rfl ?_
    refine G_iadd (g_da dt_M_step 53 rfl) ?_
    obtain ⟨hb55, h⟩ := o_g h
    refine H_iaload (g_da dt_M_step 54 rfl) sh_51 (hJm 51 rfl) rfl hb55 rfl ?_
    refine G_iadd (g_da dt_M_step 55 rfl) ?_
    refine G_bipush (g_da dt_M_step 56 rfl) b8w_48 ?_
    refine G_isub (g_da dt_M_step 57 rfl) ?_
    refine H_topi (fun v56 e57 => ?_)
    have h := o_l h v56 e57
    refine G_istore (lv' := [_, _, none, none, _, _]) (g_da dt_M_step 58 rfl) (Nat.le_of_ble_eq_true rfl) rfl rfl ?_
    refine G_iinc (lv' := [_, _, none, none, _, _]) (g_da dt_M_step 59 rfl) rfl (Nat.le_of_ble_eq_true rfl) rfl rfl ?_
    refine G_goto (g_da dt_M_step 60 rfl) rfl ?_
    exact G_subK (hk65 _ _ _ _ h) ⟨rfl, ⟨rfl, ⟨rfl, ⟨rfl, trivial⟩⟩⟩⟩
set_option maxHeartbeats 4000000 in
set_option maxRecDepth 100000 in
theorem M_step_65L_ok {J : gS → gS} (hJm : g_jm J) {z0 : Int} {s0 : gS} {k101 : Int → gS → gA} (hk101 : ∀ (l4 : Int) (s : gS), k101 l4 s = some (z0, s0) → G M_M_step (QG g_S J z0 s0) (g_S, 0, 0) (J s) 101 [some (.ref 49), none, none, none, some (gi l4), none] []) : ∀ (n : Nat) {l1 l4 l5 : Int} {s : gS}, M_step_65L k101 n l1 l4 l5 s = some (z0, s0) → G M_M_step (QG g_S J z0 s0) (g_S, 0, 0) (J s) 65 [some (.ref 49), some (gi l1), none, none, some (gi l4), some (gi l5)] [] := by
  intro n
  induction n with
  | zero => intro _ _ _ _ h; cases h
  | succ n ih => intro _ _ _ _ h; exact M_step_65_ok hJm (fun _ _ _ _ h => ih h) hk101 h
set_option maxHeartbeats 4000000 in
set_option maxRecDepth 100000 in
theorem M_step_101_ok {J : gS → gS} (hJm : g_jm J) {z0 : Int} {s0 : gS}  {l4 : Int} {s : gS} (h : M_step_101 l4 s = some (z0, s0)) : G M_M_step (QG g_S J z0 s0) (g_S, 0, 0) (J s) 101 [some (.ref 49), none, none, none, some (gi l4), none] [] := by
  unfold M_step_101 at h
  refine G_aload_n (g_da dt_M_step 61 rfl) rfl rfl ?_
  refine G_iload (g_da dt_M_step 62 rfl) rfl ?_
  refine G_iconst (g_da dt_M_step 63 rfl) ?_
  obtain ⟨r58, s59, hc60, h⟩ := o_b h
  refine H_cVG (M_push_ok hJm hc60) (g_da dt_M_step 64 rfl) lk_15_237 mv_M_push rfl sh_49 rfl rfl rfl rfl rfl rfl ?_
  refine G_goto (g_da dt_M_step 65 rfl) rfl ?_
  exact G_return (g_da dt_M_step 126 rfl) rfl rfl (g_nz rfl) (q_g h)
set_option maxHeartbeats 4000000 in
set_option maxRecDepth 100000 in
theorem M_step_ok {J : gS → gS} (hJm : g_jm J) {z0 : Int} {s0 : gS} {a1 : Int} {s : gS} (h : M_step a1 s = some (z0, s0)) : Ct M_M_step g_S [.ref 49, gi a1] (J s) (QG g_S J z0 s0) := by
  refine Ct_of [some (.ref 49), some (gi a1), none, none, none, none] (plainFor_of_name (by decide)) rfl (Nat.le_of_ble_eq_true rfl) rfl (by decide) q_rG ?_
  unfold M_step at h
  refine G_aload_n (g_da dt_M_step 0 rfl) rfl rfl ?_
  refine G_getR (g_da dt_M_step 1 rfl) sh_49 fl_15_13 rfl ?_
  refine G_iload_n (g_da dt_M_step 2 rfl) rfl rfl ?_
  obtain ⟨hb1, h⟩ := o_g h
  refine H_iaload (g_da dt_M_step 3 rfl) sh_51 (hJm 51 rfl) rfl hb1 rfl ?_
  refine H_topi (fun v2 e3 => ?_)
  have h := o_l h v2 e3
  refine G_istore_n (lv' := [_, _, _, none, none, none]) (g_da dt_M_step 4 rfl) rfl (Nat.le_of_ble_eq_true rfl) rfl rfl ?_
  refine G_aload_n (g_da dt_M_step 5 rfl) rfl rfl ?_
  refine G_iload_n (g_da dt_M_step 6 rfl) rfl rfl ?_
  obtain ⟨r4, s5, hc6, h⟩ := o_b h
  refine H_cVE (M_errorOf_ok hJm hc6) (g_da dt_M_step 7 rfl) lk_15_174 mv_M_errorOf rfl sh_49 rfl rfl rfl rfl rfl rfl ?_
  refine G_istore_n (lv' := [_, _, _, _, none, none]) (g_da dt_M_step 8 rfl) rfl (Nat.le_of_ble_eq_true rfl) rfl rfl ?_
  refine G_iload_n (g_da dt_M_step 9 rfl) rfl rfl ?_
  refine G_if_le (g_da dt_M_step 10 rfl) rfl rfl  (fun hc7 => ?_) (fun hc7 => ?_)
  · have h := o_t hc7 h
    refine G_aload_n (g_da dt_M_step 16 rfl) rfl rfl ?_
    refine G_dup (g_da dt_M_step 17 rfl) rfl ?_
    refine H_getI (g_da dt_M_step 18 rfl) sh_49 fl_15_142 rfl (hJm 49 rfl) ?_
    refine G_iconst (g_da dt_M_step 19 rfl) ?_
    refine G_iadd (g_da dt_M_step 20 rfl) ?_
    refine H_putI (g_da dt_M_step 21 rfl) sh_49 fp_15_142 rfl (hJm 49 rfl) (fun s8 e9 => ?_)
    have h := o_l h s8 e9
    refine G_aload_n (g_da dt_M_step 22 rfl) rfl rfl ?_
    refine G_getR (g_da dt_M_step 23 rfl) sh_49 fl_15_26 rfl ?_
    refine G_aload_n (g_da dt_M_step 24 rfl) rfl rfl ?_
    refine H_getI (g_da dt_M_step 25 rfl) sh_49 fl_15_157 rfl (hJm 49 rfl) ?_
    refine G_iconst (g_da dt_M_step 26 rfl) ?_
    refine G_isub (g_da dt_M_step 27 rfl) ?_
    refine G_iload_n (g_da dt_M_step 28 rfl) rfl rfl ?_
    refine G_aload_n (g_da dt_M_step 29 rfl) rfl rfl ?_
    refine G_iload_n (g_da dt_M_step 30 rfl) rfl rfl ?_
    obtain ⟨r10, s11, hc12, h⟩ := o_b h
    refine H_cVE (M_wordLong_ok hJm hc12) (g_da dt_M_step 31 rfl) lk_15_234 mv_M_wordLong rfl sh_49 rfl rfl rfl rfl rfl rfl ?_
    refine G_iadd (g_da dt_M_step 32 rfl) ?_
    obtain ⟨hb13, h⟩ := o_g h
    refine H_iastore (g_da dt_M_step 33 rfl) sh_55 (hJm 55 rfl) rfl hb13 rfl (fun s14 e15 => ?_)
    have h := o_l h s14 e15
    refine G_iload_n (g_da dt_M_step 34 rfl) rfl rfl ?_
    obtain ⟨r16, s17, hc18, h⟩ := o_b h
    refine H_cSE (M_isDigit_ok hc18) (g_da dt_M_step 35 rfl) lk_15_96 ms_M_isDigit rfl rfl rfl rfl rfl rfl ?_
    refine G_if_eq (g_da dt_M_step 36 rfl) rfl rfl  (fun hc19 => ?_) (fun hc19 => ?_)
    · have h := o_t hc19 h
      refine G_iload_n (g_da dt_M_step 66 rfl) rfl rfl ?_
      obtain ⟨r20, s21, hc22, h⟩ := o_b h
      refine H_cSE (M_isLetter_ok hc22) (g_da dt_M_step 67 rfl) lk_15_100 ms_M_isLetter rfl rfl rfl rfl rfl rfl ?_
      refine G_if_eq (g_da dt_M_step 68 rfl) rfl rfl  (fun hc23 => ?_) (fun hc23 => ?_)
      · have h := o_t hc23 h
        refine G_iload_n (g_da dt_M_step 79 rfl) rfl rfl ?_
        refine G_bipush (g_da dt_M_step 80 rfl) b8w_123 ?_
        refine G_icmp_ne (g_da dt_M_step 81 rfl) rfl rfl w_123 (fun hc24 => ?_) (fun hc24 => ?_)
        · have h := o_f hc24 h
          refine G_iload_n (g_da dt_M_step 87 rfl) rfl rfl ?_
          refine G_bipush (g_da dt_M_step 88 rfl) b8w_58 ?_
          refine G_icmp_ne (g_da dt_M_step 89 rfl) rfl rfl w_58 (fun hc25 => ?_) (fun hc25 => ?_)
          · have h := o_f hc25 h
            refine G_iload_n (g_da dt_M_step 113 rfl) rfl rfl ?_
            obtain ⟨r26, s27, hc28, h⟩ := o_b h
            refine H_cSE (M_needs_ok hc28) (g_da dt_M_step 114 rfl) lk_15_103 ms_M_needs rfl rfl rfl rfl rfl rfl ?_
            refine G_if_le (g_da dt_M_step 115 rfl) rfl rfl  (fun hc29 => ?_) (fun hc29 => ?_)
            · have h := o_t hc29 h
              exact G_subK (M_step_215_ok hJm h) ⟨rfl, ⟨rfl, trivial⟩⟩
            · have h := o_f hc29 h
              refine G_iload_n (g_da dt_M_step 116 rfl) rfl rfl ?_
              refine G_bipush (g_da dt_M_step 117 rfl) b8w_65 ?_
              refine G_icmp_ge (g_da dt_M_step 118 rfl) rfl rfl w_65 (fun hc33 => ?_) (fun hc33 => ?_)
              · have h := o_t hc33 h
                exact G_subK (M_step_215_ok hJm h) ⟨rfl, ⟨rfl, trivial⟩⟩
              · have h := o_f hc33 h
                refine G_aload_n (g_da dt_M_step 119 rfl) rfl rfl ?_
                refine G_iload_n (g_da dt_M_step 120 rfl) rfl rfl ?_
                obtain ⟨r34, s35, hc36, h⟩ := o_b h
                refine H_cVG (M_reckon_ok hJm hc36) (g_da dt_M_step 121 rfl) lk_15_241 mv_M_reckon rfl sh_49 rfl rfl rfl rfl rfl rfl ?_
                refine G_goto (g_da dt_M_step 122 rfl) rfl ?_
                exact G_return (g_da dt_M_step 126 rfl) rfl rfl (g_nz rfl) (q_g h)
          · have h := o_t hc25 h
            refine G_aload_n (g_da dt_M_step 90 rfl) rfl rfl ?_
            refine G_dup (g_da dt_M_step 91 rfl) rfl ?_
            refine H_getI (g_da dt_M_step 92 rfl) sh_49 fl_15_145 rfl (hJm 49 rfl) ?_
            refine G_iconst (g_da dt_M_step 93 rfl) ?_
            refine G_isub (g_da dt_M_step 94 rfl) ?_
            refine H_putI (g_da dt_M_step 95 rfl) sh_49 fp_15_145 rfl (hJm 49 rfl) (fun s37 e38 => ?_)
            have h := o_l h s37 e38
            refine G_aload_n (g_da dt_M_step 96 rfl) rfl rfl ?_
            refine G_getR (g_da dt_M_step 97 rfl) sh_49 fl_15_19 rfl ?_
            refine G_aload_n (g_da dt_M_step 98 rfl) rfl rfl ?_
            refine G_getR (g_da dt_M_step 99 rfl) sh_49 fl_15_13 rfl ?_
            refine G_iload_n (g_da dt_M_step 100 rfl) rfl rfl ?_
            refine G_iconst (g_da dt_M_step 101 rfl) ?_
            refine G_iadd (g_da dt_M_step 102 rfl) ?_
            obtain ⟨hb39, h⟩ := o_g h
            refine H_iaload (g_da dt_M_step 103 rfl) sh_51 (hJm 51 rfl) rfl hb39 rfl ?_
            refine G_bipush (g_da dt_M_step 104 rfl) b8w_97 ?_
            refine G_isub (g_da dt_M_step 105 rfl) ?_
            refine G_aload_n (g_da dt_M_step 106 rfl) rfl rfl ?_
            refine G_getR (g_da dt_M_step 107 rfl) sh_49 fl_15_16 rfl ?_
            refine G_aload_n (g_da dt_M_step 108 rfl) rfl rfl ?_
            refine H_getI (g_da dt_M_step 109 rfl) sh_49 fl_15_145 rfl (hJm 49 rfl) ?_
            obtain ⟨hb40, h⟩ := o_g h
            refine H_iaload (g_da dt_M_step 110 rfl) sh_52 (hJm 52 rfl) rfl hb40 rfl ?_
            obtain ⟨hb41, h⟩ := o_g h
            refine H_iastore (g_da dt_M_step 111 rfl) sh_53 (hJm 53 rfl) rfl hb41 rfl (fun s42 e43 => ?_)
            have h := o_l h s42 e43
            refine G_goto (g_da dt_M_step 112 rfl) rfl ?_
            exact G_return (g_da dt_M_step 126 rfl) rfl rfl (g_nz rfl) (q_g h)
        · have h := o_t hc24 h
          refine G_aload_n (g_da dt_M_step 82 rfl) rfl rfl ?_
          refine G_iload_n (g_da dt_M_step 83 rfl) rfl rfl ?_
          refine G_iconst (g_da dt_M_step 84 rfl) ?_
          obtain ⟨r44, s45, hc46, h⟩ := o_b h
          refine H_cVG (M_push_ok hJm hc46) (g_da dt_M_step 85 rfl) lk_15_237 mv_M_push rfl sh_49 rfl rfl rfl rfl rfl rfl ?_
          refine G_goto (g_da dt_M_step 86 rfl) rfl ?_
          exact G_return (g_da dt_M_step 126 rfl) rfl rfl (g_nz rfl) (q_g h)
      · have h := o_f hc23 h
        refine G_aload_n (g_da dt_M_step 69 rfl) rfl rfl ?_
        refine G_aload_n (g_da dt_M_step 70 rfl) rfl rfl ?_
        refine G_getR (g_da dt_M_step 71 rfl) sh_49 fl_15_19 rfl ?_
        refine G_iload_n (g_da dt_M_step 72 rfl) rfl rfl ?_
        refine G_bipush (g_da dt_M_step 73 rfl) b8w_97 ?_
        refine G_isub (g_da dt_M_step 74 rfl) ?_
        obtain ⟨hb47, h⟩ := o_g h
        refine H_iaload (g_da dt_M_step 75 rfl) sh_53 (hJm 53 rfl) rfl hb47 rfl ?_
        refine G_iconst (g_da dt_M_step 76 rfl) ?_
        obtain ⟨r48, s49, hc50, h⟩ := o_b h
        refine H_cVG (M_push_ok hJm hc50) (g_da dt_M_step 77 rfl) lk_15_237 mv_M_push rfl sh_49 rfl rfl rfl rfl rfl rfl ?_
        refine G_goto (g_da dt_M_step 78 rfl) rfl ?_
        exact G_return (g_da dt_M_step 126 rfl) rfl rfl (g_nz rfl) (q_g h)
    · have h := o_f hc19 h
      refine G_iconst (g_da dt_M_step 37 rfl) ?_
      refine G_istore (lv' := [_, _, _, _, _, none]) (g_da dt_M_step 38 rfl) (Nat.le_of_ble_eq_true rfl) rfl rfl ?_
      refine G_iconst (g_da dt_M_step 39 rfl) ?_
      refine G_istore (lv' := [_, _, _, _, _, _]) (g_da dt_M_step 40 rfl) (Nat.le_of_ble_eq_true rfl) rfl rfl ?_
      exact G_subK (M_step_65L_ok hJm (fun _ _ h => M_step_101_ok hJm h) gFu h) ⟨rfl, ⟨rfl, ⟨rfl, ⟨rfl, trivial⟩⟩⟩⟩
  · have h := o_f hc7 h
    refine G_aload_n (g_da dt_M_step 11 rfl) rfl rfl ?_
    refine G_iload_n (g_da dt_M_step 12 rfl) rfl rfl ?_
    refine G_iload_n (g_da dt_M_step 13 rfl) rfl rfl ?_
    obtain ⟨r61, s62, hc63, h⟩ := o_b h
    refine H_cVG (M_endJob_ok hJm hc63) (g_da dt_M_step 14 rfl) lk_15_170 mv_M_endJob rfl sh_49 rfl rfl rfl rfl rfl rfl ?_
    exact G_return (g_da dt_M_step 15 rfl) rfl rfl (g_nz rfl) (q_g h)
set_option maxHeartbeats 4000000 in
set_option maxRecDepth 100000 in
theorem M_run_147_ok {J : gS → gS} (hJm : g_jm J) {z0 : Int} {s0 : gS} {k49 : Int → Int → gS → gA} (hk49 : ∀ (l2 l3 : Int) (s : gS), k49 l2 l3 s = some (z0, s0) → G M_M_run (QE g_S J z0 s0) (g_S, 0, 0) (J s) 49 [some (.ref 49), none, some (gi l2), some (gi l3), none] [])  {l2 t0 : Int} {s : gS} (h : M_run_147 k49 l2 t0 s = some (z0, s0)) : G M_M_run (QE g_S J z0 s0) (g_S, 0, 0) (J s) 147 [some (.ref 49), none, some (gi l2), none, none] [gi t0] := by
  unfold M_run_147 at h
  refine G_istore_n (lv' := [_, none, _, _, none]) (g_da dt_M_run 77 rfl) rfl (Nat.le_of_ble_eq_true rfl) rfl rfl ?_
  refine G_goto (g_da dt_M_run 78 rfl) rfl ?_
  exact G_subK (hk49 _ _ _ h) ⟨rfl, ⟨rfl, ⟨rfl, trivial⟩⟩⟩
set_option maxHeartbeats 4000000 in
set_option maxRecDepth 100000 in
theorem M_run_116_ok {J : gS → gS} (hJm : g_jm J) {z0 : Int} {s0 : gS} {k49 : Int → Int → gS → gA} (hk49 : ∀ (l2 l3 : Int) (s : gS), k49 l2 l3 s = some (z0, s0) → G M_M_run (QE g_S J z0 s0) (g_S, 0, 0) (J s) 49 [some (.ref 49), none, some (gi l2), some (gi l3), none] [])  {l2 l3 t1 : Int} {s : gS} (h : M_run_116 k49 l2 l3 t1 s = some (z0, s0)) : G M_M_run (QE g_S J z0 s0) (g_S, 0, 0) (J s) 116 [some (.ref 49), none, some (gi l2), some (gi l3), none] [gi t1, .ref 49] := by
  unfold M_run_116 at h
  refine G_iload_n (g_da dt_M_run 62 rfl) rfl rfl ?_
  obtain ⟨r25, s26, hc27, h⟩ := o_b h
  refine H_cVG (M_endJob_ok hJm hc27) (g_da dt_M_run 63 rfl) lk_15_170 mv_M_endJob rfl sh_49 rfl rfl rfl rfl rfl rfl ?_
  refine G_goto (g_da dt_M_run 64 rfl) rfl ?_
  exact G_subK (hk49 _ _ _ h) ⟨rfl, ⟨rfl, ⟨rfl, trivial⟩⟩⟩
set_option maxHeartbeats 4000000 in
set_option maxRecDepth 100000 in
theorem M_run_66_ok {J : gS → gS} (hJm : g_jm J) {z0 : Int} {s0 : gS} {k49 : Int → Int → gS → gA} (hk49 : ∀ (l2 l3 : Int) (s : gS), k49 l2 l3 s = some (z0, s0) → G M_M_run (QE g_S J z0 s0) (g_S, 0, 0) (J s) 49 [some (.ref 49), none, some (gi l2), some (gi l3), none] [])  {l2 l3 : Int} {s : gS} (h : M_run_66 k49 l2 l3 s = some (z0, s0)) : G M_M_run (QE g_S J z0 s0) (g_S, 0, 0) (J s) 66 [some (.ref 49), none, some (gi l2), some (gi l3), none] [] := by
  unfold M_run_66 at h
  refine G_iload_n (g_da dt_M_run 36 rfl) rfl rfl ?_
  refine G_iconst (g_da dt_M_run 37 rfl) ?_
  refine G_icmp_ne (g_da dt_M_run 38 rfl) rfl rfl w_m1 (fun hc11 => ?_) (fun hc11 => ?_)
  · have h := o_f hc11 h
    refine G_aload_n (g_da dt_M_run 44 rfl) rfl rfl ?_
    refine H_getI (g_da dt_M_run 45 rfl) sh_49 fl_15_142 rfl (hJm 49 rfl) ?_
    refine G_aload_n (g_da dt_M_run 46 rfl) rfl rfl ?_
    refine H_getI (g_da dt_M_run 47 rfl) sh_49 fl_15_130 rfl (hJm 49 rfl) ?_
    refine G_icmp_ne (g_da dt_M_run 48 rfl) rfl rfl rfl (fun hc12 => ?_) (fun hc12 => ?_)
    · have h := o_f hc12 h
      refine G_aload_n (g_da dt_M_run 65 rfl) rfl rfl ?_
      refine G_iload_n (g_da dt_M_run 66 rfl) rfl rfl ?_
      obtain ⟨r13, s14, hc15, h⟩ := o_b h
      refine H_cVG (M_step_ok hJm hc15) (g_da dt_M_run 67 rfl) lk_15_177 mv_M_step rfl sh_49 rfl rfl rfl rfl rfl rfl ?_
      refine G_iinc (lv' := [_, none, _, _, none]) (g_da dt_M_run 68 rfl) rfl (Nat.le_of_ble_eq_true rfl) rfl rfl ?_
      refine G_aload_n (g_da dt_M_run 69 rfl) rfl rfl ?_
      refine H_getI (g_da dt_M_run 70 rfl) sh_49 fl_15_107 rfl (hJm 49 rfl) ?_
      refine G_iconst (g_da dt_M_run 71 rfl) ?_
      refine G_icmp_ne (g_da dt_M_run 72 rfl) rfl rfl w_1 (fun hc16 => ?_) (fun hc16 => ?_)
      · have h := o_f hc16 h
        refine G_iconst (g_da dt_M_run 76 rfl) ?_
        exact G_subK (M_run_147_ok hJm hk49 h) ⟨rfl, ⟨rfl, trivial⟩⟩
      · have h := o_t hc16 h
        refine G_aload_n (g_da dt_M_run 73 rfl) rfl rfl ?_
        obtain ⟨r17, s18, hc19, h⟩ := o_b h
        refine H_cVE (M_next_ok hJm hc19) (g_da dt_M_run 74 rfl) lk_15_167 mv_M_next rfl sh_49 rfl rfl rfl rfl rfl rfl ?_
        refine G_goto (g_da dt_M_run 75 rfl) rfl ?_
        exact G_subK (M_run_147_ok hJm hk49 h) ⟨rfl, ⟨rfl, trivial⟩⟩
    · have h := o_t hc12 h
      refine G_aload_n (g_da dt_M_run 49 rfl) rfl rfl ?_
      refine G_aload_n (g_da dt_M_run 50 rfl) rfl rfl ?_
      refine G_getR (g_da dt_M_run 51 rfl) sh_49 fl_15_13 rfl ?_
      refine G_iload_n (g_da dt_M_run 52 rfl) rfl rfl ?_
      obtain ⟨hb20, h⟩ := o_g h
      refine H_iaload (g_da dt_M_run 53 rfl) sh_51 (hJm 51 rfl) rfl hb20 rfl ?_
      obtain ⟨r21, s22, hc23, h⟩ := o_b h
      refine H_cVE (M_errorOf_ok hJm hc23) (g_da dt_M_run 54 rfl) lk_15_174 mv_M_errorOf rfl sh_49 rfl rfl rfl rfl rfl rfl ?_
      refine G_istore (lv' := [_, none, _, _, _]) (g_da dt_M_run 55 rfl) (Nat.le_of_ble_eq_true rfl) rfl rfl ?_
      refine G_aload_n (g_da dt_M_run 56 rfl) rfl rfl ?_
      refine G_iload (g_da dt_M_run 57 rfl) rfl ?_
      refine G_if_le (g_da dt_M_run 58 rfl) rfl rfl  (fun hc24 => ?_) (fun hc24 => ?_)
      · have h := o_t hc24 h
        refine G_bipush (g_da dt_M_run 61 rfl) b8w_12 ?_
        exact G_subK (M_run_116_ok hJm hk49 h) ⟨rfl, ⟨rfl, ⟨rfl, trivial⟩⟩⟩
      · have h := o_f hc24 h
        refine G_iload (g_da dt_M_run 59 rfl) rfl ?_
        refine G_goto (g_da dt_M_run 60 rfl) rfl ?_
        exact G_subK (M_run_116_ok hJm hk49 h) ⟨rfl, ⟨rfl, ⟨rfl, trivial⟩⟩⟩
  · have h := o_t hc11 h
    refine G_aload_n (g_da dt_M_run 39 rfl) rfl rfl ?_
    refine G_iconst (g_da dt_M_run 40 rfl) ?_
    refine G_iconst (g_da dt_M_run 41 rfl) ?_
    obtain ⟨r28, s29, hc30, h⟩ := o_b h
    refine H_cVG (M_endJob_ok hJm hc30) (g_da dt_M_run 42 rfl) lk_15_170 mv_M_endJob rfl sh_49 rfl rfl rfl rfl rfl rfl ?_
    refine G_goto (g_da dt_M_run 43 rfl) rfl ?_
    exact G_subK (hk49 _ _ _ h) ⟨rfl, ⟨rfl, ⟨rfl, trivial⟩⟩⟩
set_option maxHeartbeats 4000000 in
set_option maxRecDepth 100000 in
theorem M_run_49_ok {J : gS → gS} (hJm : g_jm J) {z0 : Int} {s0 : gS} {k49 : Int → Int → gS → gA} {k151 : gS → gA} (hk49 : ∀ (l2 l3 : Int) (s : gS), k49 l2 l3 s = some (z0, s0) → G M_M_run (QE g_S J z0 s0) (g_S, 0, 0) (J s) 49 [some (.ref 49), none, some (gi l2), some (gi l3), none] []) (hk151 : ∀ (s : gS), k151 s = some (z0, s0) → G M_M_run (QE g_S J z0 s0) (g_S, 0, 0) (J s) 151 [some (.ref 49), none, none, none, none] [])  {l2 l3 : Int} {s : gS} (h : M_run_49 k49 k151 l2 l3 s = some (z0, s0)) : G M_M_run (QE g_S J z0 s0) (g_S, 0, 0) (J s) 49 [some (.ref 49), none, some (gi l2), some (gi l3), none] [] := by
  unfold M_run_49 at h
  refine G_aload_n (g_da dt_M_run 27 rfl) rfl rfl ?_
  refine H_getI (g_da dt_M_run 28 rfl) sh_49 fl_15_107 rfl (hJm 49 rfl) ?_
  refine G_iconst (g_da dt_M_run 29 rfl) ?_
  refine G_icmp_ne (g_da dt_M_run 30 rfl) rfl rfl w_1 (fun hc9 => ?_) (fun hc9 => ?_)
  · have h := o_f hc9 h
    exact G_subK (hk151 _ h) ⟨rfl, trivial⟩
  · have h := o_t hc9 h
    refine G_iload_n (g_da dt_M_run 31 rfl) rfl rfl ?_
    refine G_iconst (g_da dt_M_run 32 rfl) ?_
    refine G_icmp_eq (g_da dt_M_run 33 rfl) rfl rfl w_m1 (fun hc10 => ?_) (fun hc10 => ?_)
    · have h := o_t hc10 h
      exact G_subK (M_run_66_ok hJm hk49 h) ⟨rfl, ⟨rfl, ⟨rfl, trivial⟩⟩⟩
    · have h := o_f hc10 h
      refine G_iload_n (g_da dt_M_run 34 rfl) rfl rfl ?_
      refine G_if_le (g_da dt_M_run 35 rfl) rfl rfl  (fun hc31 => ?_) (fun hc31 => ?_)
      · have h := o_t hc31 h
        exact G_subK (hk151 _ h) ⟨rfl, trivial⟩
      · have h := o_f hc31 h
        exact G_subK (M_run_66_ok hJm hk49 h) ⟨rfl, ⟨rfl, ⟨rfl, trivial⟩⟩⟩
set_option maxHeartbeats 4000000 in
set_option maxRecDepth 100000 in
theorem M_run_49L_ok {J : gS → gS} (hJm : g_jm J) {z0 : Int} {s0 : gS} {k151 : gS → gA} (hk151 : ∀ (s : gS), k151 s = some (z0, s0) → G M_M_run (QE g_S J z0 s0) (g_S, 0, 0) (J s) 151 [some (.ref 49), none, none, none, none] []) : ∀ (n : Nat) {l2 l3 : Int} {s : gS}, M_run_49L k151 n l2 l3 s = some (z0, s0) → G M_M_run (QE g_S J z0 s0) (g_S, 0, 0) (J s) 49 [some (.ref 49), none, some (gi l2), some (gi l3), none] [] := by
  intro n
  induction n with
  | zero => intro _ _ _ h; cases h
  | succ n ih => intro _ _ _ h; exact M_run_49_ok hJm (fun _ _ _ h => ih h) hk151 h
set_option maxHeartbeats 4000000 in
set_option maxRecDepth 100000 in
theorem M_run_151_ok {J : gS → gS} (hJm : g_jm J) {z0 : Int} {s0 : gS}  {s : gS} (h : M_run_151 s = some (z0, s0)) : G M_M_run (QE g_S J z0 s0) (g_S, 0, 0) (J s) 151 [some (.ref 49), none, none, none, none] [] := by
  unfold M_run_151 at h
  refine G_aload_n (g_da dt_M_run 79 rfl) rfl rfl ?_
  refine H_getI (g_da dt_M_run 80 rfl) sh_49 fl_15_107 rfl (hJm 49 rfl) ?_
  refine G_iconst (g_da dt_M_run 81 rfl) ?_
  refine G_icmp_ne (g_da dt_M_run 82 rfl) rfl rfl w_1 (fun hc32 => ?_) (fun hc32 => ?_)
  · have h := o_f hc32 h
    refine G_aload_n (g_da dt_M_run 85 rfl) rfl rfl ?_
    refine H_getI (g_da dt_M_run 86 rfl) sh_49 fl_15_133 rfl (hJm 49 rfl) ?_
    refine G_if_ne (g_da dt_M_run 87 rfl) rfl rfl  (fun hc33 => ?_) (fun hc33 => ?_)
    · have h := o_f hc33 h
      refine G_iconst (g_da dt_M_run 90 rfl) ?_
      exact G_ireturn (g_da dt_M_run 91 rfl) rfl rfl rfl (g_nz rfl) (q_e h)
    · have h := o_t hc33 h
      refine G_iconst (g_da dt_M_run 88 rfl) ?_
      refine G_goto (g_da dt_M_run 89 rfl) rfl ?_
      exact G_ireturn (g_da dt_M_run 91 rfl) rfl rfl rfl (g_nz rfl) (q_e h)
  · have h := o_t hc32 h
    refine G_iconst (g_da dt_M_run 83 rfl) ?_
    refine G_goto (g_da dt_M_run 84 rfl) rfl ?_
    exact G_ireturn (g_da dt_M_run 91 rfl) rfl rfl rfl (g_nz rfl) (q_e h)
set_option maxHeartbeats 4000000 in
set_option maxRecDepth 100000 in
theorem M_run_30_ok {J : gS → gS} (hJm : g_jm J) {z0 : Int} {s0 : gS}  {l1 t1 : Int} {s : gS} (h : M_run_30 l1 t1 s = some (z0, s0)) : G M_M_run (QE g_S J z0 s0) (g_S, 0, 0) (J s) 30 [some (.ref 49), some (gi l1), none, none, none] [gi t1, .ref 49] := by
  unfold M_run_30 at h
  refine H_putI (g_da dt_M_run 16 rfl) sh_49 fp_15_83 rfl (hJm 49 rfl) (fun s3 e4 => ?_)
  have h := o_l h s3 e4
  refine G_aload_n (g_da dt_M_run 17 rfl) rfl rfl ?_
  refine H_getI (g_da dt_M_run 18 rfl) sh_49 fl_15_83 rfl (hJm 49 rfl) ?_
  refine G_if_eq (g_da dt_M_run 19 rfl) rfl rfl  (fun hc5 => ?_) (fun hc5 => ?_)
  · have h := o_t hc5 h
    refine G_iload_n (g_da dt_M_run 22 rfl) rfl rfl ?_
    refine G_istore_n (lv' := [_, _, _, none, none]) (g_da dt_M_run 23 rfl) rfl (Nat.le_of_ble_eq_true rfl) rfl rfl ?_
    refine G_aload_n (g_da dt_M_run 24 rfl) rfl rfl ?_
    obtain ⟨r6, s7, hc8, h⟩ := o_b h
    refine H_cVE (M_next_ok hJm hc8) (g_da dt_M_run 25 rfl) lk_15_167 mv_M_next rfl sh_49 rfl rfl rfl rfl rfl rfl ?_
    refine G_istore_n (lv' := [_, _, _, _, none]) (g_da dt_M_run 26 rfl) rfl (Nat.le_of_ble_eq_true rfl) rfl rfl ?_
    exact G_subK (M_run_49L_ok hJm (fun _ h => M_run_151_ok hJm h) gFu h) ⟨rfl, ⟨rfl, ⟨rfl, trivial⟩⟩⟩
  · have h := o_f hc5 h
    refine G_iconst (g_da dt_M_run 20 rfl) ?_
    exact G_ireturn (g_da dt_M_run 21 rfl) rfl rfl rfl (g_nz rfl) (q_e h)
set_option maxHeartbeats 4000000 in
set_option maxRecDepth 100000 in
theorem M_run_25_ok {J : gS → gS} (hJm : g_jm J) {z0 : Int} {s0 : gS}  {l1 : Int} {s : gS} (h : M_run_25 l1 s = some (z0, s0)) : G M_M_run (QE g_S J z0 s0) (g_S, 0, 0) (J s) 25 [some (.ref 49), some (gi l1), none, none, none] [.ref 49] := by
  unfold M_run_25 at h
  refine G_iconst (g_da dt_M_run 13 rfl) ?_
  refine G_goto (g_da dt_M_run 14 rfl) rfl ?_
  exact G_subK (M_run_30_ok hJm h) ⟨rfl, ⟨rfl, trivial⟩⟩
set_option maxHeartbeats 4000000 in
set_option maxRecDepth 100000 in
theorem M_run_ok {J : gS → gS} (hJm : g_jm J) {z0 : Int} {s0 : gS} {a1 : Int} {s : gS} (h : M_run a1 s = some (z0, s0)) : Ct M_M_run g_S [.ref 49, gi a1] (J s) (QE g_S J z0 s0) := by
  refine Ct_of [some (.ref 49), some (gi a1), none, none, none] (plainFor_of_name (by decide)) rfl (Nat.le_of_ble_eq_true rfl) rfl (by decide) q_rE ?_
  unfold M_run at h
  refine G_aload_n (g_da dt_M_run 0 rfl) rfl rfl ?_
  refine G_aload_n (g_da dt_M_run 1 rfl) rfl rfl ?_
  refine H_getI (g_da dt_M_run 2 rfl) sh_49 fl_15_107 rfl (hJm 49 rfl) ?_
  refine G_iconst (g_da dt_M_run 3 rfl) ?_
  refine G_icmp_eq (g_da dt_M_run 4 rfl) rfl rfl w_1 (fun hc1 => ?_) (fun hc1 => ?_)
  · have h := o_t hc1 h
    refine G_iload_n (g_da dt_M_run 7 rfl) rfl rfl ?_
    refine G_iconst (g_da dt_M_run 8 rfl) ?_
    refine G_icmp_lt (g_da dt_M_run 9 rfl) rfl rfl w_1 (fun hc2 => ?_) (fun hc2 => ?_)
    · have h := o_t hc2 h
      exact G_subK (M_run_25_ok hJm h) ⟨rfl, ⟨rfl, trivial⟩⟩
    · have h := o_f hc2 h
      refine G_iload_n (g_da dt_M_run 10 rfl) rfl rfl ?_
      refine G_sipush (g_da dt_M_run 11 rfl) s16w_5000 ?_
      refine G_icmp_le (g_da dt_M_run 12 rfl) rfl rfl w_5000 (fun hc34 => ?_) (fun hc34 => ?_)
      · have h := o_t hc34 h
        refine G_iconst (g_da dt_M_run 15 rfl) ?_
        exact G_subK (M_run_30_ok hJm h) ⟨rfl, ⟨rfl, trivial⟩⟩
      · have h := o_f hc34 h
        exact G_subK (M_run_25_ok hJm h) ⟨rfl, ⟨rfl, trivial⟩⟩
  · have h := o_f hc1 h
    refine G_iconst (g_da dt_M_run 5 rfl) ?_
    refine G_goto (g_da dt_M_run 6 rfl) rfl ?_
    exact G_subK (M_run_30_ok hJm h) ⟨rfl, ⟨rfl, trivial⟩⟩
set_option maxHeartbeats 4000000 in
set_option maxRecDepth 100000 in
theorem M_isSection_ok {J : gS → gS} {z0 : Int} {s0 : gS} {a0 : Int} {s : gS} (h : M_isSection a0 s = some (z0, s0)) : Ct M_M_isSection g_S [gi a0] (J s) (QE g_S J z0 s0) := by
  refine Ct_of [some (gi a0)] (plainFor_of_name (by decide)) rfl (Nat.le_of_ble_eq_true rfl) rfl (by decide) q_rE ?_
  unfold M_isSection at h
  refine G_iload_n (g_da dt_M_isSection 0 rfl) rfl rfl ?_
  refine G_if_lt (g_da dt_M_isSection 1 rfl) rfl rfl  (fun hc1 => ?_) (fun hc1 => ?_)
  · have h := o_t hc1 h
    refine G_iconst (g_da dt_M_isSection 7 rfl) ?_
    exact G_ireturn (g_da dt_M_isSection 8 rfl) rfl (g_bool (Or.inl w_0)).1 rfl (g_nz rfl) (q_e h)
  · have h := o_f hc1 h
    refine G_iload_n (g_da dt_M_isSection 2 rfl) rfl rfl ?_
    refine G_iconst (g_da dt_M_isSection 3 rfl) ?_
    refine G_icmp_ge (g_da dt_M_isSection 4 rfl) rfl rfl w_4 (fun hc2 => ?_) (fun hc2 => ?_)
    · have h := o_t hc2 h
      refine G_iconst (g_da dt_M_isSection 7 rfl) ?_
      exact G_ireturn (g_da dt_M_isSection 8 rfl) rfl (g_bool (Or.inl w_0)).1 rfl (g_nz rfl) (q_e h)
    · have h := o_f hc2 h
      refine G_iconst (g_da dt_M_isSection 5 rfl) ?_
      refine G_goto (g_da dt_M_isSection 6 rfl) rfl ?_
      exact G_ireturn (g_da dt_M_isSection 8 rfl) rfl (g_bool (Or.inr w_1)).1 rfl (g_nz rfl) (q_e h)
set_option maxHeartbeats 4000000 in
set_option maxRecDepth 100000 in
theorem M_section_ok {J : gS → gS} (hJm : g_jm J) {z0 : Int} {s0 : gS} {a1 a2 : Int} {s : gS} (h : M_section a1 a2 s = some (z0, s0)) : Ct M_M_section g_S [.ref 49, gi a1, gi a2] (J s) (QE g_S J z0 s0) := by
  refine Ct_of [some (.ref 49), some (gi a1), some (gi a2)] (plainFor_of_name (by decide)) rfl (Nat.le_of_ble_eq_true rfl) rfl (by decide) q_rE ?_
  unfold M_section at h
  refine G_aload_n (g_da dt_M_section 0 rfl) rfl rfl ?_
  refine G_iconst (g_da dt_M_section 1 rfl) ?_
  refine H_putI (g_da dt_M_section 2 rfl) sh_49 fp_15_83 rfl (hJm 49 rfl) (fun s1 e2 => ?_)
  have h := o_l h s1 e2
  refine G_iload_n (g_da dt_M_section 3 rfl) rfl rfl ?_
  obtain ⟨r3, s4, hc5, h⟩ := o_b h
  refine H_cSE (M_isSection_ok hc5) (g_da dt_M_section 4 rfl) lk_15_375 ms_M_isSection rfl rfl rfl rfl rfl rfl ?_
  refine G_if_ne (g_da dt_M_section 5 rfl) rfl rfl  (fun hc6 => ?_) (fun hc6 => ?_)
  · have h := o_f hc6 h
    refine G_iload_n (g_da dt_M_section 8 rfl) rfl rfl ?_
    refine G_table [(0, 40), (1, 47), (2, 54)] 69 (g_da dt_M_section 9 rfl) rfl rfl rfl ⟨fun hc7 => ?_, fun hc7 => ⟨fun hc8 => ?_, fun hc8 => ⟨fun hc9 => ?_, fun hc9 => ?_⟩⟩⟩
    · have h := o_t hc7 h
      refine G_aload_n (g_da dt_M_section 10 rfl) rfl rfl ?_
      refine G_getR (g_da dt_M_section 11 rfl) sh_49 fl_15_62 rfl ?_
      refine G_iload_n (g_da dt_M_section 12 rfl) rfl rfl ?_
      obtain ⟨hb10, h⟩ := o_g h
      refine H_iaload (g_da dt_M_section 13 rfl) sh_67 (hJm 67 rfl) rfl hb10 rfl ?_
      exact G_ireturn (g_da dt_M_section 14 rfl) rfl rfl rfl (g_nz rfl) (q_e h)
    · have h := o_f hc7 h
      have h := o_t hc8 h
      refine G_aload_n (g_da dt_M_section 15 rfl) rfl rfl ?_
      refine G_getR (g_da dt_M_section 16 rfl) sh_49 fl_15_65 rfl ?_
      refine G_iload_n (g_da dt_M_section 17 rfl) rfl rfl ?_
      obtain ⟨hb11, h⟩ := o_g h
      refine H_iaload (g_da dt_M_section 18 rfl) sh_68 (hJm 68 rfl) rfl hb11 rfl ?_
      exact G_ireturn (g_da dt_M_section 19 rfl) rfl rfl rfl (g_nz rfl) (q_e h)
    · have h := o_f hc7 h
      have h := o_f hc8 h
      have h := o_t hc9 h
      refine G_aload_n (g_da dt_M_section 20 rfl) rfl rfl ?_
      refine G_getR (g_da dt_M_section 21 rfl) sh_49 fl_15_74 rfl ?_
      refine G_iload_n (g_da dt_M_section 22 rfl) rfl rfl ?_
      obtain ⟨hb12, h⟩ := o_g h
      refine H_zaload (g_da dt_M_section 23 rfl) sh_71 (hJm 71 rfl) rfl hb12 rfl ?_
      refine G_if_eq (g_da dt_M_section 24 rfl) rfl rfl  (fun hc13 => ?_) (fun hc13 => ?_)
      · have h := o_t hc13 h
        refine G_iconst (g_da dt_M_section 27 rfl) ?_
        exact G_ireturn (g_da dt_M_section 28 rfl) rfl rfl rfl (g_nz rfl) (q_e h)
      · have h := o_f hc13 h
        refine G_iconst (g_da dt_M_section 25 rfl) ?_
        refine G_goto (g_da dt_M_section 26 rfl) rfl ?_
        exact G_ireturn (g_da dt_M_section 28 rfl) rfl rfl rfl (g_nz rfl) (q_e h)
    · have h := o_f hc7 h
      have h := o_f hc8 h
      have h := o_f hc9 h
      refine G_iconst (g_da dt_M_section 29 rfl) ?_
      exact G_ireturn (g_da dt_M_section 30 rfl) rfl rfl rfl (g_nz rfl) (q_e h)
  · have h := o_t hc6 h
    refine G_iconst (g_da dt_M_section 6 rfl) ?_
    exact G_ireturn (g_da dt_M_section 7 rfl) rfl rfl rfl (g_nz rfl) (q_e h)
set_option maxHeartbeats 4000000 in
set_option maxRecDepth 100000 in
theorem M_shift_ok {J : gS → gS} (hJm : g_jm J) {z0 : Int} {s0 : gS} {a1 a2 : Int} {s : gS} (h : M_shift a1 a2 s = some (z0, s0)) : Ct M_M_shift g_S [.ref 49, gi a1, gi a2] (J s) (QG g_S J z0 s0) := by
  refine Ct_of [some (.ref 49), some (gi a1), some (gi a2)] (plainFor_of_name (by decide)) rfl (Nat.le_of_ble_eq_true rfl) rfl (by decide) q_rG ?_
  unfold M_shift at h
  refine G_aload_n (g_da dt_M_shift 0 rfl) rfl rfl ?_
  refine G_getR (g_da dt_M_shift 1 rfl) sh_49 fl_15_62 rfl ?_
  refine G_iload_n (g_da dt_M_shift 2 rfl) rfl rfl ?_
  refine G_aload_n (g_da dt_M_shift 3 rfl) rfl rfl ?_
  refine G_getR (g_da dt_M_shift 4 rfl) sh_49 fl_15_62 rfl ?_
  refine G_iload_n (g_da dt_M_shift 5 rfl) rfl rfl ?_
  obtain ⟨hb1, h⟩ := o_g h
  refine H_iaload (g_da dt_M_shift 6 rfl) sh_67 (hJm 67 rfl) rfl hb1 rfl ?_
  obtain ⟨hb2, h⟩ := o_g h
  refine H_iastore (g_da dt_M_shift 7 rfl) sh_67 (hJm 67 rfl) rfl hb2 rfl (fun s3 e4 => ?_)
  have h := o_l h s3 e4
  refine G_aload_n (g_da dt_M_shift 8 rfl) rfl rfl ?_
  refine G_getR (g_da dt_M_shift 9 rfl) sh_49 fl_15_65 rfl ?_
  refine G_iload_n (g_da dt_M_shift 10 rfl) rfl rfl ?_
  refine G_aload_n (g_da dt_M_shift 11 rfl) rfl rfl ?_
  refine G_getR (g_da dt_M_shift 12 rfl) sh_49 fl_15_65 rfl ?_
  refine G_iload_n (g_da dt_M_shift 13 rfl) rfl rfl ?_
  obtain ⟨hb5, h⟩ := o_g h
  refine H_iaload (g_da dt_M_shift 14 rfl) sh_68 (hJm 68 rfl) rfl hb5 rfl ?_
  obtain ⟨hb6, h⟩ := o_g h
  refine H_iastore (g_da dt_M_shift 15 rfl) sh_68 (hJm 68 rfl) rfl hb6 rfl (fun s7 e8 => ?_)
  have h := o_l h s7 e8
  refine G_aload_n (g_da dt_M_shift 16 rfl) rfl rfl ?_
  refine G_getR (g_da dt_M_shift 17 rfl) sh_49 fl_15_68 rfl ?_
  refine G_iload_n (g_da dt_M_shift 18 rfl) rfl rfl ?_
  refine G_iconst (g_da dt_M_shift 19 rfl) ?_
  obtain ⟨hb9, h⟩ := o_g h
  refine H_iastore (g_da dt_M_shift 20 rfl) sh_69 (hJm 69 rfl) rfl hb9 rfl (fun s10 e11 => ?_)
  have h := o_l h s10 e11
  refine G_aload_n (g_da dt_M_shift 21 rfl) rfl rfl ?_
  refine G_getR (g_da dt_M_shift 22 rfl) sh_49 fl_15_77 rfl ?_
  refine G_iload_n (g_da dt_M_shift 23 rfl) rfl rfl ?_
  refine G_iconst (g_da dt_M_shift 24 rfl) ?_
  obtain ⟨hb12, h⟩ := o_g h
  refine H_zastore (g_da dt_M_shift 25 rfl) sh_72 (hJm 72 rfl) rfl hb12 rfl (fun s13 e14 => ?_)
  have h := o_l h s13 e14
  refine G_aload_n (g_da dt_M_shift 26 rfl) rfl rfl ?_
  refine G_iload_n (g_da dt_M_shift 27 rfl) rfl rfl ?_
  obtain ⟨r15, s16, hc17, h⟩ := o_b h
  refine H_cVG (M_empty_ok hJm hc17) (g_da dt_M_shift 28 rfl) lk_15_333 mv_M_empty rfl sh_49 rfl rfl rfl rfl rfl rfl ?_
  exact G_return (g_da dt_M_shift 29 rfl) rfl rfl (g_nz rfl) (q_g h)
set_option maxHeartbeats 4000000 in
set_option maxRecDepth 100000 in
theorem M_start_86_ok {J : gS → gS} (hJm : g_jm J) {z0 : Int} {s0 : gS} {k86 : Int → Int → Int → Int → gS → gA} {k115 : Int → Int → Int → gS → gA} (hk86 : ∀ (l1 l2 l3 l5 : Int) (s : gS), k86 l1 l2 l3 l5 s = some (z0, s0) → G M_M_start (QE g_S J z0 s0) (g_S, 0, 0) (J s) 86 [some (.ref 49), some (gi l1), some (gi l2), some (gi l3), none, some (gi l5)] []) (hk115 : ∀ (l1 l2 l3 : Int) (s : gS), k115 l1 l2 l3 s = some (z0, s0) → G M_M_start (QE g_S J z0 s0) (g_S, 0, 0) (J s) 115 [some (.ref 49), some (gi l1), some (gi l2), some (gi l3), none, none] [])  {l1 l2 l3 l5 : Int} {s : gS} (h : M_start_86 k86 k115 l1 l2 l3 l5 s = some (z0, s0)) : G M_M_start (QE g_S J z0 s0) (g_S, 0, 0) (J s) 86 [some (.ref 49), some (gi l1), some (gi l2), some (gi l3), none, some (gi l5)] [] := by
  unfold M_start_86 at h
  refine G_iload (g_da dt_M_start 48 rfl) rfl ?_
  refine G_aload_n (g_da dt_M_start 49 rfl) rfl rfl ?_
  refine H_getI (g_da dt_M_start 50 rfl) sh_49 fl_15_120 rfl (hJm 49 rfl) ?_
  refine G_icmp_ge (g_da dt_M_start 51 rfl) rfl rfl rfl (fun hc17 => ?_) (fun hc17 => ?_)
  · have h := o_t hc17 h
    exact G_subK (hk115 _ _ _ _ h) ⟨rfl, ⟨rfl, ⟨rfl, ⟨rfl, trivial⟩⟩⟩⟩
  · have h := o_f hc17 h
    refine G_aload_n (g_da dt_M_start 52 rfl) rfl rfl ?_
    refine G_getR (g_da dt_M_start 53 rfl) sh_49 fl_15_13 rfl ?_
    refine G_iload (g_da dt_M_start 54 rfl) rfl ?_
    refine G_aload_n (g_da dt_M_start 55 rfl) rfl rfl ?_
    refine G_getR (g_da dt_M_start 56 rfl) sh_49 fl_15_7 rfl ?_
    refine G_iload (g_da dt_M_start 57 rfl) rfl ?_
    obtain ⟨hb18, h⟩ := o_g h
    refine H_iaload (g_da dt_M_start 58 rfl) sh_50 (hJm 50 rfl) rfl hb18 rfl ?_
    obtain ⟨hb19, h⟩ := o_g h
    refine H_iastore (g_da dt_M_start 59 rfl) sh_51 (hJm 51 rfl) rfl hb19 rfl (fun s20 e21 => ?_)
    have h := o_l h s20 e21
    refine G_iinc (lv' := [_, _, _, _, none, _]) (g_da dt_M_start 60 rfl) rfl (Nat.le_of_ble_eq_true rfl) rfl rfl ?_
    refine G_goto (g_da dt_M_start 61 rfl) rfl ?_
    exact G_subK (hk86 _ _ _ _ _ h) ⟨rfl, ⟨rfl, ⟨rfl, ⟨rfl, ⟨rfl, trivial⟩⟩⟩⟩⟩
set_option maxHeartbeats 4000000 in
set_option maxRecDepth 100000 in
theorem M_start_86L_ok {J : gS → gS} (hJm : g_jm J) {z0 : Int} {s0 : gS} {k115 : Int → Int → Int → gS → gA} (hk115 : ∀ (l1 l2 l3 : Int) (s : gS), k115 l1 l2 l3 s = some (z0, s0) → G M_M_start (QE g_S J z0 s0) (g_S, 0, 0) (J s) 115 [some (.ref 49), some (gi l1), some (gi l2), some (gi l3), none, none] []) : ∀ (n : Nat) {l1 l2 l3 l5 : Int} {s : gS}, M_start_86L k115 n l1 l2 l3 l5 s = some (z0, s0) → G M_M_start (QE g_S J z0 s0) (g_S, 0, 0) (J s) 86 [some (.ref 49), some (gi l1), some (gi l2), some (gi l3), none, some (gi l5)] [] := by
  intro n
  induction n with
  | zero => intro _ _ _ _ _ h; cases h
  | succ n ih => intro _ _ _ _ _ h; exact M_start_86_ok hJm (fun _ _ _ _ _ h => ih h) hk115 h
set_option maxHeartbeats 4000000 in
set_option maxRecDepth 100000 in
theorem M_start_183_ok {J : gS → gS} (hJm : g_jm J) {z0 : Int} {s0 : gS} {k183 : Int → gS → gA} {k204 : gS → gA} (hk183 : ∀ (l5 : Int) (s : gS), k183 l5 s = some (z0, s0) → G M_M_start (QE g_S J z0 s0) (g_S, 0, 0) (J s) 183 [some (.ref 49), none, none, none, none, some (gi l5)] []) (hk204 : ∀ (s : gS), k204 s = some (z0, s0) → G M_M_start (QE g_S J z0 s0) (g_S, 0, 0) (J s) 204 [some (.ref 49), none, none, none, none, none] [])  {l5 : Int} {s : gS} (h : M_start_183 k183 k204 l5 s = some (z0, s0)) : G M_M_start (QE g_S J z0 s0) (g_S, 0, 0) (J s) 183 [some (.ref 49), none, none, none, none, some (gi l5)] [] := by
  unfold M_start_183 at h
  refine G_iload (g_da dt_M_start 103 rfl) rfl ?_
  refine G_bipush (g_da dt_M_start 104 rfl) b8w_26 ?_
  refine G_icmp_ge (g_da dt_M_start 105 rfl) rfl rfl w_26 (fun hc49 => ?_) (fun hc49 => ?_)
  · have h := o_t hc49 h
    exact G_subK (hk204 _ h) ⟨rfl, trivial⟩
  · have h := o_f hc49 h
    refine G_aload_n (g_da dt_M_start 106 rfl) rfl rfl ?_
    refine G_getR (g_da dt_M_start 107 rfl) sh_49 fl_15_19 rfl ?_
    refine G_iload (g_da dt_M_start 108 rfl) rfl ?_
    refine G_iconst (g_da dt_M_start 109 rfl) ?_
    obtain ⟨hb50, h⟩ := o_g h
    refine H_iastore (g_da dt_M_start 110 rfl) sh_53 (hJm 53 rfl) rfl hb50 rfl (fun s51 e52 => ?_)
    have h := o_l h s51 e52
    refine G_iinc (lv' := [_, none, none, none, none, _]) (g_da dt_M_start 111 rfl) rfl (Nat.le_of_ble_eq_true rfl) rfl rfl ?_
    refine G_goto (g_da dt_M_start 112 rfl) rfl ?_
    exact G_subK (hk183 _ _ h) ⟨rfl, ⟨rfl, trivial⟩⟩
set_option maxHeartbeats 4000000 in
set_option maxRecDepth 100000 in
theorem M_start_183L_ok {J : gS → gS} (hJm : g_jm J) {z0 : Int} {s0 : gS} {k204 : gS → gA} (hk204 : ∀ (s : gS), k204 s = some (z0, s0) → G M_M_start (QE g_S J z0 s0) (g_S, 0, 0) (J s) 204 [some (.ref 49), none, none, none, none, none] []) : ∀ (n : Nat) {l5 : Int} {s : gS}, M_start_183L k204 n l5 s = some (z0, s0) → G M_M_start (QE g_S J z0 s0) (g_S, 0, 0) (J s) 183 [some (.ref 49), none, none, none, none, some (gi l5)] [] := by
  intro n
  induction n with
  | zero => intro _ _ h; cases h
  | succ n ih => intro _ _ h; exact M_start_183_ok hJm (fun _ _ h => ih h) hk204 h
set_option maxHeartbeats 4000000 in
set_option maxRecDepth 100000 in
theorem M_start_249_ok {J : gS → gS} (hJm : g_jm J) {z0 : Int} {s0 : gS} {k249 : Int → gS → gA} (hk249 : ∀ (l5 : Int) (s : gS), k249 l5 s = some (z0, s0) → G M_M_start (QE g_S J z0 s0) (g_S, 0, 0) (J s) 249 [some (.ref 49), none, none, none, none, some (gi l5)] [])  {l5 : Int} {s : gS} (h : M_start_249 k249 l5 s = some (z0, s0)) : G M_M_start (QE g_S J z0 s0) (g_S, 0, 0) (J s) 249 [some (.ref 49), none, none, none, none, some (gi l5)] [] := by
  unfold M_start_249 at h
  refine G_iload (g_da dt_M_start 142 rfl) rfl ?_
  refine G_sipush (g_da dt_M_start 143 rfl) s16w_3072 ?_
  refine G_icmp_ge (g_da dt_M_start 144 rfl) rfl rfl w_3072 (fun hc66 => ?_) (fun hc66 => ?_)
  · have h := o_t hc66 h
    refine G_aload_n (g_da dt_M_start 159 rfl) rfl rfl ?_
    refine G_iconst (g_da dt_M_start 160 rfl) ?_
    refine H_putI (g_da dt_M_start 161 rfl) sh_49 fp_15_157 rfl (hJm 49 rfl) (fun s67 e68 => ?_)
    have h := o_l h s67 e68
    refine G_aload_n (g_da dt_M_start 162 rfl) rfl rfl ?_
    refine G_iconst (g_da dt_M_start 163 rfl) ?_
    refine G_aload_n (g_da dt_M_start 164 rfl) rfl rfl ?_
    refine H_getI (g_da dt_M_start 165 rfl) sh_49 fl_15_120 rfl (hJm 49 rfl) ?_
    refine G_iconst (g_da dt_M_start 166 rfl) ?_
    obtain ⟨r69, s70, hc71, h⟩ := o_b h
    refine H_cVG (M_enter_ok hJm hc71) (g_da dt_M_start 167 rfl) lk_15_160 mv_M_enter rfl sh_49 rfl rfl rfl rfl rfl rfl ?_
    refine G_iconst (g_da dt_M_start 168 rfl) ?_
    exact G_ireturn (g_da dt_M_start 169 rfl) rfl rfl rfl (g_nz rfl) (q_e h)
  · have h := o_f hc66 h
    refine G_aload_n (g_da dt_M_start 145 rfl) rfl rfl ?_
    refine G_getR (g_da dt_M_start 146 rfl) sh_49 fl_15_50 rfl ?_
    refine G_iload (g_da dt_M_start 147 rfl) rfl ?_
    refine G_iconst (g_da dt_M_start 148 rfl) ?_
    obtain ⟨hb72, h⟩ := o_g h
    refine H_zastore (g_da dt_M_start 149 rfl) sh_63 (hJm 63 rfl) rfl hb72 rfl (fun s73 e74 => ?_)
    have h := o_l h s73 e74
    refine G_aload_n (g_da dt_M_start 150 rfl) rfl rfl ?_
    refine G_getR (g_da dt_M_start 151 rfl) sh_49 fl_15_53 rfl ?_
    refine G_sipush (g_da dt_M_start 152 rfl) s16w_24576 ?_
    refine G_iload (g_da dt_M_start 153 rfl) rfl ?_
    refine G_iadd (g_da dt_M_start 154 rfl) ?_
    refine G_iconst (g_da dt_M_start 155 rfl) ?_
    obtain ⟨hb75, h⟩ := o_g h
    refine H_zastore (g_da dt_M_start 156 rfl) sh_64 (hJm 64 rfl) rfl hb75 rfl (fun s76 e77 => ?_)
    have h := o_l h s76 e77
    refine G_iinc (lv' := [_, none, none, none, none, _]) (g_da dt_M_start 157 rfl) rfl (Nat.le_of_ble_eq_true rfl) rfl rfl ?_
    refine G_goto (g_da dt_M_start 158 rfl) rfl ?_
    exact G_subK (hk249 _ _ h) ⟨rfl, ⟨rfl, trivial⟩⟩
set_option maxHeartbeats 4000000 in
set_option maxRecDepth 100000 in
theorem M_start_249L_ok {J : gS → gS} (hJm : g_jm J) {z0 : Int} {s0 : gS} : ∀ (n : Nat) {l5 : Int} {s : gS}, M_start_249L n l5 s = some (z0, s0) → G M_M_start (QE g_S J z0 s0) (g_S, 0, 0) (J s) 249 [some (.ref 49), none, none, none, none, some (gi l5)] [] := by
  intro n
  induction n with
  | zero => intro _ _ h; cases h
  | succ n ih => intro _ _ h; exact M_start_249_ok hJm (fun _ _ h => ih h) h
set_option maxHeartbeats 4000000 in
set_option maxRecDepth 100000 in
theorem M_start_204_ok {J : gS → gS} (hJm : g_jm J) {z0 : Int} {s0 : gS}  {s : gS} (h : M_start_204 s = some (z0, s0)) : G M_M_start (QE g_S J z0 s0) (g_S, 0, 0) (J s) 204 [some (.ref 49), none, none, none, none, none] [] := by
  unfold M_start_204 at h
  refine G_aload_n (g_da dt_M_start 113 rfl) rfl rfl ?_
  obtain ⟨r53, s54, hc55, h⟩ := o_b h
  refine H_cVG (M_noPath_ok hJm hc55) (g_da dt_M_start 114 rfl) lk_15_154 mv_M_noPath rfl sh_49 rfl rfl rfl rfl rfl rfl ?_
  refine G_aload_n (g_da dt_M_start 115 rfl) rfl rfl ?_
  refine G_getR (g_da dt_M_start 116 rfl) sh_49 fl_15_47 rfl ?_
  refine G_iconst (g_da dt_M_start 117 rfl) ?_
  refine G_bipush (g_da dt_M_start 118 rfl) b8w_16 ?_
  refine H_iastore (g_da dt_M_start 119 rfl) sh_62 (hJm 62 rfl) w_0 ⟨by decide, by decide⟩ rfl (fun s56 e57 => ?_)
  have h := o_l h s56 e57
  refine G_aload_n (g_da dt_M_start 120 rfl) rfl rfl ?_
  refine G_getR (g_da dt_M_start 121 rfl) sh_49 fl_15_47 rfl ?_
  refine G_iconst (g_da dt_M_start 122 rfl) ?_
  refine G_bipush (g_da dt_M_start 123 rfl) b8w_16 ?_
  refine H_iastore (g_da dt_M_start 124 rfl) sh_62 (hJm 62 rfl) w_1 ⟨by decide, by decide⟩ rfl (fun s58 e59 => ?_)
  have h := o_l h s58 e59
  refine G_aload_n (g_da dt_M_start 125 rfl) rfl rfl ?_
  refine G_getR (g_da dt_M_start 126 rfl) sh_49 fl_15_47 rfl ?_
  refine G_iconst (g_da dt_M_start 127 rfl) ?_
  refine G_iconst (g_da dt_M_start 128 rfl) ?_
  refine H_iastore (g_da dt_M_start 129 rfl) sh_62 (hJm 62 rfl) w_2 ⟨by decide, by decide⟩ rfl (fun s60 e61 => ?_)
  have h := o_l h s60 e61
  refine G_aload_n (g_da dt_M_start 130 rfl) rfl rfl ?_
  refine G_getR (g_da dt_M_start 131 rfl) sh_49 fl_15_47 rfl ?_
  refine G_iconst (g_da dt_M_start 132 rfl) ?_
  refine G_iconst (g_da dt_M_start 133 rfl) ?_
  refine H_iastore (g_da dt_M_start 134 rfl) sh_62 (hJm 62 rfl) w_3 ⟨by decide, by decide⟩ rfl (fun s62 e63 => ?_)
  have h := o_l h s62 e63
  refine G_aload_n (g_da dt_M_start 135 rfl) rfl rfl ?_
  refine G_getR (g_da dt_M_start 136 rfl) sh_49 fl_15_47 rfl ?_
  refine G_iconst (g_da dt_M_start 137 rfl) ?_
  refine G_bipush (g_da dt_M_start 138 rfl) b8w_16 ?_
  refine H_iastore (g_da dt_M_start 139 rfl) sh_62 (hJm 62 rfl) w_4 ⟨by decide, by decide⟩ rfl (fun s64 e65 => ?_)
  have h := o_l h s64 e65
  refine G_iconst (g_da dt_M_start 140 rfl) ?_
  refine G_istore (lv' := [_, none, none, none, none, _]) (g_da dt_M_start 141 rfl) (Nat.le_of_ble_eq_true rfl) rfl rfl ?_
  exact G_subK (M_start_249L_ok hJm gFu h) ⟨rfl, ⟨rfl, trivial⟩⟩
set_option maxHeartbeats 4000000 in
set_option maxRecDepth 100000 in
theorem M_start_115_ok {J : gS → gS} (hJm : g_jm J) {z0 : Int} {s0 : gS}  {l1 l2 l3 : Int} {s : gS} (h : M_start_115 l1 l2 l3 s = some (z0, s0)) : G M_M_start (QE g_S J z0 s0) (g_S, 0, 0) (J s) 115 [some (.ref 49), some (gi l1), some (gi l2), some (gi l3), none, none] [] := by
  unfold M_start_115 at h
  refine G_aload_n (g_da dt_M_start 62 rfl) rfl rfl ?_
  refine G_iload_n (g_da dt_M_start 63 rfl) rfl rfl ?_
  refine H_putI (g_da dt_M_start 64 rfl) sh_49 fp_15_123 rfl (hJm 49 rfl) (fun s22 e23 => ?_)
  have h := o_l h s22 e23
  refine G_aload_n (g_da dt_M_start 65 rfl) rfl rfl ?_
  refine G_iload_n (g_da dt_M_start 66 rfl) rfl rfl ?_
  obtain ⟨hz24, h⟩ := o_g h
  refine H_putZ (g_da dt_M_start 67 rfl) sh_49 fp_15_126 rfl (hJm 49 rfl) hz24 (fun s25 e26 => ?_)
  have h := o_l h s25 e26
  refine G_aload_n (g_da dt_M_start 68 rfl) rfl rfl ?_
  refine G_iload_n (g_da dt_M_start 69 rfl) rfl rfl ?_
  refine H_putI (g_da dt_M_start 70 rfl) sh_49 fp_15_130 rfl (hJm 49 rfl) (fun s27 e28 => ?_)
  have h := o_l h s27 e28
  refine G_aload_n (g_da dt_M_start 71 rfl) rfl rfl ?_
  refine G_iconst (g_da dt_M_start 72 rfl) ?_
  refine H_putI (g_da dt_M_start 73 rfl) sh_49 fp_15_107 rfl (hJm 49 rfl) (fun s29 e30 => ?_)
  have h := o_l h s29 e30
  refine G_aload_n (g_da dt_M_start 74 rfl) rfl rfl ?_
  refine G_iconst (g_da dt_M_start 75 rfl) ?_
  refine H_putI (g_da dt_M_start 76 rfl) sh_49 fp_15_133 rfl (hJm 49 rfl) (fun s31 e32 => ?_)
  have h := o_l h s31 e32
  refine G_aload_n (g_da dt_M_start 77 rfl) rfl rfl ?_
  refine G_iconst (g_da dt_M_start 78 rfl) ?_
  refine H_putI (g_da dt_M_start 79 rfl) sh_49 fp_15_136 rfl (hJm 49 rfl) (fun s33 e34 => ?_)
  have h := o_l h s33 e34
  refine G_aload_n (g_da dt_M_start 80 rfl) rfl rfl ?_
  refine G_iconst (g_da dt_M_start 81 rfl) ?_
  refine H_putI (g_da dt_M_start 82 rfl) sh_49 fp_15_139 rfl (hJm 49 rfl) (fun s35 e36 => ?_)
  have h := o_l h s35 e36
  refine G_aload_n (g_da dt_M_start 83 rfl) rfl rfl ?_
  refine G_iconst (g_da dt_M_start 84 rfl) ?_
  refine H_putI (g_da dt_M_start 85 rfl) sh_49 fp_15_142 rfl (hJm 49 rfl) (fun s37 e38 => ?_)
  have h := o_l h s37 e38
  refine G_aload_n (g_da dt_M_start 86 rfl) rfl rfl ?_
  refine G_iconst (g_da dt_M_start 87 rfl) ?_
  refine H_putI (g_da dt_M_start 88 rfl) sh_49 fp_15_145 rfl (hJm 49 rfl) (fun s39 e40 => ?_)
  have h := o_l h s39 e40
  refine G_aload_n (g_da dt_M_start 89 rfl) rfl rfl ?_
  refine G_iconst (g_da dt_M_start 90 rfl) ?_
  refine H_putI (g_da dt_M_start 91 rfl) sh_49 fp_15_148 rfl (hJm 49 rfl) (fun s41 e42 => ?_)
  have h := o_l h s41 e42
  refine G_aload_n (g_da dt_M_start 92 rfl) rfl rfl ?_
  refine G_iconst (g_da dt_M_start 93 rfl) ?_
  refine H_putI (g_da dt_M_start 94 rfl) sh_49 fp_15_151 rfl (hJm 49 rfl) (fun s43 e44 => ?_)
  have h := o_l h s43 e44
  refine G_aload_n (g_da dt_M_start 95 rfl) rfl rfl ?_
  refine G_iconst (g_da dt_M_start 96 rfl) ?_
  refine H_putI (g_da dt_M_start 97 rfl) sh_49 fp_15_113 rfl (hJm 49 rfl) (fun s45 e46 => ?_)
  have h := o_l h s45 e46
  refine G_aload_n (g_da dt_M_start 98 rfl) rfl rfl ?_
  refine G_iconst (g_da dt_M_start 99 rfl) ?_
  refine H_putI (g_da dt_M_start 100 rfl) sh_49 fp_15_110 rfl (hJm 49 rfl) (fun s47 e48 => ?_)
  have h := o_l h s47 e48
  refine G_iconst (g_da dt_M_start 101 rfl) ?_
  refine G_istore (lv' := [_, _, _, _, none, _]) (g_da dt_M_start 102 rfl) (Nat.le_of_ble_eq_true rfl) rfl rfl ?_
  exact G_subK (M_start_183L_ok hJm (fun _ h => M_start_204_ok hJm h) gFu h) ⟨rfl, ⟨rfl, trivial⟩⟩
set_option maxHeartbeats 4000000 in
set_option maxRecDepth 100000 in
theorem M_start_ok {J : gS → gS} (hJm : g_jm J) {z0 : Int} {s0 : gS} {a1 a2 a3 : Int} {s : gS} (h : M_start a1 a2 a3 s = some (z0, s0)) : Ct M_M_start g_S [.ref 49, gi a1, gi a2, gi a3] (J s) (QE g_S J z0 s0) := by
  refine Ct_of [some (.ref 49), some (gi a1), some (gi a2), some (gi a3), none, none] (plainFor_of_name (by decide)) rfl (Nat.le_of_ble_eq_true rfl) rfl (by decide) q_rE ?_
  unfold M_start at h
  refine G_aload_n (g_da dt_M_start 0 rfl) rfl rfl ?_
  refine G_iconst (g_da dt_M_start 1 rfl) ?_
  refine H_putI (g_da dt_M_start 2 rfl) sh_49 fp_15_83 rfl (hJm 49 rfl) (fun s1 e2 => ?_)
  have h := o_l h s1 e2
  refine G_iload_n (g_da dt_M_start 3 rfl) rfl rfl ?_
  refine G_iconst (g_da dt_M_start 4 rfl) ?_
  refine G_icmp_lt (g_da dt_M_start 5 rfl) rfl rfl w_1 (fun hc3 => ?_) (fun hc3 => ?_)
  · have h := o_t hc3 h
    refine G_iconst (g_da dt_M_start 24 rfl) ?_
    exact G_ireturn (g_da dt_M_start 25 rfl) rfl rfl rfl (g_nz rfl) (q_e h)
  · have h := o_f hc3 h
    refine G_iload_n (g_da dt_M_start 6 rfl) rfl rfl ?_
    refine G_iconst (g_da dt_M_start 7 rfl) ?_
    refine G_icmp_gt (g_da dt_M_start 8 rfl) rfl rfl w_4 (fun hc4 => ?_) (fun hc4 => ?_)
    · have h := o_t hc4 h
      refine G_iconst (g_da dt_M_start 24 rfl) ?_
      exact G_ireturn (g_da dt_M_start 25 rfl) rfl rfl rfl (g_nz rfl) (q_e h)
    · have h := o_f hc4 h
      refine G_iload_n (g_da dt_M_start 9 rfl) rfl rfl ?_
      refine G_iconst (g_da dt_M_start 10 rfl) ?_
      refine G_icmp_lt (g_da dt_M_start 11 rfl) rfl rfl w_1 (fun hc5 => ?_) (fun hc5 => ?_)
      · have h := o_t hc5 h
        refine G_iconst (g_da dt_M_start 24 rfl) ?_
        exact G_ireturn (g_da dt_M_start 25 rfl) rfl rfl rfl (g_nz rfl) (q_e h)
      · have h := o_f hc5 h
        refine G_iload_n (g_da dt_M_start 12 rfl) rfl rfl ?_
        refine G_sipush (g_da dt_M_start 13 rfl) s16w_20000 ?_
        refine G_icmp_gt (g_da dt_M_start 14 rfl) rfl rfl w_20000 (fun hc6 => ?_) (fun hc6 => ?_)
        · have h := o_t hc6 h
          refine G_iconst (g_da dt_M_start 24 rfl) ?_
          exact G_ireturn (g_da dt_M_start 25 rfl) rfl rfl rfl (g_nz rfl) (q_e h)
        · have h := o_f hc6 h
          refine G_aload_n (g_da dt_M_start 15 rfl) rfl rfl ?_
          refine H_getI (g_da dt_M_start 16 rfl) sh_49 fl_15_107 rfl (hJm 49 rfl) ?_
          refine G_iconst (g_da dt_M_start 17 rfl) ?_
          refine G_icmp_eq (g_da dt_M_start 18 rfl) rfl rfl w_1 (fun hc7 => ?_) (fun hc7 => ?_)
          · have h := o_t hc7 h
            refine G_iconst (g_da dt_M_start 24 rfl) ?_
            exact G_ireturn (g_da dt_M_start 25 rfl) rfl rfl rfl (g_nz rfl) (q_e h)
          · have h := o_f hc7 h
            refine G_aload_n (g_da dt_M_start 19 rfl) rfl rfl ?_
            refine H_getI (g_da dt_M_start 20 rfl) sh_49 fl_15_110 rfl (hJm 49 rfl) ?_
            refine G_aload_n (g_da dt_M_start 21 rfl) rfl rfl ?_
            refine H_getI (g_da dt_M_start 22 rfl) sh_49 fl_15_113 rfl (hJm 49 rfl) ?_
            refine G_icmp_ge (g_da dt_M_start 23 rfl) rfl rfl rfl (fun hc8 => ?_) (fun hc8 => ?_)
            · have h := o_t hc8 h
              refine G_aload_n (g_da dt_M_start 26 rfl) rfl rfl ?_
              obtain ⟨r9, s10, hc11, h⟩ := o_b h
              refine H_cVE (M_faultOf_ok hJm hc11) (g_da dt_M_start 27 rfl) lk_15_116 mv_M_faultOf rfl sh_49 rfl rfl rfl rfl rfl rfl ?_
              refine G_istore (lv' := [_, _, _, _, _, none]) (g_da dt_M_start 28 rfl) (Nat.le_of_ble_eq_true rfl) rfl rfl ?_
              refine G_iload (g_da dt_M_start 29 rfl) rfl ?_
              refine G_iconst (g_da dt_M_start 30 rfl) ?_
              refine G_icmp_eq (g_da dt_M_start 31 rfl) rfl rfl w_m1 (fun hc12 => ?_) (fun hc12 => ?_)
              · have h := o_t hc12 h
                refine G_aload_n (g_da dt_M_start 39 rfl) rfl rfl ?_
                refine G_aload_n (g_da dt_M_start 40 rfl) rfl rfl ?_
                refine H_getI (g_da dt_M_start 41 rfl) sh_49 fl_15_87 rfl (hJm 49 rfl) ?_
                refine H_putI (g_da dt_M_start 42 rfl) sh_49 fp_15_120 rfl (hJm 49 rfl) (fun s13 e14 => ?_)
                have h := o_l h s13 e14
                refine G_aload_n (g_da dt_M_start 43 rfl) rfl rfl ?_
                refine G_iconst (g_da dt_M_start 44 rfl) ?_
                refine H_putI (g_da dt_M_start 45 rfl) sh_49 fp_15_87 rfl (hJm 49 rfl) (fun s15 e16 => ?_)
                have h := o_l h s15 e16
                refine G_iconst (g_da dt_M_start 46 rfl) ?_
                refine G_istore (lv' := [_, _, _, _, _, _]) (g_da dt_M_start 47 rfl) (Nat.le_of_ble_eq_true rfl) rfl rfl ?_
                exact G_subK (M_start_86L_ok hJm (fun _ _ _ _ h => M_start_115_ok hJm h) gFu h) ⟨rfl, ⟨rfl, ⟨rfl, ⟨rfl, ⟨rfl, trivial⟩⟩⟩⟩⟩
              · have h := o_f hc12 h
                refine G_aload_n (g_da dt_M_start 32 rfl) rfl rfl ?_
                refine G_iconst (g_da dt_M_start 33 rfl) ?_
                refine H_putI (g_da dt_M_start 34 rfl) sh_49 fp_15_87 rfl (hJm 49 rfl) (fun s78 e79 => ?_)
                have h := o_l h s78 e79
                refine G_iconst (g_da dt_M_start 35 rfl) ?_
                refine G_iload (g_da dt_M_start 36 rfl) rfl ?_
                refine G_iadd (g_da dt_M_start 37 rfl) ?_
                exact G_ireturn (g_da dt_M_start 38 rfl) rfl rfl rfl (g_nz rfl) (q_e h)
            · have h := o_f hc8 h
              refine G_iconst (g_da dt_M_start 24 rfl) ?_
              exact G_ireturn (g_da dt_M_start 25 rfl) rfl rfl rfl (g_nz rfl) (q_e h)
set_option maxHeartbeats 4000000 in
set_option maxRecDepth 100000 in
theorem M_stick_ok {J : gS → gS} (hJm : g_jm J) {z0 : Int} {s0 : gS} {a1 a2 : Int} {s : gS} (h : M_stick a1 a2 s = some (z0, s0)) : Ct M_M_stick g_S [.ref 49, gi a1, gi a2] (J s) (QE g_S J z0 s0) := by
  refine Ct_of [some (.ref 49), some (gi a1), some (gi a2)] (plainFor_of_name (by decide)) rfl (Nat.le_of_ble_eq_true rfl) rfl (by decide) q_rE ?_
  unfold M_stick at h
  refine G_aload_n (g_da dt_M_stick 0 rfl) rfl rfl ?_
  refine G_iconst (g_da dt_M_stick 1 rfl) ?_
  refine H_putI (g_da dt_M_stick 2 rfl) sh_49 fp_15_83 rfl (hJm 49 rfl) (fun s1 e2 => ?_)
  have h := o_l h s1 e2
  refine G_iload_n (g_da dt_M_stick 3 rfl) rfl rfl ?_
  obtain ⟨r3, s4, hc5, h⟩ := o_b h
  refine H_cSE (M_isSection_ok hc5) (g_da dt_M_stick 4 rfl) lk_15_375 ms_M_isSection rfl rfl rfl rfl rfl rfl ?_
  refine G_if_ne (g_da dt_M_stick 5 rfl) rfl rfl  (fun hc6 => ?_) (fun hc6 => ?_)
  · have h := o_f hc6 h
    refine G_aload_n (g_da dt_M_stick 8 rfl) rfl rfl ?_
    refine G_getR (g_da dt_M_stick 9 rfl) sh_49 fl_15_74 rfl ?_
    refine G_iload_n (g_da dt_M_stick 10 rfl) rfl rfl ?_
    refine G_iload_n (g_da dt_M_stick 11 rfl) rfl rfl ?_
    obtain ⟨hb7, h⟩ := o_g h
    refine H_zastore (g_da dt_M_stick 12 rfl) sh_71 (hJm 71 rfl) rfl hb7 rfl (fun s8 e9 => ?_)
    have h := o_l h s8 e9
    refine G_iconst (g_da dt_M_stick 13 rfl) ?_
    exact G_ireturn (g_da dt_M_stick 14 rfl) rfl (g_bool (Or.inr w_1)).1 rfl (g_nz rfl) (q_e h)
  · have h := o_t hc6 h
    refine G_iconst (g_da dt_M_stick 6 rfl) ?_
    exact G_ireturn (g_da dt_M_stick 7 rfl) rfl (g_bool (Or.inl w_0)).1 rfl (g_nz rfl) (q_e h)
set_option maxHeartbeats 4000000 in
set_option maxRecDepth 100000 in
theorem M_take_38_ok {J : gS → gS} (hJm : g_jm J) {z0 : Int} {s0 : gS}  {l1 : Int} {s : gS} (h : M_take_38 l1 s = some (z0, s0)) : G M_M_take (QE g_S J z0 s0) (g_S, 0, 0) (J s) 38 [some (.ref 49), some (gi l1)] [] := by
  unfold M_take_38 at h
  refine G_aload_n (g_da dt_M_take 20 rfl) rfl rfl ?_
  refine G_iload_n (g_da dt_M_take 21 rfl) rfl rfl ?_
  obtain ⟨r10, s11, hc12, h⟩ := o_b h
  refine H_cVG (M_empty_ok hJm hc12) (g_da dt_M_take 22 rfl) lk_15_333 mv_M_empty rfl sh_49 rfl rfl rfl rfl rfl rfl ?_
  refine G_iconst (g_da dt_M_take 23 rfl) ?_
  exact G_ireturn (g_da dt_M_take 24 rfl) rfl (g_bool (Or.inr w_1)).1 rfl (g_nz rfl) (q_e h)
set_option maxHeartbeats 4000000 in
set_option maxRecDepth 100000 in
theorem M_take_ok {J : gS → gS} (hJm : g_jm J) {z0 : Int} {s0 : gS} {a1 : Int} {s : gS} (h : M_take a1 s = some (z0, s0)) : Ct M_M_take g_S [.ref 49, gi a1] (J s) (QE g_S J z0 s0) := by
  refine Ct_of [some (.ref 49), some (gi a1)] (plainFor_of_name (by decide)) rfl (Nat.le_of_ble_eq_true rfl) rfl (by decide) q_rE ?_
  unfold M_take at h
  refine G_aload_n (g_da dt_M_take 0 rfl) rfl rfl ?_
  refine G_iconst (g_da dt_M_take 1 rfl) ?_
  refine H_putI (g_da dt_M_take 2 rfl) sh_49 fp_15_83 rfl (hJm 49 rfl) (fun s1 e2 => ?_)
  have h := o_l h s1 e2
  refine G_iload_n (g_da dt_M_take 3 rfl) rfl rfl ?_
  obtain ⟨r3, s4, hc5, h⟩ := o_b h
  refine H_cSE (M_isSection_ok hc5) (g_da dt_M_take 4 rfl) lk_15_375 ms_M_isSection rfl rfl rfl rfl rfl rfl ?_
  refine G_if_eq (g_da dt_M_take 5 rfl) rfl rfl  (fun hc6 => ?_) (fun hc6 => ?_)
  · have h := o_t hc6 h
    refine G_iconst (g_da dt_M_take 18 rfl) ?_
    exact G_ireturn (g_da dt_M_take 19 rfl) rfl (g_bool (Or.inl w_0)).1 rfl (g_nz rfl) (q_e h)
  · have h := o_f hc6 h
    refine G_aload_n (g_da dt_M_take 6 rfl) rfl rfl ?_
    refine G_getR (g_da dt_M_take 7 rfl) sh_49 fl_15_62 rfl ?_
    refine G_iload_n (g_da dt_M_take 8 rfl) rfl rfl ?_
    obtain ⟨hb7, h⟩ := o_g h
    refine H_iaload (g_da dt_M_take 9 rfl) sh_67 (hJm 67 rfl) rfl hb7 rfl ?_
    refine G_iconst (g_da dt_M_take 10 rfl) ?_
    refine G_icmp_eq (g_da dt_M_take 11 rfl) rfl rfl w_m1 (fun hc8 => ?_) (fun hc8 => ?_)
    · have h := o_t hc8 h
      refine G_iconst (g_da dt_M_take 18 rfl) ?_
      exact G_ireturn (g_da dt_M_take 19 rfl) rfl (g_bool (Or.inl w_0)).1 rfl (g_nz rfl) (q_e h)
    · have h := o_f hc8 h
      refine G_aload_n (g_da dt_M_take 12 rfl) rfl rfl ?_
      refine H_getI (g_da dt_M_take 13 rfl) sh_49 fl_15_354 rfl (hJm 49 rfl) ?_
      refine G_if_ne (g_da dt_M_take 14 rfl) rfl rfl  (fun hc9 => ?_) (fun hc9 => ?_)
      · have h := o_f hc9 h
        exact G_subK (M_take_38_ok hJm h) ⟨rfl, ⟨rfl, trivial⟩⟩
      · have h := o_t hc9 h
        refine G_aload_n (g_da dt_M_take 15 rfl) rfl rfl ?_
        refine H_getI (g_da dt_M_take 16 rfl) sh_49 fl_15_357 rfl (hJm 49 rfl) ?_
        refine G_if_ne (g_da dt_M_take 17 rfl) rfl rfl  (fun hc13 => ?_) (fun hc13 => ?_)
        · have h := o_f hc13 h
          exact G_subK (M_take_38_ok hJm h) ⟨rfl, ⟨rfl, trivial⟩⟩
        · have h := o_t hc13 h
          refine G_iconst (g_da dt_M_take 18 rfl) ?_
          exact G_ireturn (g_da dt_M_take 19 rfl) rfl (g_bool (Or.inl w_0)).1 rfl (g_nz rfl) (q_e h)
set_option maxHeartbeats 4000000 in
set_option maxRecDepth 100000 in
theorem M_thrown_ok {J : gS → gS} (hJm : g_jm J) {z0 : Int} {s0 : gS} {s : gS} (h : M_thrown s = some (z0, s0)) : Ct M_M_thrown g_S [.ref 49] (J s) (QE g_S J z0 s0) := by
  refine Ct_of [some (.ref 49)] (plainFor_of_name (by decide)) rfl (Nat.le_of_ble_eq_true rfl) rfl (by decide) q_rE ?_
  unfold M_thrown at h
  refine G_aload_n (g_da dt_M_thrown 0 rfl) rfl rfl ?_
  refine H_getI (g_da dt_M_thrown 1 rfl) sh_49 fl_15_83 rfl (hJm 49 rfl) ?_
  exact G_ireturn (g_da dt_M_thrown 2 rfl) rfl rfl rfl (g_nz rfl) (q_e h)
set_option maxHeartbeats 4000000 in
set_option maxRecDepth 100000 in
theorem M_turn_153_ok {J : gS → gS} (hJm : g_jm J) {z0 : Int} {s0 : gS}  {t1 t2 : Int} {s : gS} (h : M_turn_153 t1 t2 s = some (z0, s0)) : G M_M_turn (QE g_S J z0 s0) (g_S, 0, 0) (J s) 153 [none, none] [gi t2, gi t1, .ref 49] := by
  unfold M_turn_153 at h
  obtain ⟨r10, s11, hc12, h⟩ := o_b h
  refine H_cVG (M_shift_ok hJm hc12) (g_da dt_M_turn 97 rfl) lk_15_339 mv_M_shift rfl sh_49 rfl rfl rfl rfl rfl rfl ?_
  refine G_iconst (g_da dt_M_turn 98 rfl) ?_
  exact G_ireturn (g_da dt_M_turn 99 rfl) rfl (g_bool (Or.inl w_0)).1 rfl (g_nz rfl) (q_e h)
set_option maxHeartbeats 4000000 in
set_option maxRecDepth 100000 in
theorem M_turn_139_ok {J : gS → gS} (hJm : g_jm J) {z0 : Int} {s0 : gS}  {l1 : Int} {s : gS} (h : M_turn_139 l1 s = some (z0, s0)) : G M_M_turn (QE g_S J z0 s0) (g_S, 0, 0) (J s) 139 [some (.ref 49), some (gi l1)] [] := by
  unfold M_turn_139 at h
  refine G_aload_n (g_da dt_M_turn 87 rfl) rfl rfl ?_
  refine G_iload_n (g_da dt_M_turn 88 rfl) rfl rfl ?_
  refine G_iload_n (g_da dt_M_turn 89 rfl) rfl rfl ?_
  refine G_iconst (g_da dt_M_turn 90 rfl) ?_
  refine G_icmp_ne (g_da dt_M_turn 91 rfl) rfl rfl w_3 (fun hc9 => ?_) (fun hc9 => ?_)
  · have h := o_f hc9 h
    refine G_iload_n (g_da dt_M_turn 94 rfl) rfl rfl ?_
    refine G_iconst (g_da dt_M_turn 95 rfl) ?_
    refine G_iadd (g_da dt_M_turn 96 rfl) ?_
    exact G_subK (M_turn_153_ok hJm h) trivial
  · have h := o_t hc9 h
    refine G_iconst (g_da dt_M_turn 92 rfl) ?_
    refine G_goto (g_da dt_M_turn 93 rfl) rfl ?_
    exact G_subK (M_turn_153_ok hJm h) trivial
set_option maxHeartbeats 4000000 in
set_option maxRecDepth 100000 in
theorem M_turn_76_ok {J : gS → gS} (hJm : g_jm J) {z0 : Int} {s0 : gS}  {l1 : Int} {s : gS} (h : M_turn_76 l1 s = some (z0, s0)) : G M_M_turn (QE g_S J z0 s0) (g_S, 0, 0) (J s) 76 [some (.ref 49), some (gi l1)] [] := by
  unfold M_turn_76 at h
  refine G_iload_n (g_da dt_M_turn 50 rfl) rfl rfl ?_
  refine G_iconst (g_da dt_M_turn 51 rfl) ?_
  refine G_icmp_ne (g_da dt_M_turn 52 rfl) rfl rfl w_2 (fun hc8 => ?_) (fun hc8 => ?_)
  · have h := o_f hc8 h
    exact G_subK (M_turn_139_ok hJm h) ⟨rfl, ⟨rfl, trivial⟩⟩
  · have h := o_t hc8 h
    refine G_aload_n (g_da dt_M_turn 53 rfl) rfl rfl ?_
    refine G_getR (g_da dt_M_turn 54 rfl) sh_49 fl_15_65 rfl ?_
    refine G_iconst (g_da dt_M_turn 55 rfl) ?_
    refine H_iaload (g_da dt_M_turn 56 rfl) sh_68 (hJm 68 rfl) w_2 ⟨by decide, by decide⟩ rfl ?_
    refine G_aload_n (g_da dt_M_turn 57 rfl) rfl rfl ?_
    obtain ⟨r13, s14, hc15, h⟩ := o_b h
    refine H_cVE (M_sidesOf_ok hJm hc15) (g_da dt_M_turn 58 rfl) lk_15_330 mv_M_sidesOf rfl sh_49 rfl rfl rfl rfl rfl rfl ?_
    refine G_icmp_ne (g_da dt_M_turn 59 rfl) rfl rfl rfl (fun hc16 => ?_) (fun hc16 => ?_)
    · have h := o_f hc16 h
      exact G_subK (M_turn_139_ok hJm h) ⟨rfl, ⟨rfl, trivial⟩⟩
    · have h := o_t hc16 h
      refine G_aload_n (g_da dt_M_turn 60 rfl) rfl rfl ?_
      refine G_getR (g_da dt_M_turn 61 rfl) sh_49 fl_15_71 rfl ?_
      refine G_aload_n (g_da dt_M_turn 62 rfl) rfl rfl ?_
      refine H_getI (g_da dt_M_turn 63 rfl) sh_49 fl_15_110 rfl (hJm 49 rfl) ?_
      refine G_aload_n (g_da dt_M_turn 64 rfl) rfl rfl ?_
      refine G_getR (g_da dt_M_turn 65 rfl) sh_49 fl_15_62 rfl ?_
      refine G_iconst (g_da dt_M_turn 66 rfl) ?_
      refine H_iaload (g_da dt_M_turn 67 rfl) sh_67 (hJm 67 rfl) w_2 ⟨by decide, by decide⟩ rfl ?_
      obtain ⟨hb17, h⟩ := o_g h
      refine H_iastore (g_da dt_M_turn 68 rfl) sh_70 (hJm 70 rfl) rfl hb17 rfl (fun s18 e19 => ?_)
      have h := o_l h s18 e19
      refine G_aload_n (g_da dt_M_turn 69 rfl) rfl rfl ?_
      refine G_getR (g_da dt_M_turn 70 rfl) sh_49 fl_15_80 rfl ?_
      refine G_aload_n (g_da dt_M_turn 71 rfl) rfl rfl ?_
      refine G_getR (g_da dt_M_turn 72 rfl) sh_49 fl_15_62 rfl ?_
      refine G_iconst (g_da dt_M_turn 73 rfl) ?_
      refine H_iaload (g_da dt_M_turn 74 rfl) sh_67 (hJm 67 rfl) w_2 ⟨by decide, by decide⟩ rfl ?_
      refine G_iconst (g_da dt_M_turn 75 rfl) ?_
      obtain ⟨hb20, h⟩ := o_g h
      refine H_zastore (g_da dt_M_turn 76 rfl) sh_73 (hJm 73 rfl) rfl hb20 rfl (fun s21 e22 => ?_)
      have h := o_l h s21 e22
      refine G_aload_n (g_da dt_M_turn 77 rfl) rfl rfl ?_
      refine G_dup (g_da dt_M_turn 78 rfl) rfl ?_
      refine H_getI (g_da dt_M_turn 79 rfl) sh_49 fl_15_110 rfl (hJm 49 rfl) ?_
      refine G_iconst (g_da dt_M_turn 80 rfl) ?_
      refine G_iadd (g_da dt_M_turn 81 rfl) ?_
      refine H_putI (g_da dt_M_turn 82 rfl) sh_49 fp_15_110 rfl (hJm 49 rfl) (fun s23 e24 => ?_)
      have h := o_l h s23 e24
      refine G_aload_n (g_da dt_M_turn 83 rfl) rfl rfl ?_
      refine G_iconst (g_da dt_M_turn 84 rfl) ?_
      obtain ⟨r25, s26, hc27, h⟩ := o_b h
      refine H_cVG (M_empty_ok hJm hc27) (g_da dt_M_turn 85 rfl) lk_15_333 mv_M_empty rfl sh_49 rfl rfl rfl rfl rfl rfl ?_
      refine G_goto (g_da dt_M_turn 86 rfl) rfl ?_
      refine G_iconst (g_da dt_M_turn 98 rfl) ?_
      exact G_ireturn (g_da dt_M_turn 99 rfl) rfl (g_bool (Or.inl w_0)).1 rfl (g_nz rfl) (q_e h)
set_option maxHeartbeats 4000000 in
set_option maxRecDepth 100000 in
theorem M_turn_ok {J : gS → gS} (hJm : g_jm J) {z0 : Int} {s0 : gS} {a1 : Int} {s : gS} (h : M_turn a1 s = some (z0, s0)) : Ct M_M_turn g_S [.ref 49, gi a1] (J s) (QE g_S J z0 s0) := by
  refine Ct_of [some (.ref 49), some (gi a1)] (plainFor_of_name (by decide)) rfl (Nat.le_of_ble_eq_true rfl) rfl (by decide) q_rE ?_
  unfold M_turn at h
  refine G_aload_n (g_da dt_M_turn 0 rfl) rfl rfl ?_
  refine G_iload_n (g_da dt_M_turn 1 rfl) rfl rfl ?_
  obtain ⟨r1, s2, hc3, h⟩ := o_b h
  refine H_cVE (M_goes_ok hJm hc3) (g_da dt_M_turn 2 rfl) lk_15_336 mv_M_goes rfl sh_49 rfl rfl rfl rfl rfl rfl ?_
  refine G_if_ne (g_da dt_M_turn 3 rfl) rfl rfl  (fun hc4 => ?_) (fun hc4 => ?_)
  · have h := o_f hc4 h
    refine G_aload_n (g_da dt_M_turn 16 rfl) rfl rfl ?_
    refine G_getR (g_da dt_M_turn 17 rfl) sh_49 fl_15_74 rfl ?_
    refine G_iload_n (g_da dt_M_turn 18 rfl) rfl rfl ?_
    obtain ⟨hb5, h⟩ := o_g h
    refine H_zaload (g_da dt_M_turn 19 rfl) sh_71 (hJm 71 rfl) rfl hb5 rfl ?_
    refine G_if_eq (g_da dt_M_turn 20 rfl) rfl rfl  (fun hc6 => ?_) (fun hc6 => ?_)
    · have h := o_t hc6 h
      refine G_iload_n (g_da dt_M_turn 39 rfl) rfl rfl ?_
      refine G_iconst (g_da dt_M_turn 40 rfl) ?_
      refine G_icmp_ne (g_da dt_M_turn 41 rfl) rfl rfl w_1 (fun hc7 => ?_) (fun hc7 => ?_)
      · have h := o_f hc7 h
        exact G_subK (M_turn_76_ok hJm h) ⟨rfl, ⟨rfl, trivial⟩⟩
      · have h := o_t hc7 h
        refine G_aload_n (g_da dt_M_turn 42 rfl) rfl rfl ?_
        refine G_getR (g_da dt_M_turn 43 rfl) sh_49 fl_15_65 rfl ?_
        refine G_iconst (g_da dt_M_turn 44 rfl) ?_
        refine G_dup2_11 (g_da dt_M_turn 45 rfl) rfl rfl ?_
        refine H_iaload (g_da dt_M_turn 46 rfl) sh_68 (hJm 68 rfl) w_1 ⟨by decide, by decide⟩ rfl ?_
        refine G_iconst (g_da dt_M_turn 47 rfl) ?_
        refine G_iadd (g_da dt_M_turn 48 rfl) ?_
        refine H_iastore (g_da dt_M_turn 49 rfl) sh_68 (hJm 68 rfl) w_1 ⟨by decide, by decide⟩ rfl (fun s28 e29 => ?_)
        have h := o_l h s28 e29
        exact G_subK (M_turn_76_ok hJm h) ⟨rfl, ⟨rfl, trivial⟩⟩
    · have h := o_f hc6 h
      refine G_aload_n (g_da dt_M_turn 21 rfl) rfl rfl ?_
      refine G_getR (g_da dt_M_turn 22 rfl) sh_49 fl_15_68 rfl ?_
      refine G_iload_n (g_da dt_M_turn 23 rfl) rfl rfl ?_
      refine G_dup2_11 (g_da dt_M_turn 24 rfl) rfl rfl ?_
      obtain ⟨hb30, h⟩ := o_g h
      refine H_iaload (g_da dt_M_turn 25 rfl) sh_69 (hJm 69 rfl) rfl hb30 rfl ?_
      refine G_iconst (g_da dt_M_turn 26 rfl) ?_
      refine G_iadd (g_da dt_M_turn 27 rfl) ?_
      obtain ⟨hb31, h⟩ := o_g h
      refine H_iastore (g_da dt_M_turn 28 rfl) sh_69 (hJm 69 rfl) rfl hb31 rfl (fun s32 e33 => ?_)
      have h := o_l h s32 e33
      refine G_aload_n (g_da dt_M_turn 29 rfl) rfl rfl ?_
      refine G_getR (g_da dt_M_turn 30 rfl) sh_49 fl_15_68 rfl ?_
      refine G_iload_n (g_da dt_M_turn 31 rfl) rfl rfl ?_
      obtain ⟨hb34, h⟩ := o_g h
      refine H_iaload (g_da dt_M_turn 32 rfl) sh_69 (hJm 69 rfl) rfl hb34 rfl ?_
      refine G_iconst (g_da dt_M_turn 33 rfl) ?_
      refine G_icmp_ne (g_da dt_M_turn 34 rfl) rfl rfl w_4 (fun hc35 => ?_) (fun hc35 => ?_)
      · have h := o_f hc35 h
        refine G_iconst (g_da dt_M_turn 37 rfl) ?_
        exact G_ireturn (g_da dt_M_turn 38 rfl) rfl (g_bool (Or.inl w_0)).1 rfl (g_nz rfl) (q_e h)
      · have h := o_t hc35 h
        refine G_iconst (g_da dt_M_turn 35 rfl) ?_
        refine G_goto (g_da dt_M_turn 36 rfl) rfl ?_
        exact G_ireturn (g_da dt_M_turn 38 rfl) rfl (g_bool (Or.inr w_1)).1 rfl (g_nz rfl) (q_e h)
  · have h := o_t hc4 h
    refine G_aload_n (g_da dt_M_turn 4 rfl) rfl rfl ?_
    refine G_getR (g_da dt_M_turn 5 rfl) sh_49 fl_15_77 rfl ?_
    refine G_iload_n (g_da dt_M_turn 6 rfl) rfl rfl ?_
    obtain ⟨hb36, h⟩ := o_g h
    refine H_zaload (g_da dt_M_turn 7 rfl) sh_72 (hJm 72 rfl) rfl hb36 rfl ?_
    refine G_if_ne (g_da dt_M_turn 8 rfl) rfl rfl  (fun hc37 => ?_) (fun hc37 => ?_)
    · have h := o_f hc37 h
      refine G_iconst (g_da dt_M_turn 14 rfl) ?_
      exact G_ireturn (g_da dt_M_turn 15 rfl) rfl (g_bool (Or.inl w_0)).1 rfl (g_nz rfl) (q_e h)
    · have h := o_t hc37 h
      refine G_aload_n (g_da dt_M_turn 9 rfl) rfl rfl ?_
      refine G_getR (g_da dt_M_turn 10 rfl) sh_49 fl_15_68 rfl ?_
      refine G_iload_n (g_da dt_M_turn 11 rfl) rfl rfl ?_
      refine G_iconst (g_da dt_M_turn 12 rfl) ?_
      obtain ⟨hb38, h⟩ := o_g h
      refine H_iastore (g_da dt_M_turn 13 rfl) sh_69 (hJm 69 rfl) rfl hb38 rfl (fun s39 e40 => ?_)
      have h := o_l h s39 e40
      refine G_iconst (g_da dt_M_turn 14 rfl) ?_
      exact G_ireturn (g_da dt_M_turn 15 rfl) rfl (g_bool (Or.inl w_0)).1 rfl (g_nz rfl) (q_e h)
set_option maxHeartbeats 4000000 in
set_option maxRecDepth 100000 in
theorem M_tickOnce_209_ok {J : gS → gS} (hJm : g_jm J) {z0 : Int} {s0 : gS} {k178 : Int → Int → gS → gA} (hk178 : ∀ (l1 l3 : Int) (s : gS), k178 l1 l3 s = some (z0, s0) → G M_M_tickOnce (QG g_S J z0 s0) (g_S, 0, 0) (J s) 178 [some (.ref 49), some (gi l1), none, some (gi l3), none] [])  {l1 l3 t1 t2 : Int} {s : gS} (h : M_tickOnce_209 k178 l1 l3 t1 t2 s = some (z0, s0)) : G M_M_tickOnce (QG g_S J z0 s0) (g_S, 0, 0) (J s) 209 [some (.ref 49), some (gi l1), none, some (gi l3), none] [gi t2, gi t1, .ref 69] := by
  unfold M_tickOnce_209 at h
  obtain ⟨hb18, h⟩ := o_g h
  refine H_iastore (g_da dt_M_tickOnce 112 rfl) sh_69 (hJm 69 rfl) rfl hb18 rfl (fun s19 e20 => ?_)
  have h := o_l h s19 e20
  refine G_iinc (lv' := [_, _, none, _, none]) (g_da dt_M_tickOnce 113 rfl) rfl (Nat.le_of_ble_eq_true rfl) rfl rfl ?_
  refine G_goto (g_da dt_M_tickOnce 114 rfl) rfl ?_
  exact G_subK (hk178 _ _ _ h) ⟨rfl, ⟨rfl, ⟨rfl, trivial⟩⟩⟩
set_option maxHeartbeats 4000000 in
set_option maxRecDepth 100000 in
theorem M_tickOnce_178_ok {J : gS → gS} (hJm : g_jm J) {z0 : Int} {s0 : gS} {k178 : Int → Int → gS → gA} {k216 : Int → gS → gA} (hk178 : ∀ (l1 l3 : Int) (s : gS), k178 l1 l3 s = some (z0, s0) → G M_M_tickOnce (QG g_S J z0 s0) (g_S, 0, 0) (J s) 178 [some (.ref 49), some (gi l1), none, some (gi l3), none] []) (hk216 : ∀ (l1 : Int) (s : gS), k216 l1 s = some (z0, s0) → G M_M_tickOnce (QG g_S J z0 s0) (g_S, 0, 0) (J s) 216 [some (.ref 49), some (gi l1), none, none, none] [])  {l1 l3 : Int} {s : gS} (h : M_tickOnce_178 k178 k216 l1 l3 s = some (z0, s0)) : G M_M_tickOnce (QG g_S J z0 s0) (g_S, 0, 0) (J s) 178 [some (.ref 49), some (gi l1), none, some (gi l3), none] [] := by
  unfold M_tickOnce_178 at h
  refine G_iload_n (g_da dt_M_tickOnce 93 rfl) rfl rfl ?_
  refine G_iconst (g_da dt_M_tickOnce 94 rfl) ?_
  refine G_icmp_ge (g_da dt_M_tickOnce 95 rfl) rfl rfl w_4 (fun hc12 => ?_) (fun hc12 => ?_)
  · have h := o_t hc12 h
    exact G_subK (hk216 _ _ h) ⟨rfl, ⟨rfl, trivial⟩⟩
  · have h := o_f hc12 h
    refine G_aload_n (g_da dt_M_tickOnce 96 rfl) rfl rfl ?_
    refine G_getR (g_da dt_M_tickOnce 97 rfl) sh_49 fl_15_77 rfl ?_
    refine G_iload_n (g_da dt_M_tickOnce 98 rfl) rfl rfl ?_
    refine G_iconst (g_da dt_M_tickOnce 99 rfl) ?_
    obtain ⟨hb13, h⟩ := o_g h
    refine H_zastore (g_da dt_M_tickOnce 100 rfl) sh_72 (hJm 72 rfl) rfl hb13 rfl (fun s14 e15 => ?_)
    have h := o_l h s14 e15
    refine G_aload_n (g_da dt_M_tickOnce 101 rfl) rfl rfl ?_
    refine G_getR (g_da dt_M_tickOnce 102 rfl) sh_49 fl_15_68 rfl ?_
    refine G_iload_n (g_da dt_M_tickOnce 103 rfl) rfl rfl ?_
    refine G_iload_n (g_da dt_M_tickOnce 104 rfl) rfl rfl ?_
    refine G_if_eq (g_da dt_M_tickOnce 105 rfl) rfl rfl  (fun hc16 => ?_) (fun hc16 => ?_)
    · have h := o_t hc16 h
      refine G_aload_n (g_da dt_M_tickOnce 108 rfl) rfl rfl ?_
      refine G_getR (g_da dt_M_tickOnce 109 rfl) sh_49 fl_15_68 rfl ?_
      refine G_iload_n (g_da dt_M_tickOnce 110 rfl) rfl rfl ?_
      obtain ⟨hb17, h⟩ := o_g h
      refine H_iaload (g_da dt_M_tickOnce 111 rfl) sh_69 (hJm 69 rfl) rfl hb17 rfl ?_
      exact G_subK (M_tickOnce_209_ok hJm hk178 h) ⟨rfl, ⟨rfl, ⟨rfl, trivial⟩⟩⟩
    · have h := o_f hc16 h
      refine G_iconst (g_da dt_M_tickOnce 106 rfl) ?_
      refine G_goto (g_da dt_M_tickOnce 107 rfl) rfl ?_
      exact G_subK (M_tickOnce_209_ok hJm hk178 h) ⟨rfl, ⟨rfl, ⟨rfl, trivial⟩⟩⟩
set_option maxHeartbeats 4000000 in
set_option maxRecDepth 100000 in
theorem M_tickOnce_178L_ok {J : gS → gS} (hJm : g_jm J) {z0 : Int} {s0 : gS} {k216 : Int → gS → gA} (hk216 : ∀ (l1 : Int) (s : gS), k216 l1 s = some (z0, s0) → G M_M_tickOnce (QG g_S J z0 s0) (g_S, 0, 0) (J s) 216 [some (.ref 49), some (gi l1), none, none, none] []) : ∀ (n : Nat) {l1 l3 : Int} {s : gS}, M_tickOnce_178L k216 n l1 l3 s = some (z0, s0) → G M_M_tickOnce (QG g_S J z0 s0) (g_S, 0, 0) (J s) 178 [some (.ref 49), some (gi l1), none, some (gi l3), none] [] := by
  intro n
  induction n with
  | zero => intro _ _ _ h; cases h
  | succ n ih => intro _ _ _ h; exact M_tickOnce_178_ok hJm (fun _ _ _ h => ih h) hk216 h
set_option maxHeartbeats 4000000 in
set_option maxRecDepth 100000 in
theorem M_tickOnce_308_ok {J : gS → gS} (hJm : g_jm J) {z0 : Int} {s0 : gS} {k308 : Int → gS → gA} (hk308 : ∀ (l4 : Int) (s : gS), k308 l4 s = some (z0, s0) → G M_M_tickOnce (QG g_S J z0 s0) (g_S, 0, 0) (J s) 308 [some (.ref 49), none, none, none, some (gi l4)] [])  {l4 : Int} {s : gS} (h : M_tickOnce_308 k308 l4 s = some (z0, s0)) : G M_M_tickOnce (QG g_S J z0 s0) (g_S, 0, 0) (J s) 308 [some (.ref 49), none, none, none, some (gi l4)] [] := by
  unfold M_tickOnce_308 at h
  refine G_iload (g_da dt_M_tickOnce 168 rfl) rfl ?_
  refine G_iconst (g_da dt_M_tickOnce 169 rfl) ?_
  refine G_icmp_ge (g_da dt_M_tickOnce 170 rfl) rfl rfl w_4 (fun hc45 => ?_) (fun hc45 => ?_)
  · have h := o_t hc45 h
    exact G_return (g_da dt_M_tickOnce 178 rfl) rfl rfl (g_nz rfl) (q_g h)
  · have h := o_f hc45 h
    refine G_aload_n (g_da dt_M_tickOnce 171 rfl) rfl rfl ?_
    refine G_getR (g_da dt_M_tickOnce 172 rfl) sh_49 fl_15_68 rfl ?_
    refine G_iload (g_da dt_M_tickOnce 173 rfl) rfl ?_
    refine G_iconst (g_da dt_M_tickOnce 174 rfl) ?_
    obtain ⟨hb46, h⟩ := o_g h
    refine H_iastore (g_da dt_M_tickOnce 175 rfl) sh_69 (hJm 69 rfl) rfl hb46 rfl (fun s47 e48 => ?_)
    have h := o_l h s47 e48
    refine G_iinc (lv' := [_, none, none, none, _]) (g_da dt_M_tickOnce 176 rfl) rfl (Nat.le_of_ble_eq_true rfl) rfl rfl ?_
    refine G_goto (g_da dt_M_tickOnce 177 rfl) rfl ?_
    exact G_subK (hk308 _ _ h) ⟨rfl, ⟨rfl, trivial⟩⟩
set_option maxHeartbeats 4000000 in
set_option maxRecDepth 100000 in
theorem M_tickOnce_308L_ok {J : gS → gS} (hJm : g_jm J) {z0 : Int} {s0 : gS} : ∀ (n : Nat) {l4 : Int} {s : gS}, M_tickOnce_308L n l4 s = some (z0, s0) → G M_M_tickOnce (QG g_S J z0 s0) (g_S, 0, 0) (J s) 308 [some (.ref 49), none, none, none, some (gi l4)] [] := by
  intro n
  induction n with
  | zero => intro _ _ h; cases h
  | succ n ih => intro _ _ h; exact M_tickOnce_308_ok hJm (fun _ _ h => ih h) h
set_option maxHeartbeats 4000000 in
set_option maxRecDepth 100000 in
theorem M_tickOnce_280_ok {J : gS → gS} (hJm : g_jm J) {z0 : Int} {s0 : gS}  {t0 : Int} {s : gS} (h : M_tickOnce_280 t0 s = some (z0, s0)) : G M_M_tickOnce (QG g_S J z0 s0) (g_S, 0, 0) (J s) 280 [some (.ref 49), none, none, none, none] [gi t0] := by
  unfold M_tickOnce_280 at h
  refine G_istore_n (lv' := [_, none, none, _, none]) (g_da dt_M_tickOnce 151 rfl) rfl (Nat.le_of_ble_eq_true rfl) rfl rfl ?_
  refine G_aload_n (g_da dt_M_tickOnce 152 rfl) rfl rfl ?_
  obtain ⟨r37, s38, hc39, h⟩ := o_b h
  refine H_cVG (M_feed_ok hJm hc39) (g_da dt_M_tickOnce 153 rfl) lk_15_363 mv_M_feed rfl sh_49 rfl rfl rfl rfl rfl rfl ?_
  refine G_iload_n (g_da dt_M_tickOnce 154 rfl) rfl rfl ?_
  refine G_if_ne (g_da dt_M_tickOnce 155 rfl) rfl rfl  (fun hc40 => ?_) (fun hc40 => ?_)
  · have h := o_f hc40 h
    refine G_aload_n (g_da dt_M_tickOnce 157 rfl) rfl rfl ?_
    refine G_iconst (g_da dt_M_tickOnce 158 rfl) ?_
    refine H_putZ (g_da dt_M_tickOnce 159 rfl) sh_49 fp_15_357 rfl (hJm 49 rfl) (Or.inr w_1) (fun s41 e42 => ?_)
    have h := o_l h s41 e42
    refine G_aload_n (g_da dt_M_tickOnce 160 rfl) rfl rfl ?_
    refine G_dup (g_da dt_M_tickOnce 161 rfl) rfl ?_
    refine H_getI (g_da dt_M_tickOnce 162 rfl) sh_49 fl_15_366 rfl (hJm 49 rfl) ?_
    refine G_iconst (g_da dt_M_tickOnce 163 rfl) ?_
    refine G_iadd (g_da dt_M_tickOnce 164 rfl) ?_
    refine H_putI (g_da dt_M_tickOnce 165 rfl) sh_49 fp_15_366 rfl (hJm 49 rfl) (fun s43 e44 => ?_)
    have h := o_l h s43 e44
    refine G_iconst (g_da dt_M_tickOnce 166 rfl) ?_
    refine G_istore (lv' := [_, none, none, _, _]) (g_da dt_M_tickOnce 167 rfl) (Nat.le_of_ble_eq_true rfl) rfl rfl ?_
    exact G_subK (M_tickOnce_308L_ok hJm gFu h) ⟨rfl, ⟨rfl, trivial⟩⟩
  · have h := o_t hc40 h
    exact G_return (g_da dt_M_tickOnce 156 rfl) rfl rfl (g_nz rfl) (q_g h)
set_option maxHeartbeats 4000000 in
set_option maxRecDepth 100000 in
theorem M_tickOnce_275_ok {J : gS → gS} (hJm : g_jm J) {z0 : Int} {s0 : gS}  {s : gS} (h : M_tickOnce_275 s = some (z0, s0)) : G M_M_tickOnce (QG g_S J z0 s0) (g_S, 0, 0) (J s) 275 [some (.ref 49), none, none, none, none] [] := by
  unfold M_tickOnce_275 at h
  refine G_iconst (g_da dt_M_tickOnce 148 rfl) ?_
  refine G_goto (g_da dt_M_tickOnce 149 rfl) rfl ?_
  exact G_subK (M_tickOnce_280_ok hJm h) ⟨rfl, trivial⟩
set_option maxHeartbeats 4000000 in
set_option maxRecDepth 100000 in
theorem M_tickOnce_262_ok {J : gS → gS} (hJm : g_jm J) {z0 : Int} {s0 : gS}  {t0 : Int} {s : gS} (h : M_tickOnce_262 t0 s = some (z0, s0)) : G M_M_tickOnce (QG g_S J z0 s0) (g_S, 0, 0) (J s) 262 [some (.ref 49), none, none, none, none] [gi t0] := by
  unfold M_tickOnce_262 at h
  refine G_istore_n (lv' := [_, none, none, _, none]) (g_da dt_M_tickOnce 141 rfl) rfl (Nat.le_of_ble_eq_true rfl) rfl rfl ?_
  refine G_aload_n (g_da dt_M_tickOnce 142 rfl) rfl rfl ?_
  refine G_iconst (g_da dt_M_tickOnce 143 rfl) ?_
  obtain ⟨r33, s34, hc35, h⟩ := o_b h
  refine H_cVE (M_turn_ok hJm hc35) (g_da dt_M_tickOnce 144 rfl) lk_15_360 mv_M_turn rfl sh_49 rfl rfl rfl rfl rfl rfl ?_
  refine G_if_ne (g_da dt_M_tickOnce 145 rfl) rfl rfl  (fun hc36 => ?_) (fun hc36 => ?_)
  · have h := o_f hc36 h
    exact G_subK (M_tickOnce_275_ok hJm h) ⟨rfl, trivial⟩
  · have h := o_t hc36 h
    refine G_iload_n (g_da dt_M_tickOnce 146 rfl) rfl rfl ?_
    refine G_if_eq (g_da dt_M_tickOnce 147 rfl) rfl rfl  (fun hc49 => ?_) (fun hc49 => ?_)
    · have h := o_t hc49 h
      refine G_iconst (g_da dt_M_tickOnce 150 rfl) ?_
      exact G_subK (M_tickOnce_280_ok hJm h) ⟨rfl, trivial⟩
    · have h := o_f hc49 h
      exact G_subK (M_tickOnce_275_ok hJm h) ⟨rfl, trivial⟩
set_option maxHeartbeats 4000000 in
set_option maxRecDepth 100000 in
theorem M_tickOnce_257_ok {J : gS → gS} (hJm : g_jm J) {z0 : Int} {s0 : gS}  {s : gS} (h : M_tickOnce_257 s = some (z0, s0)) : G M_M_tickOnce (QG g_S J z0 s0) (g_S, 0, 0) (J s) 257 [some (.ref 49), none, none, none, none] [] := by
  unfold M_tickOnce_257 at h
  refine G_iconst (g_da dt_M_tickOnce 138 rfl) ?_
  refine G_goto (g_da dt_M_tickOnce 139 rfl) rfl ?_
  exact G_subK (M_tickOnce_262_ok hJm h) ⟨rfl, trivial⟩
set_option maxHeartbeats 4000000 in
set_option maxRecDepth 100000 in
theorem M_tickOnce_244_ok {J : gS → gS} (hJm : g_jm J) {z0 : Int} {s0 : gS}  {t0 : Int} {s : gS} (h : M_tickOnce_244 t0 s = some (z0, s0)) : G M_M_tickOnce (QG g_S J z0 s0) (g_S, 0, 0) (J s) 244 [some (.ref 49), none, none, none, none] [gi t0] := by
  unfold M_tickOnce_244 at h
  refine G_istore_n (lv' := [_, none, none, _, none]) (g_da dt_M_tickOnce 131 rfl) rfl (Nat.le_of_ble_eq_true rfl) rfl rfl ?_
  refine G_aload_n (g_da dt_M_tickOnce 132 rfl) rfl rfl ?_
  refine G_iconst (g_da dt_M_tickOnce 133 rfl) ?_
  obtain ⟨r29, s30, hc31, h⟩ := o_b h
  refine H_cVE (M_turn_ok hJm hc31) (g_da dt_M_tickOnce 134 rfl) lk_15_360 mv_M_turn rfl sh_49 rfl rfl rfl rfl rfl rfl ?_
  refine G_if_ne (g_da dt_M_tickOnce 135 rfl) rfl rfl  (fun hc32 => ?_) (fun hc32 => ?_)
  · have h := o_f hc32 h
    exact G_subK (M_tickOnce_257_ok hJm h) ⟨rfl, trivial⟩
  · have h := o_t hc32 h
    refine G_iload_n (g_da dt_M_tickOnce 136 rfl) rfl rfl ?_
    refine G_if_eq (g_da dt_M_tickOnce 137 rfl) rfl rfl  (fun hc50 => ?_) (fun hc50 => ?_)
    · have h := o_t hc50 h
      refine G_iconst (g_da dt_M_tickOnce 140 rfl) ?_
      exact G_subK (M_tickOnce_262_ok hJm h) ⟨rfl, trivial⟩
    · have h := o_f hc50 h
      exact G_subK (M_tickOnce_257_ok hJm h) ⟨rfl, trivial⟩
set_option maxHeartbeats 4000000 in
set_option maxRecDepth 100000 in
theorem M_tickOnce_239_ok {J : gS → gS} (hJm : g_jm J) {z0 : Int} {s0 : gS}  {s : gS} (h : M_tickOnce_239 s = some (z0, s0)) : G M_M_tickOnce (QG g_S J z0 s0) (g_S, 0, 0) (J s) 239 [some (.ref 49), none, none, none, none] [] := by
  unfold M_tickOnce_239 at h
  refine G_iconst (g_da dt_M_tickOnce 128 rfl) ?_
  refine G_goto (g_da dt_M_tickOnce 129 rfl) rfl ?_
  exact G_subK (M_tickOnce_244_ok hJm h) ⟨rfl, trivial⟩
set_option maxHeartbeats 4000000 in
set_option maxRecDepth 100000 in
theorem M_tickOnce_216_ok {J : gS → gS} (hJm : g_jm J) {z0 : Int} {s0 : gS}  {l1 : Int} {s : gS} (h : M_tickOnce_216 l1 s = some (z0, s0)) : G M_M_tickOnce (QG g_S J z0 s0) (g_S, 0, 0) (J s) 216 [some (.ref 49), some (gi l1), none, none, none] [] := by
  unfold M_tickOnce_216 at h
  refine G_iload_n (g_da dt_M_tickOnce 115 rfl) rfl rfl ?_
  refine G_if_eq (g_da dt_M_tickOnce 116 rfl) rfl rfl  (fun hc21 => ?_) (fun hc21 => ?_)
  · have h := o_t hc21 h
    refine G_aload_n (g_da dt_M_tickOnce 118 rfl) rfl rfl ?_
    refine G_iconst (g_da dt_M_tickOnce 119 rfl) ?_
    obtain ⟨r22, s23, hc24, h⟩ := o_b h
    refine H_cVE (M_turn_ok hJm hc24) (g_da dt_M_tickOnce 120 rfl) lk_15_360 mv_M_turn rfl sh_49 rfl rfl rfl rfl rfl rfl ?_
    refine G_istore_n (lv' := [_, _, none, _, none]) (g_da dt_M_tickOnce 121 rfl) rfl (Nat.le_of_ble_eq_true rfl) rfl rfl ?_
    refine G_aload_n (g_da dt_M_tickOnce 122 rfl) rfl rfl ?_
    refine G_iconst (g_da dt_M_tickOnce 123 rfl) ?_
    obtain ⟨r25, s26, hc27, h⟩ := o_b h
    refine H_cVE (M_turn_ok hJm hc27) (g_da dt_M_tickOnce 124 rfl) lk_15_360 mv_M_turn rfl sh_49 rfl rfl rfl rfl rfl rfl ?_
    refine G_if_ne (g_da dt_M_tickOnce 125 rfl) rfl rfl  (fun hc28 => ?_) (fun hc28 => ?_)
    · have h := o_f hc28 h
      exact G_subK (M_tickOnce_239_ok hJm h) ⟨rfl, trivial⟩
    · have h := o_t hc28 h
      refine G_iload_n (g_da dt_M_tickOnce 126 rfl) rfl rfl ?_
      refine G_if_eq (g_da dt_M_tickOnce 127 rfl) rfl rfl  (fun hc51 => ?_) (fun hc51 => ?_)
      · have h := o_t hc51 h
        refine G_iconst (g_da dt_M_tickOnce 130 rfl) ?_
        exact G_subK (M_tickOnce_244_ok hJm h) ⟨rfl, trivial⟩
      · have h := o_f hc51 h
        exact G_subK (M_tickOnce_239_ok hJm h) ⟨rfl, trivial⟩
  · have h := o_f hc21 h
    exact G_return (g_da dt_M_tickOnce 117 rfl) rfl rfl (g_nz rfl) (q_g h)
set_option maxHeartbeats 4000000 in
set_option maxRecDepth 100000 in
theorem M_tickOnce_175_ok {J : gS → gS} (hJm : g_jm J) {z0 : Int} {s0 : gS}  {t0 : Int} {s : gS} (h : M_tickOnce_175 t0 s = some (z0, s0)) : G M_M_tickOnce (QG g_S J z0 s0) (g_S, 0, 0) (J s) 175 [some (.ref 49), none, none, none, none] [gi t0] := by
  unfold M_tickOnce_175 at h
  refine G_istore_n (lv' := [_, _, none, none, none]) (g_da dt_M_tickOnce 90 rfl) rfl (Nat.le_of_ble_eq_true rfl) rfl rfl ?_
  refine G_iconst (g_da dt_M_tickOnce 91 rfl) ?_
  refine G_istore_n (lv' := [_, _, none, _, none]) (g_da dt_M_tickOnce 92 rfl) rfl (Nat.le_of_ble_eq_true rfl) rfl rfl ?_
  exact G_subK (M_tickOnce_178L_ok hJm (fun _ _ h => M_tickOnce_216_ok hJm h) gFu h) ⟨rfl, ⟨rfl, ⟨rfl, trivial⟩⟩⟩
set_option maxHeartbeats 4000000 in
set_option maxRecDepth 100000 in
theorem M_tickOnce_170_ok {J : gS → gS} (hJm : g_jm J) {z0 : Int} {s0 : gS}  {s : gS} (h : M_tickOnce_170 s = some (z0, s0)) : G M_M_tickOnce (QG g_S J z0 s0) (g_S, 0, 0) (J s) 170 [some (.ref 49), none, none, none, none] [] := by
  unfold M_tickOnce_170 at h
  refine G_iconst (g_da dt_M_tickOnce 87 rfl) ?_
  refine G_goto (g_da dt_M_tickOnce 88 rfl) rfl ?_
  exact G_subK (M_tickOnce_175_ok hJm h) ⟨rfl, trivial⟩
set_option maxHeartbeats 4000000 in
set_option maxRecDepth 100000 in
theorem M_tickOnce_159_ok {J : gS → gS} (hJm : g_jm J) {z0 : Int} {s0 : gS}  {l1 : Int} {s : gS} (h : M_tickOnce_159 l1 s = some (z0, s0)) : G M_M_tickOnce (QG g_S J z0 s0) (g_S, 0, 0) (J s) 159 [some (.ref 49), some (gi l1), none, none, none] [] := by
  unfold M_tickOnce_159 at h
  refine G_iload_n (g_da dt_M_tickOnce 82 rfl) rfl rfl ?_
  refine G_if_ne (g_da dt_M_tickOnce 83 rfl) rfl rfl  (fun hc11 => ?_) (fun hc11 => ?_)
  · have h := o_f hc11 h
    exact G_subK (M_tickOnce_170_ok hJm h) ⟨rfl, trivial⟩
  · have h := o_t hc11 h
    refine G_aload_n (g_da dt_M_tickOnce 84 rfl) rfl rfl ?_
    refine H_getI (g_da dt_M_tickOnce 85 rfl) sh_49 fl_15_357 rfl (hJm 49 rfl) ?_
    refine G_if_eq (g_da dt_M_tickOnce 86 rfl) rfl rfl  (fun hc52 => ?_) (fun hc52 => ?_)
    · have h := o_t hc52 h
      refine G_iconst (g_da dt_M_tickOnce 89 rfl) ?_
      exact G_subK (M_tickOnce_175_ok hJm h) ⟨rfl, trivial⟩
    · have h := o_f hc52 h
      exact G_subK (M_tickOnce_170_ok hJm h) ⟨rfl, trivial⟩
set_option maxHeartbeats 4000000 in
set_option maxRecDepth 100000 in
theorem M_tickOnce_147_ok {J : gS → gS} (hJm : g_jm J) {z0 : Int} {s0 : gS} {k122 : Int → Int → Int → gS → gA} (hk122 : ∀ (l1 l3 l4 : Int) (s : gS), k122 l1 l3 l4 s = some (z0, s0) → G M_M_tickOnce (QG g_S J z0 s0) (g_S, 0, 0) (J s) 122 [some (.ref 49), some (gi l1), none, some (gi l3), some (gi l4)] [])  {l1 l4 t0 : Int} {s : gS} (h : M_tickOnce_147 k122 l1 l4 t0 s = some (z0, s0)) : G M_M_tickOnce (QG g_S J z0 s0) (g_S, 0, 0) (J s) 147 [some (.ref 49), some (gi l1), none, none, some (gi l4)] [gi t0] := by
  unfold M_tickOnce_147 at h
  refine G_istore_n (lv' := [_, _, none, _, _]) (g_da dt_M_tickOnce 76 rfl) rfl (Nat.le_of_ble_eq_true rfl) rfl rfl ?_
  refine G_iinc (lv' := [_, _, none, _, _]) (g_da dt_M_tickOnce 77 rfl) rfl (Nat.le_of_ble_eq_true rfl) rfl rfl ?_
  refine G_goto (g_da dt_M_tickOnce 78 rfl) rfl ?_
  exact G_subK (hk122 _ _ _ _ h) ⟨rfl, ⟨rfl, ⟨rfl, ⟨rfl, trivial⟩⟩⟩⟩
set_option maxHeartbeats 4000000 in
set_option maxRecDepth 100000 in
theorem M_tickOnce_142_ok {J : gS → gS} (hJm : g_jm J) {z0 : Int} {s0 : gS} {k122 : Int → Int → Int → gS → gA} (hk122 : ∀ (l1 l3 l4 : Int) (s : gS), k122 l1 l3 l4 s = some (z0, s0) → G M_M_tickOnce (QG g_S J z0 s0) (g_S, 0, 0) (J s) 122 [some (.ref 49), some (gi l1), none, some (gi l3), some (gi l4)] [])  {l1 l4 : Int} {s : gS} (h : M_tickOnce_142 k122 l1 l4 s = some (z0, s0)) : G M_M_tickOnce (QG g_S J z0 s0) (g_S, 0, 0) (J s) 142 [some (.ref 49), some (gi l1), none, none, some (gi l4)] [] := by
  unfold M_tickOnce_142 at h
  refine G_iconst (g_da dt_M_tickOnce 73 rfl) ?_
  refine G_goto (g_da dt_M_tickOnce 74 rfl) rfl ?_
  exact G_subK (M_tickOnce_147_ok hJm hk122 h) ⟨rfl, ⟨rfl, ⟨rfl, trivial⟩⟩⟩
set_option maxHeartbeats 4000000 in
set_option maxRecDepth 100000 in
theorem M_tickOnce_122_ok {J : gS → gS} (hJm : g_jm J) {z0 : Int} {s0 : gS} {k122 : Int → Int → Int → gS → gA} {k154 : Int → Int → gS → gA} (hk122 : ∀ (l1 l3 l4 : Int) (s : gS), k122 l1 l3 l4 s = some (z0, s0) → G M_M_tickOnce (QG g_S J z0 s0) (g_S, 0, 0) (J s) 122 [some (.ref 49), some (gi l1), none, some (gi l3), some (gi l4)] []) (hk154 : ∀ (l1 l3 : Int) (s : gS), k154 l1 l3 s = some (z0, s0) → G M_M_tickOnce (QG g_S J z0 s0) (g_S, 0, 0) (J s) 154 [some (.ref 49), some (gi l1), none, some (gi l3), none] [])  {l1 l3 l4 : Int} {s : gS} (h : M_tickOnce_122 k122 k154 l1 l3 l4 s = some (z0, s0)) : G M_M_tickOnce (QG g_S J z0 s0) (g_S, 0, 0) (J s) 122 [some (.ref 49), some (gi l1), none, some (gi l3), some (gi l4)] [] := by
  unfold M_tickOnce_122 at h
  refine G_iload (g_da dt_M_tickOnce 63 rfl) rfl ?_
  refine G_iconst (g_da dt_M_tickOnce 64 rfl) ?_
  refine G_icmp_ge (g_da dt_M_tickOnce 65 rfl) rfl rfl w_4 (fun hc58 => ?_) (fun hc58 => ?_)
  · have h := o_t hc58 h
    exact G_subK (hk154 _ _ _ h) ⟨rfl, ⟨rfl, ⟨rfl, trivial⟩⟩⟩
  · have h := o_f hc58 h
    refine G_iload_n (g_da dt_M_tickOnce 66 rfl) rfl rfl ?_
    refine G_if_ne (g_da dt_M_tickOnce 67 rfl) rfl rfl  (fun hc59 => ?_) (fun hc59 => ?_)
    · have h := o_f hc59 h
      exact G_subK (M_tickOnce_142_ok hJm hk122 h) ⟨rfl, ⟨rfl, ⟨rfl, trivial⟩⟩⟩
    · have h := o_t hc59 h
      refine G_aload_n (g_da dt_M_tickOnce 68 rfl) rfl rfl ?_
      refine G_getR (g_da dt_M_tickOnce 69 rfl) sh_49 fl_15_74 rfl ?_
      refine G_iload (g_da dt_M_tickOnce 70 rfl) rfl ?_
      obtain ⟨hb60, h⟩ := o_g h
      refine H_zaload (g_da dt_M_tickOnce 71 rfl) sh_71 (hJm 71 rfl) rfl hb60 rfl ?_
      refine G_if_eq (g_da dt_M_tickOnce 72 rfl) rfl rfl  (fun hc61 => ?_) (fun hc61 => ?_)
      · have h := o_t hc61 h
        refine G_iconst (g_da dt_M_tickOnce 75 rfl) ?_
        exact G_subK (M_tickOnce_147_ok hJm hk122 h) ⟨rfl, ⟨rfl, ⟨rfl, trivial⟩⟩⟩
      · have h := o_f hc61 h
        exact G_subK (M_tickOnce_142_ok hJm hk122 h) ⟨rfl, ⟨rfl, ⟨rfl, trivial⟩⟩⟩
set_option maxHeartbeats 4000000 in
set_option maxRecDepth 100000 in
theorem M_tickOnce_122L_ok {J : gS → gS} (hJm : g_jm J) {z0 : Int} {s0 : gS} {k154 : Int → Int → gS → gA} (hk154 : ∀ (l1 l3 : Int) (s : gS), k154 l1 l3 s = some (z0, s0) → G M_M_tickOnce (QG g_S J z0 s0) (g_S, 0, 0) (J s) 154 [some (.ref 49), some (gi l1), none, some (gi l3), none] []) : ∀ (n : Nat) {l1 l3 l4 : Int} {s : gS}, M_tickOnce_122L k154 n l1 l3 l4 s = some (z0, s0) → G M_M_tickOnce (QG g_S J z0 s0) (g_S, 0, 0) (J s) 122 [some (.ref 49), some (gi l1), none, some (gi l3), some (gi l4)] [] := by
  intro n
  induction n with
  | zero => intro _ _ _ _ h; cases h
  | succ n ih => intro _ _ _ _ h; exact M_tickOnce_122_ok hJm (fun _ _ _ _ h => ih h) hk154 h
set_option maxHeartbeats 4000000 in
set_option maxRecDepth 100000 in
theorem M_tickOnce_154_ok {J : gS → gS} (hJm : g_jm J) {z0 : Int} {s0 : gS}  {l1 l3 : Int} {s : gS} (h : M_tickOnce_154 l1 l3 s = some (z0, s0)) : G M_M_tickOnce (QG g_S J z0 s0) (g_S, 0, 0) (J s) 154 [some (.ref 49), some (gi l1), none, some (gi l3), none] [] := by
  unfold M_tickOnce_154 at h
  refine G_aload_n (g_da dt_M_tickOnce 79 rfl) rfl rfl ?_
  refine G_iload_n (g_da dt_M_tickOnce 80 rfl) rfl rfl ?_
  obtain ⟨hz62, h⟩ := o_g h
  refine H_putZ (g_da dt_M_tickOnce 81 rfl) sh_49 fp_15_357 rfl (hJm 49 rfl) hz62 (fun s63 e64 => ?_)
  have h := o_l h s63 e64
  exact G_subK (M_tickOnce_159_ok hJm h) ⟨rfl, ⟨rfl, trivial⟩⟩
set_option maxHeartbeats 4000000 in
set_option maxRecDepth 100000 in
theorem M_tickOnce_118_ok {J : gS → gS} (hJm : g_jm J) {z0 : Int} {s0 : gS}  {l1 t0 : Int} {s : gS} (h : M_tickOnce_118 l1 t0 s = some (z0, s0)) : G M_M_tickOnce (QG g_S J z0 s0) (g_S, 0, 0) (J s) 118 [some (.ref 49), some (gi l1), none, none, none] [gi t0] := by
  unfold M_tickOnce_118 at h
  refine G_istore_n (lv' := [_, _, none, _, none]) (g_da dt_M_tickOnce 60 rfl) rfl (Nat.le_of_ble_eq_true rfl) rfl rfl ?_
  refine G_iconst (g_da dt_M_tickOnce 61 rfl) ?_
  refine G_istore (lv' := [_, _, none, _, _]) (g_da dt_M_tickOnce 62 rfl) (Nat.le_of_ble_eq_true rfl) rfl rfl ?_
  exact G_subK (M_tickOnce_122L_ok hJm (fun _ _ _ h => M_tickOnce_154_ok hJm h) gFu h) ⟨rfl, ⟨rfl, ⟨rfl, ⟨rfl, trivial⟩⟩⟩⟩
set_option maxHeartbeats 4000000 in
set_option maxRecDepth 100000 in
theorem M_tickOnce_89_ok {J : gS → gS} (hJm : g_jm J) {z0 : Int} {s0 : gS}  {l1 t1 : Int} {s : gS} (h : M_tickOnce_89 l1 t1 s = some (z0, s0)) : G M_M_tickOnce (QG g_S J z0 s0) (g_S, 0, 0) (J s) 89 [some (.ref 49), some (gi l1), none, none, none] [gi t1, .ref 49] := by
  unfold M_tickOnce_89 at h
  refine H_putI (g_da dt_M_tickOnce 47 rfl) sh_49 fp_15_327 rfl (hJm 49 rfl) (fun s8 e9 => ?_)
  have h := o_l h s8 e9
  refine G_aload_n (g_da dt_M_tickOnce 48 rfl) rfl rfl ?_
  refine H_getI (g_da dt_M_tickOnce 49 rfl) sh_49 fl_15_354 rfl (hJm 49 rfl) ?_
  refine G_if_ne (g_da dt_M_tickOnce 50 rfl) rfl rfl  (fun hc10 => ?_) (fun hc10 => ?_)
  · have h := o_f hc10 h
    exact G_subK (M_tickOnce_159_ok hJm h) ⟨rfl, ⟨rfl, trivial⟩⟩
  · have h := o_t hc10 h
    refine G_aload_n (g_da dt_M_tickOnce 51 rfl) rfl rfl ?_
    refine H_getI (g_da dt_M_tickOnce 52 rfl) sh_49 fl_15_357 rfl (hJm 49 rfl) ?_
    refine G_if_eq (g_da dt_M_tickOnce 53 rfl) rfl rfl  (fun hc53 => ?_) (fun hc53 => ?_)
    · have h := o_t hc53 h
      exact G_subK (M_tickOnce_159_ok hJm h) ⟨rfl, ⟨rfl, trivial⟩⟩
    · have h := o_f hc53 h
      refine G_aload_n (g_da dt_M_tickOnce 54 rfl) rfl rfl ?_
      obtain ⟨r54, s55, hc56, h⟩ := o_b h
      refine H_cVE (M_insideMany_ok hJm hc56) (g_da dt_M_tickOnce 55 rfl) lk_15_345 mv_M_insideMany rfl sh_49 rfl rfl rfl rfl rfl rfl ?_
      refine G_if_le (g_da dt_M_tickOnce 56 rfl) rfl rfl  (fun hc57 => ?_) (fun hc57 => ?_)
      · have h := o_t hc57 h
        refine G_iconst (g_da dt_M_tickOnce 59 rfl) ?_
        exact G_subK (M_tickOnce_118_ok hJm h) ⟨rfl, ⟨rfl, trivial⟩⟩
      · have h := o_f hc57 h
        refine G_iconst (g_da dt_M_tickOnce 57 rfl) ?_
        refine G_goto (g_da dt_M_tickOnce 58 rfl) rfl ?_
        exact G_subK (M_tickOnce_118_ok hJm h) ⟨rfl, ⟨rfl, trivial⟩⟩
set_option maxHeartbeats 4000000 in
set_option maxRecDepth 100000 in
theorem M_tickOnce_71_ok {J : gS → gS} (hJm : g_jm J) {z0 : Int} {s0 : gS}  {l1 : Int} {s : gS} (h : M_tickOnce_71 l1 s = some (z0, s0)) : G M_M_tickOnce (QG g_S J z0 s0) (g_S, 0, 0) (J s) 71 [some (.ref 49), some (gi l1), none, none, none] [.ref 49] := by
  unfold M_tickOnce_71 at h
  refine G_aload_n (g_da dt_M_tickOnce 37 rfl) rfl rfl ?_
  refine H_getI (g_da dt_M_tickOnce 38 rfl) sh_49 fl_15_327 rfl (hJm 49 rfl) ?_
  refine G_iconst (g_da dt_M_tickOnce 39 rfl) ?_
  refine G_icmp_ge (g_da dt_M_tickOnce 40 rfl) rfl rfl w_5 (fun hc7 => ?_) (fun hc7 => ?_)
  · have h := o_t hc7 h
    refine G_aload_n (g_da dt_M_tickOnce 43 rfl) rfl rfl ?_
    refine H_getI (g_da dt_M_tickOnce 44 rfl) sh_49 fl_15_327 rfl (hJm 49 rfl) ?_
    refine G_iconst (g_da dt_M_tickOnce 45 rfl) ?_
    refine G_isub (g_da dt_M_tickOnce 46 rfl) ?_
    exact G_subK (M_tickOnce_89_ok hJm h) ⟨rfl, ⟨rfl, trivial⟩⟩
  · have h := o_f hc7 h
    refine G_iconst (g_da dt_M_tickOnce 41 rfl) ?_
    refine G_goto (g_da dt_M_tickOnce 42 rfl) rfl ?_
    exact G_subK (M_tickOnce_89_ok hJm h) ⟨rfl, ⟨rfl, trivial⟩⟩
set_option maxHeartbeats 4000000 in
set_option maxRecDepth 100000 in
theorem M_tickOnce_31_ok {J : gS → gS} (hJm : g_jm J) {z0 : Int} {s0 : gS}  {l1 t0 : Int} {s : gS} (h : M_tickOnce_31 l1 t0 s = some (z0, s0)) : G M_M_tickOnce (QG g_S J z0 s0) (g_S, 0, 0) (J s) 31 [some (.ref 49), some (gi l1), none, none, none] [gi t0] := by
  unfold M_tickOnce_31 at h
  refine G_istore_n (lv' := [_, _, _, none, none]) (g_da dt_M_tickOnce 17 rfl) rfl (Nat.le_of_ble_eq_true rfl) rfl rfl ?_
  refine G_aload_n (g_da dt_M_tickOnce 18 rfl) rfl rfl ?_
  refine G_aload_n (g_da dt_M_tickOnce 19 rfl) rfl rfl ?_
  refine H_getI (g_da dt_M_tickOnce 20 rfl) sh_49 fl_15_354 rfl (hJm 49 rfl) ?_
  refine G_if_ne (g_da dt_M_tickOnce 21 rfl) rfl rfl  (fun hc6 => ?_) (fun hc6 => ?_)
  · have h := o_f hc6 h
    exact G_subK (M_tickOnce_71_ok hJm h) ⟨rfl, ⟨rfl, trivial⟩⟩
  · have h := o_t hc6 h
    refine G_iload_n (g_da dt_M_tickOnce 22 rfl) rfl rfl ?_
    refine G_if_eq (g_da dt_M_tickOnce 23 rfl) rfl rfl  (fun hc65 => ?_) (fun hc65 => ?_)
    · have h := o_t hc65 h
      exact G_subK (M_tickOnce_71_ok hJm h) ⟨rfl, ⟨rfl, trivial⟩⟩
    · have h := o_f hc65 h
      refine G_aload_n (g_da dt_M_tickOnce 24 rfl) rfl rfl ?_
      refine H_getI (g_da dt_M_tickOnce 25 rfl) sh_49 fl_15_327 rfl (hJm 49 rfl) ?_
      refine G_bipush (g_da dt_M_tickOnce 26 rfl) b8w_10 ?_
      refine G_iadd (g_da dt_M_tickOnce 27 rfl) ?_
      refine G_bipush (g_da dt_M_tickOnce 28 rfl) b8w_100 ?_
      refine G_icmp_le (g_da dt_M_tickOnce 29 rfl) rfl rfl w_100 (fun hc66 => ?_) (fun hc66 => ?_)
      · have h := o_t hc66 h
        refine G_aload_n (g_da dt_M_tickOnce 32 rfl) rfl rfl ?_
        refine H_getI (g_da dt_M_tickOnce 33 rfl) sh_49 fl_15_327 rfl (hJm 49 rfl) ?_
        refine G_bipush (g_da dt_M_tickOnce 34 rfl) b8w_10 ?_
        refine G_iadd (g_da dt_M_tickOnce 35 rfl) ?_
        refine G_goto (g_da dt_M_tickOnce 36 rfl) rfl ?_
        exact G_subK (M_tickOnce_89_ok hJm h) ⟨rfl, ⟨rfl, trivial⟩⟩
      · have h := o_f hc66 h
        refine G_bipush (g_da dt_M_tickOnce 30 rfl) b8w_100 ?_
        refine G_goto (g_da dt_M_tickOnce 31 rfl) rfl ?_
        exact G_subK (M_tickOnce_89_ok hJm h) ⟨rfl, ⟨rfl, trivial⟩⟩
set_option maxHeartbeats 4000000 in
set_option maxRecDepth 100000 in
theorem M_tickOnce_ok {J : gS → gS} (hJm : g_jm J) {z0 : Int} {s0 : gS} {s : gS} (h : M_tickOnce s = some (z0, s0)) : Ct M_M_tickOnce g_S [.ref 49] (J s) (QG g_S J z0 s0) := by
  refine Ct_of [some (.ref 49), none, none, none, none] (plainFor_of_name (by decide)) rfl (Nat.le_of_ble_eq_true rfl) rfl (by decide) q_rG ?_
  unfold M_tickOnce at h
  refine G_aload_n (g_da dt_M_tickOnce 0 rfl) rfl rfl ?_
  refine G_dup (g_da dt_M_tickOnce 1 rfl) rfl ?_
  refine H_getI (g_da dt_M_tickOnce 2 rfl) sh_49 fl_15_351 rfl (hJm 49 rfl) ?_
  refine G_iconst (g_da dt_M_tickOnce 3 rfl) ?_
  refine G_iadd (g_da dt_M_tickOnce 4 rfl) ?_
  refine H_putI (g_da dt_M_tickOnce 5 rfl) sh_49 fp_15_351 rfl (hJm 49 rfl) (fun s1 e2 => ?_)
  have h := o_l h s1 e2
  refine G_aload_n (g_da dt_M_tickOnce 6 rfl) rfl rfl ?_
  refine H_getI (g_da dt_M_tickOnce 7 rfl) sh_49 fl_15_354 rfl (hJm 49 rfl) ?_
  refine H_topi (fun v3 e4 => ?_)
  have h := o_l h v3 e4
  refine G_istore_n (lv' := [_, _, none, none, none]) (g_da dt_M_tickOnce 8 rfl) rfl (Nat.le_of_ble_eq_true rfl) rfl rfl ?_
  refine G_aload_n (g_da dt_M_tickOnce 9 rfl) rfl rfl ?_
  refine H_getI (g_da dt_M_tickOnce 10 rfl) sh_49 fl_15_110 rfl (hJm 49 rfl) ?_
  refine G_aload_n (g_da dt_M_tickOnce 11 rfl) rfl rfl ?_
  refine H_getI (g_da dt_M_tickOnce 12 rfl) sh_49 fl_15_113 rfl (hJm 49 rfl) ?_
  refine G_icmp_ge (g_da dt_M_tickOnce 13 rfl) rfl rfl rfl (fun hc5 => ?_) (fun hc5 => ?_)
  · have h := o_t hc5 h
    refine G_iconst (g_da dt_M_tickOnce 16 rfl) ?_
    exact G_subK (M_tickOnce_31_ok hJm h) ⟨rfl, ⟨rfl, trivial⟩⟩
  · have h := o_f hc5 h
    refine G_iconst (g_da dt_M_tickOnce 14 rfl) ?_
    refine G_goto (g_da dt_M_tickOnce 15 rfl) rfl ?_
    exact G_subK (M_tickOnce_31_ok hJm h) ⟨rfl, ⟨rfl, trivial⟩⟩
