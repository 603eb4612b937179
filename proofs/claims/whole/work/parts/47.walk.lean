set_option maxHeartbeats 4000000 in
set_option maxRecDepth 100000 in
theorem M_fill_67_ok {J : gS → gS} (hJm : g_jm J) {z0 : Int} {s0 : gS} {k16 : Int → gS → gA} (hk16 : ∀ (l2 : Int) (s : gS), k16 l2 s = some (z0, s0) → G M_M_fill (QG g_S J z0 s0) (g_S, 0, 0) (J s) 16 [some (.ref 49), none, some (gi l2)] [])  {l2 : Int} {s : gS} (h : M_fill_67 k16 l2 s = some (z0, s0)) : G M_M_fill (QG g_S J z0 s0) (g_S, 0, 0) (J s) 67 [some (.ref 49), none, some (gi l2)] [] := by
  unfold M_fill_67 at h
  refine G_iinc (lv' := [_, none, _]) (g_da dt_M_fill 39 rfl) rfl (Nat.le_of_ble_eq_true rfl) rfl rfl ?_
  refine G_goto (g_da dt_M_fill 40 rfl) rfl ?_
  exact G_subK (hk16 _ _ h) ⟨rfl, ⟨rfl, trivial⟩⟩
set_option maxHeartbeats 4000000 in
set_option maxRecDepth 100000 in
theorem M_fill_66_ok {J : gS → gS} (hJm : g_jm J) {z0 : Int} {s0 : gS} {k16 : Int → gS → gA} (hk16 : ∀ (l2 : Int) (s : gS), k16 l2 s = some (z0, s0) → G M_M_fill (QG g_S J z0 s0) (g_S, 0, 0) (J s) 16 [some (.ref 49), none, some (gi l2)] [])  {l2 t1 t2 : Int} {s : gS} (h : M_fill_66 k16 l2 t1 t2 s = some (z0, s0)) : G M_M_fill (QG g_S J z0 s0) (g_S, 0, 0) (J s) 66 [some (.ref 49), none, some (gi l2)] [gi t2, gi t1, .ref 64] := by
  unfold M_fill_66 at h
  obtain ⟨hb18, h⟩ := o_g h
  refine H_zastore (g_da dt_M_fill 38 rfl) sh_64 (hJm 64 rfl) rfl hb18 rfl (fun s19 e20 => ?_)
  have h := o_l h s19 e20
  exact G_subK (M_fill_67_ok hJm hk16 h) ⟨rfl, ⟨rfl, trivial⟩⟩
set_option maxHeartbeats 4000000 in
set_option maxRecDepth 100000 in
theorem M_fill_16_ok {J : gS → gS} (hJm : g_jm J) {z0 : Int} {s0 : gS} {k16 : Int → gS → gA} (hk16 : ∀ (l2 : Int) (s : gS), k16 l2 s = some (z0, s0) → G M_M_fill (QG g_S J z0 s0) (g_S, 0, 0) (J s) 16 [some (.ref 49), none, some (gi l2)] [])  {l2 : Int} {s : gS} (h : M_fill_16 k16 l2 s = some (z0, s0)) : G M_M_fill (QG g_S J z0 s0) (g_S, 0, 0) (J s) 16 [some (.ref 49), none, some (gi l2)] [] := by
  unfold M_fill_16 at h
  refine G_iload_n (g_da dt_M_fill 10 rfl) rfl rfl ?_
  refine G_sipush (g_da dt_M_fill 11 rfl) s16w_3072 ?_
  refine G_icmp_ge (g_da dt_M_fill 12 rfl) rfl rfl w_3072 (fun hc6 => ?_) (fun hc6 => ?_)
  · have h := o_t hc6 h
    refine G_aload_n (g_da dt_M_fill 41 rfl) rfl rfl ?_
    obtain ⟨r7, s8, hc9, h⟩ := o_b h
    refine H_cVG (M_noPath_ok hJm hc9) (g_da dt_M_fill 42 rfl) lk_15_154 mv_M_noPath rfl sh_49 rfl rfl rfl rfl rfl rfl ?_
    exact G_return (g_da dt_M_fill 43 rfl) rfl rfl (g_nz rfl) (q_g h)
  · have h := o_f hc6 h
    refine G_aload_n (g_da dt_M_fill 13 rfl) rfl rfl ?_
    refine G_getR (g_da dt_M_fill 14 rfl) sh_49 fl_15_56 rfl ?_
    refine G_iload_n (g_da dt_M_fill 15 rfl) rfl rfl ?_
    obtain ⟨hb10, h⟩ := o_g h
    refine H_zaload (g_da dt_M_fill 16 rfl) sh_65 (hJm 65 rfl) rfl hb10 rfl ?_
    refine G_if_eq (g_da dt_M_fill 17 rfl) rfl rfl  (fun hc11 => ?_) (fun hc11 => ?_)
    · have h := o_t hc11 h
      exact G_subK (M_fill_67_ok hJm hk16 h) ⟨rfl, ⟨rfl, trivial⟩⟩
    · have h := o_f hc11 h
      refine G_aload_n (g_da dt_M_fill 18 rfl) rfl rfl ?_
      refine G_getR (g_da dt_M_fill 19 rfl) sh_49 fl_15_53 rfl ?_
      refine G_sipush (g_da dt_M_fill 20 rfl) s16w_24576 ?_
      refine G_iload_n (g_da dt_M_fill 21 rfl) rfl rfl ?_
      refine G_iadd (g_da dt_M_fill 22 rfl) ?_
      refine G_iload_n (g_da dt_M_fill 23 rfl) rfl rfl ?_
      refine G_bipush (g_da dt_M_fill 24 rfl) b8w_64 ?_
      refine G_irem (g_da dt_M_fill 25 rfl) (by rw [w_64]; decide) ?_
      refine G_iload_n (g_da dt_M_fill 26 rfl) rfl rfl ?_
      refine G_bipush (g_da dt_M_fill 27 rfl) b8w_64 ?_
      refine G_idiv (g_da dt_M_fill 28 rfl) (by rw [w_64]; decide) ?_
      obtain ⟨r14, s15, hc16, h⟩ := o_b h
      refine H_cSE (M_cell_ok hc16) (g_da dt_M_fill 29 rfl) lk_15_297 ms_M_cell rfl rfl rfl rfl rfl rfl ?_
      refine G_aload_n (g_da dt_M_fill 30 rfl) rfl rfl ?_
      refine G_getR (g_da dt_M_fill 31 rfl) sh_49 fl_15_47 rfl ?_
      refine G_iconst (g_da dt_M_fill 32 rfl) ?_
      refine H_iaload (g_da dt_M_fill 33 rfl) sh_62 (hJm 62 rfl) w_4 ⟨by decide, by decide⟩ rfl ?_
      refine G_icmp_ge (g_da dt_M_fill 34 rfl) rfl rfl rfl (fun hc17 => ?_) (fun hc17 => ?_)
      · have h := o_t hc17 h
        refine G_iconst (g_da dt_M_fill 37 rfl) ?_
        exact G_subK (M_fill_66_ok hJm hk16 h) ⟨rfl, ⟨rfl, trivial⟩⟩
      · have h := o_f hc17 h
        refine G_iconst (g_da dt_M_fill 35 rfl) ?_
        refine G_goto (g_da dt_M_fill 36 rfl) rfl ?_
        exact G_subK (M_fill_66_ok hJm hk16 h) ⟨rfl, ⟨rfl, trivial⟩⟩
set_option maxHeartbeats 4000000 in
set_option maxRecDepth 100000 in
theorem M_fill_16L_ok {J : gS → gS} (hJm : g_jm J) {z0 : Int} {s0 : gS} : ∀ (n : Nat) {l2 : Int} {s : gS}, M_fill_16L n l2 s = some (z0, s0) → G M_M_fill (QG g_S J z0 s0) (g_S, 0, 0) (J s) 16 [some (.ref 49), none, some (gi l2)] [] := by
  intro n
  induction n with
  | zero => intro _ _ h; cases h
  | succ n ih => intro _ _ h; exact M_fill_16_ok hJm (fun _ _ h => ih h) h
set_option maxHeartbeats 4000000 in
set_option maxRecDepth 100000 in
theorem M_fill_ok {J : gS → gS} (hJm : g_jm J) {z0 : Int} {s0 : gS} {a1 : Int} {s : gS} (h : M_fill a1 s = some (z0, s0)) : Ct M_M_fill g_S [.ref 49, gi a1] (J s) (QG g_S J z0 s0) := by
  refine Ct_of [some (.ref 49), some (gi a1), none] (plainFor_of_name (by decide)) rfl (Nat.le_of_ble_eq_true rfl) rfl (by decide) q_rG ?_
  unfold M_fill at h
  refine G_aload_n (g_da dt_M_fill 0 rfl) rfl rfl ?_
  refine G_dup (g_da dt_M_fill 1 rfl) rfl ?_
  refine H_getI (g_da dt_M_fill 2 rfl) sh_49 fl_15_151 rfl (hJm 49 rfl) ?_
  refine G_aload_n (g_da dt_M_fill 3 rfl) rfl rfl ?_
  refine G_iload_n (g_da dt_M_fill 4 rfl) rfl rfl ?_
  obtain ⟨r1, s2, hc3, h⟩ := o_b h
  refine H_cVE (M_look_ok hJm hc3) (g_da dt_M_fill 5 rfl) lk_15_226 mv_M_look rfl sh_49 rfl rfl rfl rfl rfl rfl ?_
  refine G_iadd (g_da dt_M_fill 6 rfl) ?_
  refine H_putI (g_da dt_M_fill 7 rfl) sh_49 fp_15_151 rfl (hJm 49 rfl) (fun s4 e5 => ?_)
  have h := o_l h s4 e5
  refine G_iconst (g_da dt_M_fill 8 rfl) ?_
  refine G_istore_n (lv' := [_, _, _]) (g_da dt_M_fill 9 rfl) rfl (Nat.le_of_ble_eq_true rfl) rfl rfl ?_
  exact G_subK (M_fill_16L_ok hJm gFu h) ⟨rfl, ⟨rfl, trivial⟩⟩
set_option maxHeartbeats 4000000 in
set_option maxRecDepth 100000 in
theorem M_sidesOf_ok {J : gS → gS} (hJm : g_jm J) {z0 : Int} {s0 : gS} {s : gS} (h : M_sidesOf s = some (z0, s0)) : Ct M_M_sidesOf g_S [.ref 49] (J s) (QE g_S J z0 s0) := by
  refine Ct_of [some (.ref 49)] (plainFor_of_name (by decide)) rfl (Nat.le_of_ble_eq_true rfl) rfl (by decide) q_rE ?_
  unfold M_sidesOf at h
  refine G_aload_n (g_da dt_M_sidesOf 0 rfl) rfl rfl ?_
  refine H_getI (g_da dt_M_sidesOf 1 rfl) sh_49 fl_15_126 rfl (hJm 49 rfl) ?_
  refine G_if_eq (g_da dt_M_sidesOf 2 rfl) rfl rfl  (fun hc1 => ?_) (fun hc1 => ?_)
  · have h := o_t hc1 h
    refine G_iconst (g_da dt_M_sidesOf 5 rfl) ?_
    exact G_ireturn (g_da dt_M_sidesOf 6 rfl) rfl rfl rfl (g_nz rfl) (q_e h)
  · have h := o_f hc1 h
    refine G_iconst (g_da dt_M_sidesOf 3 rfl) ?_
    refine G_goto (g_da dt_M_sidesOf 4 rfl) rfl ?_
    exact G_ireturn (g_da dt_M_sidesOf 6 rfl) rfl rfl rfl (g_nz rfl) (q_e h)
set_option maxHeartbeats 4000000 in
set_option maxRecDepth 100000 in
theorem M_goes_ok {J : gS → gS} (hJm : g_jm J) {z0 : Int} {s0 : gS} {a1 : Int} {s : gS} (h : M_goes a1 s = some (z0, s0)) : Ct M_M_goes g_S [.ref 49, gi a1] (J s) (QE g_S J z0 s0) := by
  refine Ct_of [some (.ref 49), some (gi a1)] (plainFor_of_name (by decide)) rfl (Nat.le_of_ble_eq_true rfl) rfl (by decide) q_rE ?_
  unfold M_goes at h
  refine G_aload_n (g_da dt_M_goes 0 rfl) rfl rfl ?_
  refine G_getR (g_da dt_M_goes 1 rfl) sh_49 fl_15_62 rfl ?_
  refine G_iload_n (g_da dt_M_goes 2 rfl) rfl rfl ?_
  obtain ⟨hb1, h⟩ := o_g h
  refine H_iaload (g_da dt_M_goes 3 rfl) sh_67 (hJm 67 rfl) rfl hb1 rfl ?_
  refine G_iconst (g_da dt_M_goes 4 rfl) ?_
  refine G_icmp_eq (g_da dt_M_goes 5 rfl) rfl rfl w_m1 (fun hc2 => ?_) (fun hc2 => ?_)
  · have h := o_t hc2 h
    refine G_iconst (g_da dt_M_goes 11 rfl) ?_
    exact G_ireturn (g_da dt_M_goes 12 rfl) rfl (g_bool (Or.inl w_0)).1 rfl (g_nz rfl) (q_e h)
  · have h := o_f hc2 h
    refine G_aload_n (g_da dt_M_goes 6 rfl) rfl rfl ?_
    refine G_getR (g_da dt_M_goes 7 rfl) sh_49 fl_15_77 rfl ?_
    refine G_iload_n (g_da dt_M_goes 8 rfl) rfl rfl ?_
    obtain ⟨hb3, h⟩ := o_g h
    refine H_zaload (g_da dt_M_goes 9 rfl) sh_72 (hJm 72 rfl) rfl hb3 rfl ?_
    refine G_if_eq (g_da dt_M_goes 10 rfl) rfl rfl  (fun hc4 => ?_) (fun hc4 => ?_)
    · have h := o_t hc4 h
      refine G_iload_n (g_da dt_M_goes 13 rfl) rfl rfl ?_
      refine G_table [(0, 48), (1, 73), (2, 89)] 118 (g_da dt_M_goes 14 rfl) rfl rfl rfl ⟨fun hc5 => ?_, fun hc5 => ⟨fun hc6 => ?_, fun hc6 => ⟨fun hc7 => ?_, fun hc7 => ?_⟩⟩⟩
      · have h := o_t hc5 h
        refine G_aload_n (g_da dt_M_goes 15 rfl) rfl rfl ?_
        refine G_getR (g_da dt_M_goes 16 rfl) sh_49 fl_15_62 rfl ?_
        refine G_iconst (g_da dt_M_goes 17 rfl) ?_
        refine H_iaload (g_da dt_M_goes 18 rfl) sh_67 (hJm 67 rfl) w_1 ⟨by decide, by decide⟩ rfl ?_
        refine G_iconst (g_da dt_M_goes 19 rfl) ?_
        refine G_icmp_ne (g_da dt_M_goes 20 rfl) rfl rfl w_m1 (fun hc8 => ?_) (fun hc8 => ?_)
        · have h := o_f hc8 h
          refine G_iconst (g_da dt_M_goes 27 rfl) ?_
          exact G_ireturn (g_da dt_M_goes 28 rfl) rfl (g_bool (Or.inl w_0)).1 rfl (g_nz rfl) (q_e h)
        · have h := o_t hc8 h
          refine G_aload_n (g_da dt_M_goes 21 rfl) rfl rfl ?_
          refine H_getI (g_da dt_M_goes 22 rfl) sh_49 fl_15_327 rfl (hJm 49 rfl) ?_
          refine G_bipush (g_da dt_M_goes 23 rfl) b8w_80 ?_
          refine G_icmp_lt (g_da dt_M_goes 24 rfl) rfl rfl w_80 (fun hc9 => ?_) (fun hc9 => ?_)
          · have h := o_t hc9 h
            refine G_iconst (g_da dt_M_goes 27 rfl) ?_
            exact G_ireturn (g_da dt_M_goes 28 rfl) rfl (g_bool (Or.inl w_0)).1 rfl (g_nz rfl) (q_e h)
          · have h := o_f hc9 h
            refine G_iconst (g_da dt_M_goes 25 rfl) ?_
            refine G_goto (g_da dt_M_goes 26 rfl) rfl ?_
            exact G_ireturn (g_da dt_M_goes 28 rfl) rfl (g_bool (Or.inr w_1)).1 rfl (g_nz rfl) (q_e h)
      · have h := o_f hc5 h
        have h := o_t hc6 h
        refine G_aload_n (g_da dt_M_goes 29 rfl) rfl rfl ?_
        refine G_getR (g_da dt_M_goes 30 rfl) sh_49 fl_15_62 rfl ?_
        refine G_iconst (g_da dt_M_goes 31 rfl) ?_
        refine H_iaload (g_da dt_M_goes 32 rfl) sh_67 (hJm 67 rfl) w_2 ⟨by decide, by decide⟩ rfl ?_
        refine G_iconst (g_da dt_M_goes 33 rfl) ?_
        refine G_icmp_ne (g_da dt_M_goes 34 rfl) rfl rfl w_m1 (fun hc10 => ?_) (fun hc10 => ?_)
        · have h := o_f hc10 h
          refine G_iconst (g_da dt_M_goes 37 rfl) ?_
          exact G_ireturn (g_da dt_M_goes 38 rfl) rfl (g_bool (Or.inl w_0)).1 rfl (g_nz rfl) (q_e h)
        · have h := o_t hc10 h
          refine G_iconst (g_da dt_M_goes 35 rfl) ?_
          refine G_goto (g_da dt_M_goes 36 rfl) rfl ?_
          exact G_ireturn (g_da dt_M_goes 38 rfl) rfl (g_bool (Or.inr w_1)).1 rfl (g_nz rfl) (q_e h)
      · have h := o_f hc5 h
        have h := o_f hc6 h
        have h := o_t hc7 h
        refine G_aload_n (g_da dt_M_goes 39 rfl) rfl rfl ?_
        refine G_getR (g_da dt_M_goes 40 rfl) sh_49 fl_15_65 rfl ?_
        refine G_iconst (g_da dt_M_goes 41 rfl) ?_
        refine H_iaload (g_da dt_M_goes 42 rfl) sh_68 (hJm 68 rfl) w_2 ⟨by decide, by decide⟩ rfl ?_
        refine G_aload_n (g_da dt_M_goes 43 rfl) rfl rfl ?_
        obtain ⟨r11, s12, hc13, h⟩ := o_b h
        refine H_cVE (M_sidesOf_ok hJm hc13) (g_da dt_M_goes 44 rfl) lk_15_330 mv_M_sidesOf rfl sh_49 rfl rfl rfl rfl rfl rfl ?_
        refine G_icmp_eq (g_da dt_M_goes 45 rfl) rfl rfl rfl (fun hc14 => ?_) (fun hc14 => ?_)
        · have h := o_t hc14 h
          refine G_iconst (g_da dt_M_goes 52 rfl) ?_
          refine G_goto (g_da dt_M_goes 53 rfl) rfl ?_
          exact G_ireturn (g_da dt_M_goes 55 rfl) rfl (g_bool (Or.inr w_1)).1 rfl (g_nz rfl) (q_e h)
        · have h := o_f hc14 h
          refine G_aload_n (g_da dt_M_goes 46 rfl) rfl rfl ?_
          refine G_getR (g_da dt_M_goes 47 rfl) sh_49 fl_15_62 rfl ?_
          refine G_iconst (g_da dt_M_goes 48 rfl) ?_
          refine H_iaload (g_da dt_M_goes 49 rfl) sh_67 (hJm 67 rfl) w_3 ⟨by decide, by decide⟩ rfl ?_
          refine G_iconst (g_da dt_M_goes 50 rfl) ?_
          refine G_icmp_ne (g_da dt_M_goes 51 rfl) rfl rfl w_m1 (fun hc15 => ?_) (fun hc15 => ?_)
          · have h := o_f hc15 h
            refine G_iconst (g_da dt_M_goes 54 rfl) ?_
            exact G_ireturn (g_da dt_M_goes 55 rfl) rfl (g_bool (Or.inl w_0)).1 rfl (g_nz rfl) (q_e h)
          · have h := o_t hc15 h
            refine G_iconst (g_da dt_M_goes 52 rfl) ?_
            refine G_goto (g_da dt_M_goes 53 rfl) rfl ?_
            exact G_ireturn (g_da dt_M_goes 55 rfl) rfl (g_bool (Or.inr w_1)).1 rfl (g_nz rfl) (q_e h)
      · have h := o_f hc5 h
        have h := o_f hc6 h
        have h := o_f hc7 h
        refine G_aload_n (g_da dt_M_goes 56 rfl) rfl rfl ?_
        refine G_getR (g_da dt_M_goes 57 rfl) sh_49 fl_15_62 rfl ?_
        refine G_iconst (g_da dt_M_goes 58 rfl) ?_
        refine H_iaload (g_da dt_M_goes 59 rfl) sh_67 (hJm 67 rfl) w_0 ⟨by decide, by decide⟩ rfl ?_
        refine G_iconst (g_da dt_M_goes 60 rfl) ?_
        refine G_icmp_ne (g_da dt_M_goes 61 rfl) rfl rfl w_m1 (fun hc16 => ?_) (fun hc16 => ?_)
        · have h := o_f hc16 h
          refine G_iconst (g_da dt_M_goes 64 rfl) ?_
          exact G_ireturn (g_da dt_M_goes 65 rfl) rfl (g_bool (Or.inl w_0)).1 rfl (g_nz rfl) (q_e h)
        · have h := o_t hc16 h
          refine G_iconst (g_da dt_M_goes 62 rfl) ?_
          refine G_goto (g_da dt_M_goes 63 rfl) rfl ?_
          exact G_ireturn (g_da dt_M_goes 65 rfl) rfl (g_bool (Or.inr w_1)).1 rfl (g_nz rfl) (q_e h)
    · have h := o_f hc4 h
      refine G_iconst (g_da dt_M_goes 11 rfl) ?_
      exact G_ireturn (g_da dt_M_goes 12 rfl) rfl (g_bool (Or.inl w_0)).1 rfl (g_nz rfl) (q_e h)
set_option maxHeartbeats 4000000 in
set_option maxRecDepth 100000 in
theorem M_job_ok {J : gS → gS} (hJm : g_jm J) {z0 : Int} {s0 : gS} {a1 : Int} {s : gS} (h : M_job a1 s = some (z0, s0)) : Ct M_M_job g_S [.ref 49, gi a1] (J s) (QE g_S J z0 s0) := by
  refine Ct_of [some (.ref 49), some (gi a1)] (plainFor_of_name (by decide)) rfl (Nat.le_of_ble_eq_true rfl) rfl (by decide) q_rE ?_
  unfold M_job at h
  refine G_aload_n (g_da dt_M_job 0 rfl) rfl rfl ?_
  refine G_iconst (g_da dt_M_job 1 rfl) ?_
  refine H_putI (g_da dt_M_job 2 rfl) sh_49 fp_15_83 rfl (hJm 49 rfl) (fun s1 e2 => ?_)
  have h := o_l h s1 e2
  refine G_iload_n (g_da dt_M_job 3 rfl) rfl rfl ?_
  refine G_table [(0, 56), (1, 61), (2, 66), (3, 71), (4, 76), (5, 81), (6, 86), (7, 91), (8, 96)] 103 (g_da dt_M_job 4 rfl) rfl rfl rfl ⟨fun hc3 => ?_, fun hc3 => ⟨fun hc4 => ?_, fun hc4 => ⟨fun hc5 => ?_, fun hc5 => ⟨fun hc6 => ?_, fun hc6 => ⟨fun hc7 => ?_, fun hc7 => ⟨fun hc8 => ?_, fun hc8 => ⟨fun hc9 => ?_, fun hc9 => ⟨fun hc10 => ?_, fun hc10 => ⟨fun hc11 => ?_, fun hc11 => ?_⟩⟩⟩⟩⟩⟩⟩⟩⟩
  · have h := o_t hc3 h
    refine G_aload_n (g_da dt_M_job 5 rfl) rfl rfl ?_
    refine H_getI (g_da dt_M_job 6 rfl) sh_49 fl_15_107 rfl (hJm 49 rfl) ?_
    exact G_ireturn (g_da dt_M_job 7 rfl) rfl rfl rfl (g_nz rfl) (q_e h)
  · have h := o_f hc3 h
    have h := o_t hc4 h
    refine G_aload_n (g_da dt_M_job 8 rfl) rfl rfl ?_
    refine H_getI (g_da dt_M_job 9 rfl) sh_49 fl_15_133 rfl (hJm 49 rfl) ?_
    exact G_ireturn (g_da dt_M_job 10 rfl) rfl rfl rfl (g_nz rfl) (q_e h)
  · have h := o_f hc3 h
    have h := o_f hc4 h
    have h := o_t hc5 h
    refine G_aload_n (g_da dt_M_job 11 rfl) rfl rfl ?_
    refine H_getI (g_da dt_M_job 12 rfl) sh_49 fl_15_136 rfl (hJm 49 rfl) ?_
    exact G_ireturn (g_da dt_M_job 13 rfl) rfl rfl rfl (g_nz rfl) (q_e h)
  · have h := o_f hc3 h
    have h := o_f hc4 h
    have h := o_f hc5 h
    have h := o_t hc6 h
    refine G_aload_n (g_da dt_M_job 14 rfl) rfl rfl ?_
    refine H_getI (g_da dt_M_job 15 rfl) sh_49 fl_15_139 rfl (hJm 49 rfl) ?_
    exact G_ireturn (g_da dt_M_job 16 rfl) rfl rfl rfl (g_nz rfl) (q_e h)
  · have h := o_f hc3 h
    have h := o_f hc4 h
    have h := o_f hc5 h
    have h := o_f hc6 h
    have h := o_t hc7 h
    refine G_aload_n (g_da dt_M_job 17 rfl) rfl rfl ?_
    refine H_getI (g_da dt_M_job 18 rfl) sh_49 fl_15_142 rfl (hJm 49 rfl) ?_
    exact G_ireturn (g_da dt_M_job 19 rfl) rfl rfl rfl (g_nz rfl) (q_e h)
  · have h := o_f hc3 h
    have h := o_f hc4 h
    have h := o_f hc5 h
    have h := o_f hc6 h
    have h := o_f hc7 h
    have h := o_t hc8 h
    refine G_aload_n (g_da dt_M_job 20 rfl) rfl rfl ?_
    refine H_getI (g_da dt_M_job 21 rfl) sh_49 fl_15_151 rfl (hJm 49 rfl) ?_
    exact G_ireturn (g_da dt_M_job 22 rfl) rfl rfl rfl (g_nz rfl) (q_e h)
  · have h := o_f hc3 h
    have h := o_f hc4 h
    have h := o_f hc5 h
    have h := o_f hc6 h
    have h := o_f hc7 h
    have h := o_f hc8 h
    have h := o_t hc9 h
    refine G_aload_n (g_da dt_M_job 23 rfl) rfl rfl ?_
    refine H_getI (g_da dt_M_job 24 rfl) sh_49 fl_15_145 rfl (hJm 49 rfl) ?_
    exact G_ireturn (g_da dt_M_job 25 rfl) rfl rfl rfl (g_nz rfl) (q_e h)
  · have h := o_f hc3 h
    have h := o_f hc4 h
    have h := o_f hc5 h
    have h := o_f hc6 h
    have h := o_f hc7 h
    have h := o_f hc8 h
    have h := o_f hc9 h
    have h := o_t hc10 h
    refine G_aload_n (g_da dt_M_job 26 rfl) rfl rfl ?_
    refine H_getI (g_da dt_M_job 27 rfl) sh_49 fl_15_220 rfl (hJm 49 rfl) ?_
    exact G_ireturn (g_da dt_M_job 28 rfl) rfl rfl rfl (g_nz rfl) (q_e h)
  · have h := o_f hc3 h
    have h := o_f hc4 h
    have h := o_f hc5 h
    have h := o_f hc6 h
    have h := o_f hc7 h
    have h := o_f hc8 h
    have h := o_f hc9 h
    have h := o_f hc10 h
    have h := o_t hc11 h
    refine G_aload_n (g_da dt_M_job 29 rfl) rfl rfl ?_
    refine G_getR (g_da dt_M_job 30 rfl) sh_49 fl_15_47 rfl ?_
    refine G_iconst (g_da dt_M_job 31 rfl) ?_
    refine H_iaload (g_da dt_M_job 32 rfl) sh_62 (hJm 62 rfl) w_4 ⟨by decide, by decide⟩ rfl ?_
    exact G_ireturn (g_da dt_M_job 33 rfl) rfl rfl rfl (g_nz rfl) (q_e h)
  · have h := o_f hc3 h
    have h := o_f hc4 h
    have h := o_f hc5 h
    have h := o_f hc6 h
    have h := o_f hc7 h
    have h := o_f hc8 h
    have h := o_f hc9 h
    have h := o_f hc10 h
    have h := o_f hc11 h
    refine G_iconst (g_da dt_M_job 34 rfl) ?_
    exact G_ireturn (g_da dt_M_job 35 rfl) rfl rfl rfl (g_nz rfl) (q_e h)
set_option maxHeartbeats 4000000 in
set_option maxRecDepth 100000 in
theorem M_load_ok {J : gS → gS} (hJm : g_jm J) {z0 : Int} {s0 : gS} {a1 : Int} {s : gS} (h : M_load a1 s = some (z0, s0)) : Ct M_M_load g_S [.ref 49, gi a1] (J s) (QE g_S J z0 s0) := by
  refine Ct_of [some (.ref 49), some (gi a1)] (plainFor_of_name (by decide)) rfl (Nat.le_of_ble_eq_true rfl) rfl (by decide) q_rE ?_
  unfold M_load at h
  refine G_aload_n (g_da dt_M_load 0 rfl) rfl rfl ?_
  refine G_iconst (g_da dt_M_load 1 rfl) ?_
  refine H_putI (g_da dt_M_load 2 rfl) sh_49 fp_15_83 rfl (hJm 49 rfl) (fun s1 e2 => ?_)
  have h := o_l h s1 e2
  refine G_iload_n (g_da dt_M_load 3 rfl) rfl rfl ?_
  refine G_iconst (g_da dt_M_load 4 rfl) ?_
  refine G_icmp_lt (g_da dt_M_load 5 rfl) rfl rfl w_1 (fun hc3 => ?_) (fun hc3 => ?_)
  · have h := o_t hc3 h
    refine G_iconst (g_da dt_M_load 15 rfl) ?_
    exact G_ireturn (g_da dt_M_load 16 rfl) rfl rfl rfl (g_nz rfl) (q_e h)
  · have h := o_f hc3 h
    refine G_iload_n (g_da dt_M_load 6 rfl) rfl rfl ?_
    refine G_sipush (g_da dt_M_load 7 rfl) s16w_200 ?_
    refine G_icmp_gt (g_da dt_M_load 8 rfl) rfl rfl w_200 (fun hc4 => ?_) (fun hc4 => ?_)
    · have h := o_t hc4 h
      refine G_iconst (g_da dt_M_load 15 rfl) ?_
      exact G_ireturn (g_da dt_M_load 16 rfl) rfl rfl rfl (g_nz rfl) (q_e h)
    · have h := o_f hc4 h
      refine G_aload_n (g_da dt_M_load 9 rfl) rfl rfl ?_
      refine H_getI (g_da dt_M_load 10 rfl) sh_49 fl_15_348 rfl (hJm 49 rfl) ?_
      refine G_iload_n (g_da dt_M_load 11 rfl) rfl rfl ?_
      refine G_iadd (g_da dt_M_load 12 rfl) ?_
      refine G_sipush (g_da dt_M_load 13 rfl) s16w_500 ?_
      refine G_icmp_le (g_da dt_M_load 14 rfl) rfl rfl w_500 (fun hc5 => ?_) (fun hc5 => ?_)
      · have h := o_t hc5 h
        refine G_aload_n (g_da dt_M_load 17 rfl) rfl rfl ?_
        refine G_dup (g_da dt_M_load 18 rfl) rfl ?_
        refine H_getI (g_da dt_M_load 19 rfl) sh_49 fl_15_348 rfl (hJm 49 rfl) ?_
        refine G_iload_n (g_da dt_M_load 20 rfl) rfl rfl ?_
        refine G_iadd (g_da dt_M_load 21 rfl) ?_
        refine H_putI (g_da dt_M_load 22 rfl) sh_49 fp_15_348 rfl (hJm 49 rfl) (fun s6 e7 => ?_)
        have h := o_l h s6 e7
        refine G_aload_n (g_da dt_M_load 23 rfl) rfl rfl ?_
        refine H_getI (g_da dt_M_load 24 rfl) sh_49 fl_15_348 rfl (hJm 49 rfl) ?_
        exact G_ireturn (g_da dt_M_load 25 rfl) rfl rfl rfl (g_nz rfl) (q_e h)
      · have h := o_f hc5 h
        refine G_iconst (g_da dt_M_load 15 rfl) ?_
        exact G_ireturn (g_da dt_M_load 16 rfl) rfl rfl rfl (g_nz rfl) (q_e h)
set_option maxHeartbeats 4000000 in
set_option maxRecDepth 100000 in
theorem M_next_14_ok {J : gS → gS} (hJm : g_jm J) {z0 : Int} {s0 : gS} {k14 : Int → gS → gA} {k58 : Int → gS → gA} (hk14 : ∀ (l1 : Int) (s : gS), k14 l1 s = some (z0, s0) → G M_M_next (QE g_S J z0 s0) (g_S, 0, 0) (J s) 14 [some (.ref 49), some (gi l1)] []) (hk58 : ∀ (l1 : Int) (s : gS), k58 l1 s = some (z0, s0) → G M_M_next (QE g_S J z0 s0) (g_S, 0, 0) (J s) 58 [some (.ref 49), some (gi l1)] [])  {l1 : Int} {s : gS} (h : M_next_14 k14 k58 l1 s = some (z0, s0)) : G M_M_next (QE g_S J z0 s0) (g_S, 0, 0) (J s) 14 [some (.ref 49), some (gi l1)] [] := by
  unfold M_next_14 at h
  refine G_aload_n (g_da dt_M_next 8 rfl) rfl rfl ?_
  refine G_getR (g_da dt_M_next 9 rfl) sh_49 fl_15_26 rfl ?_
  refine G_iload_n (g_da dt_M_next 10 rfl) rfl rfl ?_
  obtain ⟨hb4, h⟩ := o_g h
  refine H_iaload (g_da dt_M_next 11 rfl) sh_55 (hJm 55 rfl) rfl hb4 rfl ?_
  refine G_aload_n (g_da dt_M_next 12 rfl) rfl rfl ?_
  refine G_getR (g_da dt_M_next 13 rfl) sh_49 fl_15_29 rfl ?_
  refine G_iload_n (g_da dt_M_next 14 rfl) rfl rfl ?_
  obtain ⟨hb5, h⟩ := o_g h
  refine H_iaload (g_da dt_M_next 15 rfl) sh_56 (hJm 56 rfl) rfl hb5 rfl ?_
  refine G_icmp_ge (g_da dt_M_next 16 rfl) rfl rfl rfl (fun hc6 => ?_) (fun hc6 => ?_)
  · have h := o_t hc6 h
    exact G_subK (hk58 _ _ h) ⟨rfl, ⟨rfl, trivial⟩⟩
  · have h := o_f hc6 h
    refine G_aload_n (g_da dt_M_next 17 rfl) rfl rfl ?_
    refine G_getR (g_da dt_M_next 18 rfl) sh_49 fl_15_13 rfl ?_
    refine G_aload_n (g_da dt_M_next 19 rfl) rfl rfl ?_
    refine G_getR (g_da dt_M_next 20 rfl) sh_49 fl_15_26 rfl ?_
    refine G_iload_n (g_da dt_M_next 21 rfl) rfl rfl ?_
    obtain ⟨hb7, h⟩ := o_g h
    refine H_iaload (g_da dt_M_next 22 rfl) sh_55 (hJm 55 rfl) rfl hb7 rfl ?_
    obtain ⟨hb8, h⟩ := o_g h
    refine H_iaload (g_da dt_M_next 23 rfl) sh_51 (hJm 51 rfl) rfl hb8 rfl ?_
    refine G_bipush (g_da dt_M_next 24 rfl) b8w_32 ?_
    refine G_icmp_ne (g_da dt_M_next 25 rfl) rfl rfl w_32 (fun hc9 => ?_) (fun hc9 => ?_)
    · have h := o_f hc9 h
      exact G_subK (hk58 _ _ h) ⟨rfl, ⟨rfl, trivial⟩⟩
    · have h := o_t hc9 h
      refine G_aload_n (g_da dt_M_next 26 rfl) rfl rfl ?_
      refine G_getR (g_da dt_M_next 27 rfl) sh_49 fl_15_26 rfl ?_
      refine G_iload_n (g_da dt_M_next 28 rfl) rfl rfl ?_
      refine G_dup2_11 (g_da dt_M_next 29 rfl) rfl rfl ?_
      obtain ⟨hb10, h⟩ := o_g h
      refine H_iaload (g_da dt_M_next 30 rfl) sh_55 (hJm 55 rfl) rfl hb10 rfl ?_
      refine G_iconst (g_da dt_M_next 31 rfl) ?_
      refine G_iadd (g_da dt_M_next 32 rfl) ?_
      obtain ⟨hb11, h⟩ := o_g h
      refine H_iastore (g_da dt_M_next 33 rfl) sh_55 (hJm 55 rfl) rfl hb11 rfl (fun s12 e13 => ?_)
      have h := o_l h s12 e13
      refine G_goto (g_da dt_M_next 34 rfl) rfl ?_
      exact G_subK (hk14 _ _ h) ⟨rfl, ⟨rfl, trivial⟩⟩
set_option maxHeartbeats 4000000 in
set_option maxRecDepth 100000 in
theorem M_next_14L_ok {J : gS → gS} (hJm : g_jm J) {z0 : Int} {s0 : gS} {k58 : Int → gS → gA} (hk58 : ∀ (l1 : Int) (s : gS), k58 l1 s = some (z0, s0) → G M_M_next (QE g_S J z0 s0) (g_S, 0, 0) (J s) 58 [some (.ref 49), some (gi l1)] []) : ∀ (n : Nat) {l1 : Int} {s : gS}, M_next_14L k58 n l1 s = some (z0, s0) → G M_M_next (QE g_S J z0 s0) (g_S, 0, 0) (J s) 14 [some (.ref 49), some (gi l1)] [] := by
  intro n
  induction n with
  | zero => intro _ _ h; cases h
  | succ n ih => intro _ _ h; exact M_next_14_ok hJm (fun _ _ h => ih h) hk58 h
set_option maxHeartbeats 4000000 in
set_option maxRecDepth 100000 in
theorem M_next_125_ok {J : gS → gS} (hJm : g_jm J) {z0 : Int} {s0 : gS} {k0 : gS → gA} (hk0 : ∀ (s : gS), k0 s = some (z0, s0) → G M_M_next (QE g_S J z0 s0) (g_S, 0, 0) (J s) 0 [some (.ref 49), none] [])  {s : gS} (h : M_next_125 k0 s = some (z0, s0)) : G M_M_next (QE g_S J z0 s0) (g_S, 0, 0) (J s) 125 [some (.ref 49), none] [] := by
  unfold M_next_125 at h
  refine G_goto (g_da dt_M_next 78 rfl) rfl ?_
  exact G_subK (hk0 _ h) ⟨rfl, trivial⟩
set_option maxHeartbeats 4000000 in
set_option maxRecDepth 100000 in
theorem M_next_58_ok {J : gS → gS} (hJm : g_jm J) {z0 : Int} {s0 : gS} {k0 : gS → gA} (hk0 : ∀ (s : gS), k0 s = some (z0, s0) → G M_M_next (QE g_S J z0 s0) (g_S, 0, 0) (J s) 0 [some (.ref 49), none] [])  {l1 : Int} {s : gS} (h : M_next_58 k0 l1 s = some (z0, s0)) : G M_M_next (QE g_S J z0 s0) (g_S, 0, 0) (J s) 58 [some (.ref 49), some (gi l1)] [] := by
  unfold M_next_58 at h
  refine G_aload_n (g_da dt_M_next 35 rfl) rfl rfl ?_
  refine G_getR (g_da dt_M_next 36 rfl) sh_49 fl_15_26 rfl ?_
  refine G_iload_n (g_da dt_M_next 37 rfl) rfl rfl ?_
  obtain ⟨hb14, h⟩ := o_g h
  refine H_iaload (g_da dt_M_next 38 rfl) sh_55 (hJm 55 rfl) rfl hb14 rfl ?_
  refine G_aload_n (g_da dt_M_next 39 rfl) rfl rfl ?_
  refine G_getR (g_da dt_M_next 40 rfl) sh_49 fl_15_29 rfl ?_
  refine G_iload_n (g_da dt_M_next 41 rfl) rfl rfl ?_
  obtain ⟨hb15, h⟩ := o_g h
  refine H_iaload (g_da dt_M_next 42 rfl) sh_56 (hJm 56 rfl) rfl hb15 rfl ?_
  refine G_icmp_ge (g_da dt_M_next 43 rfl) rfl rfl rfl (fun hc16 => ?_) (fun hc16 => ?_)
  · have h := o_t hc16 h
    refine G_aload_n (g_da dt_M_next 49 rfl) rfl rfl ?_
    refine G_getR (g_da dt_M_next 50 rfl) sh_49 fl_15_35 rfl ?_
    refine G_iload_n (g_da dt_M_next 51 rfl) rfl rfl ?_
    obtain ⟨hb17, h⟩ := o_g h
    refine H_iaload (g_da dt_M_next 52 rfl) sh_58 (hJm 58 rfl) rfl hb17 rfl ?_
    refine G_iconst (g_da dt_M_next 53 rfl) ?_
    refine G_icmp_le (g_da dt_M_next 54 rfl) rfl rfl w_1 (fun hc18 => ?_) (fun hc18 => ?_)
    · have h := o_t hc18 h
      refine G_aload_n (g_da dt_M_next 72 rfl) rfl rfl ?_
      refine G_dup (g_da dt_M_next 73 rfl) rfl ?_
      refine H_getI (g_da dt_M_next 74 rfl) sh_49 fl_15_157 rfl (hJm 49 rfl) ?_
      refine G_iconst (g_da dt_M_next 75 rfl) ?_
      refine G_isub (g_da dt_M_next 76 rfl) ?_
      refine H_putI (g_da dt_M_next 77 rfl) sh_49 fp_15_157 rfl (hJm 49 rfl) (fun s19 e20 => ?_)
      have h := o_l h s19 e20
      exact G_subK (M_next_125_ok hJm hk0 h) ⟨rfl, trivial⟩
    · have h := o_f hc18 h
      refine G_aload_n (g_da dt_M_next 55 rfl) rfl rfl ?_
      refine G_getR (g_da dt_M_next 56 rfl) sh_49 fl_15_35 rfl ?_
      refine G_iload_n (g_da dt_M_next 57 rfl) rfl rfl ?_
      refine G_dup2_11 (g_da dt_M_next 58 rfl) rfl rfl ?_
      obtain ⟨hb21, h⟩ := o_g h
      refine H_iaload (g_da dt_M_next 59 rfl) sh_58 (hJm 58 rfl) rfl hb21 rfl ?_
      refine G_iconst (g_da dt_M_next 60 rfl) ?_
      refine G_isub (g_da dt_M_next 61 rfl) ?_
      obtain ⟨hb22, h⟩ := o_g h
      refine H_iastore (g_da dt_M_next 62 rfl) sh_58 (hJm 58 rfl) rfl hb22 rfl (fun s23 e24 => ?_)
      have h := o_l h s23 e24
      refine G_aload_n (g_da dt_M_next 63 rfl) rfl rfl ?_
      refine G_getR (g_da dt_M_next 64 rfl) sh_49 fl_15_26 rfl ?_
      refine G_iload_n (g_da dt_M_next 65 rfl) rfl rfl ?_
      refine G_aload_n (g_da dt_M_next 66 rfl) rfl rfl ?_
      refine G_getR (g_da dt_M_next 67 rfl) sh_49 fl_15_32 rfl ?_
      refine G_iload_n (g_da dt_M_next 68 rfl) rfl rfl ?_
      obtain ⟨hb25, h⟩ := o_g h
      refine H_iaload (g_da dt_M_next 69 rfl) sh_57 (hJm 57 rfl) rfl hb25 rfl ?_
      obtain ⟨hb26, h⟩ := o_g h
      refine H_iastore (g_da dt_M_next 70 rfl) sh_55 (hJm 55 rfl) rfl hb26 rfl (fun s27 e28 => ?_)
      have h := o_l h s27 e28
      refine G_goto (g_da dt_M_next 71 rfl) rfl ?_
      exact G_subK (M_next_125_ok hJm hk0 h) ⟨rfl, trivial⟩
  · have h := o_f hc16 h
    refine G_aload_n (g_da dt_M_next 44 rfl) rfl rfl ?_
    refine G_getR (g_da dt_M_next 45 rfl) sh_49 fl_15_26 rfl ?_
    refine G_iload_n (g_da dt_M_next 46 rfl) rfl rfl ?_
    obtain ⟨hb29, h⟩ := o_g h
    refine H_iaload (g_da dt_M_next 47 rfl) sh_55 (hJm 55 rfl) rfl hb29 rfl ?_
    exact G_ireturn (g_da dt_M_next 48 rfl) rfl rfl rfl (g_nz rfl) (q_e h)
set_option maxHeartbeats 4000000 in
set_option maxRecDepth 100000 in
theorem M_next_0_ok {J : gS → gS} (hJm : g_jm J) {z0 : Int} {s0 : gS} {k0 : gS → gA} (hk0 : ∀ (s : gS), k0 s = some (z0, s0) → G M_M_next (QE g_S J z0 s0) (g_S, 0, 0) (J s) 0 [some (.ref 49), none] [])  {s : gS} (h : M_next_0 k0 s = some (z0, s0)) : G M_M_next (QE g_S J z0 s0) (g_S, 0, 0) (J s) 0 [some (.ref 49), none] [] := by
  unfold M_next_0 at h
  refine G_aload_n (g_da dt_M_next 0 rfl) rfl rfl ?_
  refine H_getI (g_da dt_M_next 1 rfl) sh_49 fl_15_157 rfl (hJm 49 rfl) ?_
  refine G_if_le (g_da dt_M_next 2 rfl) rfl rfl  (fun hc1 => ?_) (fun hc1 => ?_)
  · have h := o_t hc1 h
    refine G_iconst (g_da dt_M_next 79 rfl) ?_
    exact G_ireturn (g_da dt_M_next 80 rfl) rfl rfl rfl (g_nz rfl) (q_e h)
  · have h := o_f hc1 h
    refine G_aload_n (g_da dt_M_next 3 rfl) rfl rfl ?_
    refine H_getI (g_da dt_M_next 4 rfl) sh_49 fl_15_157 rfl (hJm 49 rfl) ?_
    refine G_iconst (g_da dt_M_next 5 rfl) ?_
    refine G_isub (g_da dt_M_next 6 rfl) ?_
    refine H_topi (fun v2 e3 => ?_)
    have h := o_l h v2 e3
    refine G_istore_n (lv' := [_, _]) (g_da dt_M_next 7 rfl) rfl (Nat.le_of_ble_eq_true rfl) rfl rfl ?_
    exact G_subK (M_next_14L_ok hJm (fun _ _ h => M_next_58_ok hJm hk0 h) gFu h) ⟨rfl, ⟨rfl, trivial⟩⟩
set_option maxHeartbeats 4000000 in
set_option maxRecDepth 100000 in
theorem M_next_0L_ok {J : gS → gS} (hJm : g_jm J) {z0 : Int} {s0 : gS} : ∀ (n : Nat) {s : gS}, M_next_0L n s = some (z0, s0) → G M_M_next (QE g_S J z0 s0) (g_S, 0, 0) (J s) 0 [some (.ref 49), none] [] := by
  intro n
  induction n with
  | zero => intro _ h; cases h
  | succ n ih => intro _ h; exact M_next_0_ok hJm (fun _ h => ih h) h
set_option maxHeartbeats 4000000 in
set_option maxRecDepth 100000 in
theorem M_next_ok {J : gS → gS} (hJm : g_jm J) {z0 : Int} {s0 : gS} {s : gS} (h : M_next s = some (z0, s0)) : Ct M_M_next g_S [.ref 49] (J s) (QE g_S J z0 s0) := by
  refine Ct_of [some (.ref 49), none] (plainFor_of_name (by decide)) rfl (Nat.le_of_ble_eq_true rfl) rfl (by decide) q_rE ?_
  unfold M_next at h
  exact G_subK (M_next_0L_ok hJm gFu h) ⟨rfl, trivial⟩
set_option maxHeartbeats 4000000 in
set_option maxRecDepth 100000 in
theorem M_octet_ok {J : gS → gS} (hJm : g_jm J) {z0 : Int} {s0 : gS} {a1 a2 a3 : Int} {s : gS} (h : M_octet a1 a2 a3 s = some (z0, s0)) : Ct M_M_octet g_S [.ref 49, gi a1, gi a2, gi a3] (J s) (QE g_S J z0 s0) := by
  refine Ct_of [some (.ref 49), some (gi a1), some (gi a2), some (gi a3)] (plainFor_of_name (by decide)) rfl (Nat.le_of_ble_eq_true rfl) rfl (by decide) q_rE ?_
  unfold M_octet at h
  refine G_aload_n (g_da dt_M_octet 0 rfl) rfl rfl ?_
  refine G_iconst (g_da dt_M_octet 1 rfl) ?_
  refine H_putI (g_da dt_M_octet 2 rfl) sh_49 fp_15_83 rfl (hJm 49 rfl) (fun s1 e2 => ?_)
  have h := o_l h s1 e2
  refine G_aload_n (g_da dt_M_octet 3 rfl) rfl rfl ?_
  refine G_iload_n (g_da dt_M_octet 4 rfl) rfl rfl ?_
  refine G_iload_n (g_da dt_M_octet 5 rfl) rfl rfl ?_
  obtain ⟨r3, s4, hc5, h⟩ := o_b h
  refine H_cVE (M_pack_ok hJm hc5) (g_da dt_M_octet 6 rfl) lk_15_324 mv_M_pack rfl sh_49 rfl rfl rfl rfl rfl rfl ?_
  refine G_if_eq (g_da dt_M_octet 7 rfl) rfl rfl  (fun hc6 => ?_) (fun hc6 => ?_)
  · have h := o_t hc6 h
    refine G_iconst (g_da dt_M_octet 19 rfl) ?_
    exact G_ireturn (g_da dt_M_octet 20 rfl) rfl rfl rfl (g_nz rfl) (q_e h)
  · have h := o_f hc6 h
    refine G_iload_n (g_da dt_M_octet 8 rfl) rfl rfl ?_
    refine G_if_lt (g_da dt_M_octet 9 rfl) rfl rfl  (fun hc7 => ?_) (fun hc7 => ?_)
    · have h := o_t hc7 h
      refine G_iconst (g_da dt_M_octet 19 rfl) ?_
      exact G_ireturn (g_da dt_M_octet 20 rfl) rfl rfl rfl (g_nz rfl) (q_e h)
    · have h := o_f hc7 h
      refine G_iload_n (g_da dt_M_octet 10 rfl) rfl rfl ?_
      refine G_aload_n (g_da dt_M_octet 11 rfl) rfl rfl ?_
      refine H_getI (g_da dt_M_octet 12 rfl) sh_49 fl_15_309 rfl (hJm 49 rfl) ?_
      refine G_icmp_ge (g_da dt_M_octet 13 rfl) rfl rfl rfl (fun hc8 => ?_) (fun hc8 => ?_)
      · have h := o_t hc8 h
        refine G_iconst (g_da dt_M_octet 19 rfl) ?_
        exact G_ireturn (g_da dt_M_octet 20 rfl) rfl rfl rfl (g_nz rfl) (q_e h)
      · have h := o_f hc8 h
        refine G_aload_n (g_da dt_M_octet 14 rfl) rfl rfl ?_
        refine G_getR (g_da dt_M_octet 15 rfl) sh_49 fl_15_59 rfl ?_
        refine G_iload_n (g_da dt_M_octet 16 rfl) rfl rfl ?_
        obtain ⟨hb9, h⟩ := o_g h
        refine H_iaload (g_da dt_M_octet 17 rfl) sh_66 (hJm 66 rfl) rfl hb9 rfl ?_
        refine G_goto (g_da dt_M_octet 18 rfl) rfl ?_
        exact G_ireturn (g_da dt_M_octet 20 rfl) rfl rfl rfl (g_nz rfl) (q_e h)
set_option maxHeartbeats 4000000 in
set_option maxRecDepth 100000 in
theorem M_swap_ok {J : gS → gS} (hJm : g_jm J) {z0 : Int} {s0 : gS} {s : gS} (h : M_swap s = some (z0, s0)) : Ct M_M_swap g_S [.ref 49] (J s) (QG g_S J z0 s0) := by
  refine Ct_of [some (.ref 49), none, none] (plainFor_of_name (by decide)) rfl (Nat.le_of_ble_eq_true rfl) rfl (by decide) q_rG ?_
  unfold M_swap at h
  refine G_aload_n (g_da dt_M_swap 0 rfl) rfl rfl ?_
  refine G_getR (g_da dt_M_swap 1 rfl) sh_49 fl_15_16 rfl ?_
  refine G_aload_n (g_da dt_M_swap 2 rfl) rfl rfl ?_
  refine H_getI (g_da dt_M_swap 3 rfl) sh_49 fl_15_145 rfl (hJm 49 rfl) ?_
  refine G_iconst (g_da dt_M_swap 4 rfl) ?_
  refine G_isub (g_da dt_M_swap 5 rfl) ?_
  obtain ⟨hb1, h⟩ := o_g h
  refine H_iaload (g_da dt_M_swap 6 rfl) sh_52 (hJm 52 rfl) rfl hb1 rfl ?_
  refine H_topi (fun v2 e3 => ?_)
  have h := o_l h v2 e3
  refine G_istore_n (lv' := [_, _, none]) (g_da dt_M_swap 7 rfl) rfl (Nat.le_of_ble_eq_true rfl) rfl rfl ?_
  refine G_aload_n (g_da dt_M_swap 8 rfl) rfl rfl ?_
  refine G_getR (g_da dt_M_swap 9 rfl) sh_49 fl_15_22 rfl ?_
  refine G_aload_n (g_da dt_M_swap 10 rfl) rfl rfl ?_
  refine H_getI (g_da dt_M_swap 11 rfl) sh_49 fl_15_145 rfl (hJm 49 rfl) ?_
  refine G_iconst (g_da dt_M_swap 12 rfl) ?_
  refine G_isub (g_da dt_M_swap 13 rfl) ?_
  obtain ⟨hb4, h⟩ := o_g h
  refine H_zaload (g_da dt_M_swap 14 rfl) sh_54 (hJm 54 rfl) rfl hb4 rfl ?_
  refine H_topi (fun v5 e6 => ?_)
  have h := o_l h v5 e6
  refine G_istore_n (lv' := [_, _, _]) (g_da dt_M_swap 15 rfl) rfl (Nat.le_of_ble_eq_true rfl) rfl rfl ?_
  refine G_aload_n (g_da dt_M_swap 16 rfl) rfl rfl ?_
  refine G_getR (g_da dt_M_swap 17 rfl) sh_49 fl_15_16 rfl ?_
  refine G_aload_n (g_da dt_M_swap 18 rfl) rfl rfl ?_
  refine H_getI (g_da dt_M_swap 19 rfl) sh_49 fl_15_145 rfl (hJm 49 rfl) ?_
  refine G_iconst (g_da dt_M_swap 20 rfl) ?_
  refine G_isub (g_da dt_M_swap 21 rfl) ?_
  refine G_aload_n (g_da dt_M_swap 22 rfl) rfl rfl ?_
  refine G_getR (g_da dt_M_swap 23 rfl) sh_49 fl_15_16 rfl ?_
  refine G_aload_n (g_da dt_M_swap 24 rfl) rfl rfl ?_
  refine H_getI (g_da dt_M_swap 25 rfl) sh_49 fl_15_145 rfl (hJm 49 rfl) ?_
  refine G_iconst (g_da dt_M_swap 26 rfl) ?_
  refine G_isub (g_da dt_M_swap 27 rfl) ?_
  obtain ⟨hb7, h⟩ := o_g h
  refine H_iaload (g_da dt_M_swap 28 rfl) sh_52 (hJm 52 rfl) rfl hb7 rfl ?_
  obtain ⟨hb8, h⟩ := o_g h
  refine H_iastore (g_da dt_M_swap 29 rfl) sh_52 (hJm 52 rfl) rfl hb8 rfl (fun s9 e10 => ?_)
  have h := o_l h s9 e10
  refine G_aload_n (g_da dt_M_swap 30 rfl) rfl rfl ?_
  refine G_getR (g_da dt_M_swap 31 rfl) sh_49 fl_15_22 rfl ?_
  refine G_aload_n (g_da dt_M_swap 32 rfl) rfl rfl ?_
  refine H_getI (g_da dt_M_swap 33 rfl) sh_49 fl_15_145 rfl (hJm 49 rfl) ?_
  refine G_iconst (g_da dt_M_swap 34 rfl) ?_
  refine G_isub (g_da dt_M_swap 35 rfl) ?_
  refine G_aload_n (g_da dt_M_swap 36 rfl) rfl rfl ?_
  refine G_getR (g_da dt_M_swap 37 rfl) sh_49 fl_15_22 rfl ?_
  refine G_aload_n (g_da dt_M_swap 38 rfl) rfl rfl ?_
  refine H_getI (g_da dt_M_swap 39 rfl) sh_49 fl_15_145 rfl (hJm 49 rfl) ?_
  refine G_iconst (g_da dt_M_swap 40 rfl) ?_
  refine G_isub (g_da dt_M_swap 41 rfl) ?_
  obtain ⟨hb11, h⟩ := o_g h
  refine H_zaload (g_da dt_M_swap 42 rfl) sh_54 (hJm 54 rfl) rfl hb11 rfl ?_
  obtain ⟨hb12, h⟩ := o_g h
  refine H_zastore (g_da dt_M_swap 43 rfl) sh_54 (hJm 54 rfl) rfl hb12 rfl (fun s13 e14 => ?_)
  have h := o_l h s13 e14
  refine G_aload_n (g_da dt_M_swap 44 rfl) rfl rfl ?_
  refine G_getR (g_da dt_M_swap 45 rfl) sh_49 fl_15_16 rfl ?_
  refine G_aload_n (g_da dt_M_swap 46 rfl) rfl rfl ?_
  refine H_getI (g_da dt_M_swap 47 rfl) sh_49 fl_15_145 rfl (hJm 49 rfl) ?_
  refine G_iconst (g_da dt_M_swap 48 rfl) ?_
  refine G_isub (g_da dt_M_swap 49 rfl) ?_
  refine G_iload_n (g_da dt_M_swap 50 rfl) rfl rfl ?_
  obtain ⟨hb15, h⟩ := o_g h
  refine H_iastore (g_da dt_M_swap 51 rfl) sh_52 (hJm 52 rfl) rfl hb15 rfl (fun s16 e17 => ?_)
  have h := o_l h s16 e17
  refine G_aload_n (g_da dt_M_swap 52 rfl) rfl rfl ?_
  refine G_getR (g_da dt_M_swap 53 rfl) sh_49 fl_15_22 rfl ?_
  refine G_aload_n (g_da dt_M_swap 54 rfl) rfl rfl ?_
  refine H_getI (g_da dt_M_swap 55 rfl) sh_49 fl_15_145 rfl (hJm 49 rfl) ?_
  refine G_iconst (g_da dt_M_swap 56 rfl) ?_
  refine G_isub (g_da dt_M_swap 57 rfl) ?_
  refine G_iload_n (g_da dt_M_swap 58 rfl) rfl rfl ?_
  obtain ⟨hb18, h⟩ := o_g h
  refine H_zastore (g_da dt_M_swap 59 rfl) sh_54 (hJm 54 rfl) rfl hb18 rfl (fun s19 e20 => ?_)
  have h := o_l h s19 e20
  exact G_return (g_da dt_M_swap 60 rfl) rfl rfl (g_nz rfl) (q_g h)
set_option maxHeartbeats 4000000 in
set_option maxRecDepth 100000 in
theorem M_repeat_ok {J : gS → gS} (hJm : g_jm J) {z0 : Int} {s0 : gS} {s : gS} (h : M_repeat s = some (z0, s0)) : Ct M_M_repeat g_S [.ref 49] (J s) (QG g_S J z0 s0) := by
  refine Ct_of [some (.ref 49), none, none] (plainFor_of_name (by decide)) rfl (Nat.le_of_ble_eq_true rfl) rfl (by decide) q_rG ?_
  unfold M_repeat at h
  refine G_aload_n (g_da dt_M_repeat 0 rfl) rfl rfl ?_
  refine G_iconst (g_da dt_M_repeat 1 rfl) ?_
  obtain ⟨r1, s2, hc3, h⟩ := o_b h
  refine H_cVE (M_number_ok hJm hc3) (g_da dt_M_repeat 2 rfl) lk_15_185 mv_M_number rfl sh_49 rfl rfl rfl rfl rfl rfl ?_
  refine G_istore_n (lv' := [_, _, none]) (g_da dt_M_repeat 3 rfl) rfl (Nat.le_of_ble_eq_true rfl) rfl rfl ?_
  refine G_aload_n (g_da dt_M_repeat 4 rfl) rfl rfl ?_
  refine G_iconst (g_da dt_M_repeat 5 rfl) ?_
  obtain ⟨r4, s5, hc6, h⟩ := o_b h
  refine H_cVE (M_number_ok hJm hc6) (g_da dt_M_repeat 6 rfl) lk_15_185 mv_M_number rfl sh_49 rfl rfl rfl rfl rfl rfl ?_
  refine G_istore_n (lv' := [_, _, _]) (g_da dt_M_repeat 7 rfl) rfl (Nat.le_of_ble_eq_true rfl) rfl rfl ?_
  refine G_aload_n (g_da dt_M_repeat 8 rfl) rfl rfl ?_
  refine G_dup (g_da dt_M_repeat 9 rfl) rfl ?_
  refine H_getI (g_da dt_M_repeat 10 rfl) sh_49 fl_15_145 rfl (hJm 49 rfl) ?_
  refine G_iconst (g_da dt_M_repeat 11 rfl) ?_
  refine G_isub (g_da dt_M_repeat 12 rfl) ?_
  refine H_putI (g_da dt_M_repeat 13 rfl) sh_49 fp_15_145 rfl (hJm 49 rfl) (fun s7 e8 => ?_)
  have h := o_l h s7 e8
  refine G_iload_n (g_da dt_M_repeat 14 rfl) rfl rfl ?_
  refine G_if_le (g_da dt_M_repeat 15 rfl) rfl rfl  (fun hc9 => ?_) (fun hc9 => ?_)
  · have h := o_t hc9 h
    exact G_return (g_da dt_M_repeat 25 rfl) rfl rfl (g_nz rfl) (q_g h)
  · have h := o_f hc9 h
    refine G_aload_n (g_da dt_M_repeat 16 rfl) rfl rfl ?_
    refine G_iload_n (g_da dt_M_repeat 17 rfl) rfl rfl ?_
    refine G_iconst (g_da dt_M_repeat 18 rfl) ?_
    refine G_iadd (g_da dt_M_repeat 19 rfl) ?_
    refine G_aload_n (g_da dt_M_repeat 20 rfl) rfl rfl ?_
    refine G_iload_n (g_da dt_M_repeat 21 rfl) rfl rfl ?_
    obtain ⟨r10, s11, hc12, h⟩ := o_b h
    refine H_cVE (M_closing_ok hJm hc12) (g_da dt_M_repeat 22 rfl) lk_15_164 mv_M_closing rfl sh_49 rfl rfl rfl rfl rfl rfl ?_
    refine G_iload_n (g_da dt_M_repeat 23 rfl) rfl rfl ?_
    obtain ⟨r13, s14, hc15, h⟩ := o_b h
    refine H_cVG (M_enter_ok hJm hc15) (g_da dt_M_repeat 24 rfl) lk_15_160 mv_M_enter rfl sh_49 rfl rfl rfl rfl rfl rfl ?_
    exact G_return (g_da dt_M_repeat 25 rfl) rfl rfl (g_nz rfl) (q_g h)
set_option maxHeartbeats 4000000 in
set_option maxRecDepth 100000 in
theorem M_quit_0_ok {J : gS → gS} (hJm : g_jm J) {z0 : Int} {s0 : gS} {k0 : gS → gA} (hk0 : ∀ (s : gS), k0 s = some (z0, s0) → G M_M_quit (QG g_S J z0 s0) (g_S, 0, 0) (J s) 0 [some (.ref 49)] [])  {s : gS} (h : M_quit_0 k0 s = some (z0, s0)) : G M_M_quit (QG g_S J z0 s0) (g_S, 0, 0) (J s) 0 [some (.ref 49)] [] := by
  unfold M_quit_0 at h
  refine G_aload_n (g_da dt_M_quit 0 rfl) rfl rfl ?_
  refine G_getR (g_da dt_M_quit 1 rfl) sh_49 fl_15_35 rfl ?_
  refine G_aload_n (g_da dt_M_quit 2 rfl) rfl rfl ?_
  refine H_getI (g_da dt_M_quit 3 rfl) sh_49 fl_15_157 rfl (hJm 49 rfl) ?_
  refine G_iconst (g_da dt_M_quit 4 rfl) ?_
  refine G_isub (g_da dt_M_quit 5 rfl) ?_
  obtain ⟨hb1, h⟩ := o_g h
  refine H_iaload (g_da dt_M_quit 6 rfl) sh_58 (hJm 58 rfl) rfl hb1 rfl ?_
  refine G_iconst (g_da dt_M_quit 7 rfl) ?_
  refine G_icmp_ne (g_da dt_M_quit 8 rfl) rfl rfl w_m1 (fun hc2 => ?_) (fun hc2 => ?_)
  · have h := o_f hc2 h
    refine G_aload_n (g_da dt_M_quit 16 rfl) rfl rfl ?_
    refine G_dup (g_da dt_M_quit 17 rfl) rfl ?_
    refine H_getI (g_da dt_M_quit 18 rfl) sh_49 fl_15_157 rfl (hJm 49 rfl) ?_
    refine G_iconst (g_da dt_M_quit 19 rfl) ?_
    refine G_isub (g_da dt_M_quit 20 rfl) ?_
    refine H_putI (g_da dt_M_quit 21 rfl) sh_49 fp_15_157 rfl (hJm 49 rfl) (fun s3 e4 => ?_)
    have h := o_l h s3 e4
    exact G_return (g_da dt_M_quit 22 rfl) rfl rfl (g_nz rfl) (q_g h)
  · have h := o_t hc2 h
    refine G_aload_n (g_da dt_M_quit 9 rfl) rfl rfl ?_
    refine G_dup (g_da dt_M_quit 10 rfl) rfl ?_
    refine H_getI (g_da dt_M_quit 11 rfl) sh_49 fl_15_157 rfl (hJm 49 rfl) ?_
    refine G_iconst (g_da dt_M_quit 12 rfl) ?_
    refine G_isub (g_da dt_M_quit 13 rfl) ?_
    refine H_putI (g_da dt_M_quit 14 rfl) sh_49 fp_15_157 rfl (hJm 49 rfl) (fun s5 e6 => ?_)
    have h := o_l h s5 e6
    refine G_goto (g_da dt_M_quit 15 rfl) rfl ?_
    exact G_subK (hk0 _ h) ⟨rfl, trivial⟩
set_option maxHeartbeats 4000000 in
set_option maxRecDepth 100000 in
theorem M_quit_0L_ok {J : gS → gS} (hJm : g_jm J) {z0 : Int} {s0 : gS} : ∀ (n : Nat) {s : gS}, M_quit_0L n s = some (z0, s0) → G M_M_quit (QG g_S J z0 s0) (g_S, 0, 0) (J s) 0 [some (.ref 49)] [] := by
  intro n
  induction n with
  | zero => intro _ h; cases h
  | succ n ih => intro _ h; exact M_quit_0_ok hJm (fun _ h => ih h) h
set_option maxHeartbeats 4000000 in
set_option maxRecDepth 100000 in
theorem M_quit_ok {J : gS → gS} (hJm : g_jm J) {z0 : Int} {s0 : gS} {s : gS} (h : M_quit s = some (z0, s0)) : Ct M_M_quit g_S [.ref 49] (J s) (QG g_S J z0 s0) := by
  refine Ct_of [some (.ref 49)] (plainFor_of_name (by decide)) rfl (Nat.le_of_ble_eq_true rfl) rfl (by decide) q_rG ?_
  unfold M_quit at h
  exact G_subK (M_quit_0L_ok hJm gFu h) ⟨rfl, trivial⟩
set_option maxHeartbeats 4000000 in
set_option maxRecDepth 100000 in
theorem M_push_ok {J : gS → gS} (hJm : g_jm J) {z0 : Int} {s0 : gS} {a1 a2 : Int} {s : gS} (h : M_push a1 a2 s = some (z0, s0)) : Ct M_M_push g_S [.ref 49, gi a1, gi a2] (J s) (QG g_S J z0 s0) := by
  refine Ct_of [some (.ref 49), some (gi a1), some (gi a2)] (plainFor_of_name (by decide)) rfl (Nat.le_of_ble_eq_true rfl) rfl (by decide) q_rG ?_
  unfold M_push at h
  refine G_aload_n (g_da dt_M_push 0 rfl) rfl rfl ?_
  refine G_getR (g_da dt_M_push 1 rfl) sh_49 fl_15_16 rfl ?_
  refine G_aload_n (g_da dt_M_push 2 rfl) rfl rfl ?_
  refine H_getI (g_da dt_M_push 3 rfl) sh_49 fl_15_145 rfl (hJm 49 rfl) ?_
  refine G_iload_n (g_da dt_M_push 4 rfl) rfl rfl ?_
  obtain ⟨hb1, h⟩ := o_g h
  refine H_iastore (g_da dt_M_push 5 rfl) sh_52 (hJm 52 rfl) rfl hb1 rfl (fun s2 e3 => ?_)
  have h := o_l h s2 e3
  refine G_aload_n (g_da dt_M_push 6 rfl) rfl rfl ?_
  refine G_getR (g_da dt_M_push 7 rfl) sh_49 fl_15_22 rfl ?_
  refine G_aload_n (g_da dt_M_push 8 rfl) rfl rfl ?_
  refine H_getI (g_da dt_M_push 9 rfl) sh_49 fl_15_145 rfl (hJm 49 rfl) ?_
  refine G_iload_n (g_da dt_M_push 10 rfl) rfl rfl ?_
  obtain ⟨hb4, h⟩ := o_g h
  refine H_zastore (g_da dt_M_push 11 rfl) sh_54 (hJm 54 rfl) rfl hb4 rfl (fun s5 e6 => ?_)
  have h := o_l h s5 e6
  refine G_aload_n (g_da dt_M_push 12 rfl) rfl rfl ?_
  refine G_dup (g_da dt_M_push 13 rfl) rfl ?_
  refine H_getI (g_da dt_M_push 14 rfl) sh_49 fl_15_145 rfl (hJm 49 rfl) ?_
  refine G_iconst (g_da dt_M_push 15 rfl) ?_
  refine G_iadd (g_da dt_M_push 16 rfl) ?_
  refine H_putI (g_da dt_M_push 17 rfl) sh_49 fp_15_145 rfl (hJm 49 rfl) (fun s7 e8 => ?_)
  have h := o_l h s7 e8
  exact G_return (g_da dt_M_push 18 rfl) rfl rfl (g_nz rfl) (q_g h)
set_option maxHeartbeats 4000000 in
set_option maxRecDepth 100000 in
theorem M_state_199_ok {J : gS → gS} (hJm : g_jm J) {z0 : Int} {s0 : gS} {k199 : Int → gS → gA} {k232 : gS → gA} (hk199 : ∀ (l6 : Int) (s : gS), k199 l6 s = some (z0, s0) → G M_M_state (QG g_S J z0 s0) (g_S, 0, 0) (J s) 199 [some (.ref 49), none, none, none, none, none, some (gi l6)] []) (hk232 : ∀ (s : gS), k232 s = some (z0, s0) → G M_M_state (QG g_S J z0 s0) (g_S, 0, 0) (J s) 232 [some (.ref 49), none, none, none, none, none, none] [])  {l6 : Int} {s : gS} (h : M_state_199 k199 k232 l6 s = some (z0, s0)) : G M_M_state (QG g_S J z0 s0) (g_S, 0, 0) (J s) 199 [some (.ref 49), none, none, none, none, none, some (gi l6)] [] := by
  unfold M_state_199 at h
  refine G_iload (g_da dt_M_state 90 rfl) rfl ?_
  refine G_iconst (g_da dt_M_state 91 rfl) ?_
  refine G_icmp_ge (g_da dt_M_state 92 rfl) rfl rfl w_5 (fun hc49 => ?_) (fun hc49 => ?_)
  · have h := o_t hc49 h
    exact G_subK (hk232 _ h) ⟨rfl, trivial⟩
  · have h := o_f hc49 h
    refine G_aload_n (g_da dt_M_state 93 rfl) rfl rfl ?_
    refine G_getR (g_da dt_M_state 94 rfl) sh_49 fl_15_47 rfl ?_
    refine G_iconst (g_da dt_M_state 95 rfl) ?_
    refine G_aload_n (g_da dt_M_state 96 rfl) rfl rfl ?_
    refine H_getI (g_da dt_M_state 97 rfl) sh_49 fl_15_148 rfl (hJm 49 rfl) ?_
    refine G_imul (g_da dt_M_state 98 rfl) ?_
    refine G_iload (g_da dt_M_state 99 rfl) rfl ?_
    refine G_iadd (g_da dt_M_state 100 rfl) ?_
    refine G_aload_n (g_da dt_M_state 101 rfl) rfl rfl ?_
    refine G_getR (g_da dt_M_state 102 rfl) sh_49 fl_15_47 rfl ?_
    refine G_iload (g_da dt_M_state 103 rfl) rfl ?_
    obtain ⟨hb50, h⟩ := o_g h
    refine H_iaload (g_da dt_M_state 104 rfl) sh_62 (hJm 62 rfl) rfl hb50 rfl ?_
    obtain ⟨hb51, h⟩ := o_g h
    refine H_iastore (g_da dt_M_state 105 rfl) sh_62 (hJm 62 rfl) rfl hb51 rfl (fun s52 e53 => ?_)
    have h := o_l h s52 e53
    refine G_iinc (lv' := [_, none, none, none, none, none, _]) (g_da dt_M_state 106 rfl) rfl (Nat.le_of_ble_eq_true rfl) rfl rfl ?_
    refine G_goto (g_da dt_M_state 107 rfl) rfl ?_
    exact G_subK (hk199 _ _ h) ⟨rfl, ⟨rfl, trivial⟩⟩
set_option maxHeartbeats 4000000 in
set_option maxRecDepth 100000 in
theorem M_state_199L_ok {J : gS → gS} (hJm : g_jm J) {z0 : Int} {s0 : gS} {k232 : gS → gA} (hk232 : ∀ (s : gS), k232 s = some (z0, s0) → G M_M_state (QG g_S J z0 s0) (g_S, 0, 0) (J s) 232 [some (.ref 49), none, none, none, none, none, none] []) : ∀ (n : Nat) {l6 : Int} {s : gS}, M_state_199L k232 n l6 s = some (z0, s0) → G M_M_state (QG g_S J z0 s0) (g_S, 0, 0) (J s) 199 [some (.ref 49), none, none, none, none, none, some (gi l6)] [] := by
  intro n
  induction n with
  | zero => intro _ _ h; cases h
  | succ n ih => intro _ _ h; exact M_state_199_ok hJm (fun _ _ h => ih h) hk232 h
set_option maxHeartbeats 4000000 in
set_option maxRecDepth 100000 in
theorem M_state_235_ok {J : gS → gS} (hJm : g_jm J) {z0 : Int} {s0 : gS} {k235 : Int → gS → gA} (hk235 : ∀ (l6 : Int) (s : gS), k235 l6 s = some (z0, s0) → G M_M_state (QG g_S J z0 s0) (g_S, 0, 0) (J s) 235 [some (.ref 49), none, none, none, none, none, some (gi l6)] [])  {l6 : Int} {s : gS} (h : M_state_235 k235 l6 s = some (z0, s0)) : G M_M_state (QG g_S J z0 s0) (g_S, 0, 0) (J s) 235 [some (.ref 49), none, none, none, none, none, some (gi l6)] [] := by
  unfold M_state_235 at h
  refine G_iload (g_da dt_M_state 110 rfl) rfl ?_
  refine G_sipush (g_da dt_M_state 111 rfl) s16w_3072 ?_
  refine G_icmp_ge (g_da dt_M_state 112 rfl) rfl rfl w_3072 (fun hc54 => ?_) (fun hc54 => ?_)
  · have h := o_t hc54 h
    refine G_goto (g_da dt_M_state 128 rfl) rfl ?_
    exact G_return (g_da dt_M_state 216 rfl) rfl rfl (g_nz rfl) (q_g h)
  · have h := o_f hc54 h
    refine G_aload_n (g_da dt_M_state 113 rfl) rfl rfl ?_
    refine G_getR (g_da dt_M_state 114 rfl) sh_49 fl_15_50 rfl ?_
    refine G_sipush (g_da dt_M_state 115 rfl) s16w_3072 ?_
    refine G_aload_n (g_da dt_M_state 116 rfl) rfl rfl ?_
    refine H_getI (g_da dt_M_state 117 rfl) sh_49 fl_15_148 rfl (hJm 49 rfl) ?_
    refine G_imul (g_da dt_M_state 118 rfl) ?_
    refine G_iload (g_da dt_M_state 119 rfl) rfl ?_
    refine G_iadd (g_da dt_M_state 120 rfl) ?_
    refine G_aload_n (g_da dt_M_state 121 rfl) rfl rfl ?_
    refine G_getR (g_da dt_M_state 122 rfl) sh_49 fl_15_50 rfl ?_
    refine G_iload (g_da dt_M_state 123 rfl) rfl ?_
    obtain ⟨hb55, h⟩ := o_g h
    refine H_zaload (g_da dt_M_state 124 rfl) sh_63 (hJm 63 rfl) rfl hb55 rfl ?_
    obtain ⟨hb56, h⟩ := o_g h
    refine H_zastore (g_da dt_M_state 125 rfl) sh_63 (hJm 63 rfl) rfl hb56 rfl (fun s57 e58 => ?_)
    have h := o_l h s57 e58
    refine G_iinc (lv' := [_, none, none, none, none, none, _]) (g_da dt_M_state 126 rfl) rfl (Nat.le_of_ble_eq_true rfl) rfl rfl ?_
    refine G_goto (g_da dt_M_state 127 rfl) rfl ?_
    exact G_subK (hk235 _ _ h) ⟨rfl, ⟨rfl, trivial⟩⟩
set_option maxHeartbeats 4000000 in
set_option maxRecDepth 100000 in
theorem M_state_235L_ok {J : gS → gS} (hJm : g_jm J) {z0 : Int} {s0 : gS} : ∀ (n : Nat) {l6 : Int} {s : gS}, M_state_235L n l6 s = some (z0, s0) → G M_M_state (QG g_S J z0 s0) (g_S, 0, 0) (J s) 235 [some (.ref 49), none, none, none, none, none, some (gi l6)] [] := by
  intro n
  induction n with
  | zero => intro _ _ h; cases h
  | succ n ih => intro _ _ h; exact M_state_235_ok hJm (fun _ _ h => ih h) h
set_option maxHeartbeats 4000000 in
set_option maxRecDepth 100000 in
theorem M_state_232_ok {J : gS → gS} (hJm : g_jm J) {z0 : Int} {s0 : gS}  {s : gS} (h : M_state_232 s = some (z0, s0)) : G M_M_state (QG g_S J z0 s0) (g_S, 0, 0) (J s) 232 [some (.ref 49), none, none, none, none, none, none] [] := by
  unfold M_state_232 at h
  refine G_iconst (g_da dt_M_state 108 rfl) ?_
  refine G_istore (lv' := [_, none, none, none, none, none, _]) (g_da dt_M_state 109 rfl) (Nat.le_of_ble_eq_true rfl) rfl rfl ?_
  exact G_subK (M_state_235L_ok hJm gFu h) ⟨rfl, ⟨rfl, trivial⟩⟩
set_option maxHeartbeats 4000000 in
set_option maxRecDepth 100000 in
theorem M_state_278_ok {J : gS → gS} (hJm : g_jm J) {z0 : Int} {s0 : gS} {k278 : Int → gS → gA} {k311 : gS → gA} (hk278 : ∀ (l6 : Int) (s : gS), k278 l6 s = some (z0, s0) → G M_M_state (QG g_S J z0 s0) (g_S, 0, 0) (J s) 278 [some (.ref 49), none, none, none, none, none, some (gi l6)] []) (hk311 : ∀ (s : gS), k311 s = some (z0, s0) → G M_M_state (QG g_S J z0 s0) (g_S, 0, 0) (J s) 311 [some (.ref 49), none, none, none, none, none, none] [])  {l6 : Int} {s : gS} (h : M_state_278 k278 k311 l6 s = some (z0, s0)) : G M_M_state (QG g_S J z0 s0) (g_S, 0, 0) (J s) 278 [some (.ref 49), none, none, none, none, none, some (gi l6)] [] := by
  unfold M_state_278 at h
  refine G_iload (g_da dt_M_state 131 rfl) rfl ?_
  refine G_iconst (g_da dt_M_state 132 rfl) ?_
  refine G_icmp_ge (g_da dt_M_state 133 rfl) rfl rfl w_5 (fun hc59 => ?_) (fun hc59 => ?_)
  · have h := o_t hc59 h
    exact G_subK (hk311 _ h) ⟨rfl, trivial⟩
  · have h := o_f hc59 h
    refine G_aload_n (g_da dt_M_state 134 rfl) rfl rfl ?_
    refine G_getR (g_da dt_M_state 135 rfl) sh_49 fl_15_47 rfl ?_
    refine G_iload (g_da dt_M_state 136 rfl) rfl ?_
    refine G_aload_n (g_da dt_M_state 137 rfl) rfl rfl ?_
    refine G_getR (g_da dt_M_state 138 rfl) sh_49 fl_15_47 rfl ?_
    refine G_iconst (g_da dt_M_state 139 rfl) ?_
    refine G_aload_n (g_da dt_M_state 140 rfl) rfl rfl ?_
    refine H_getI (g_da dt_M_state 141 rfl) sh_49 fl_15_148 rfl (hJm 49 rfl) ?_
    refine G_imul (g_da dt_M_state 142 rfl) ?_
    refine G_iload (g_da dt_M_state 143 rfl) rfl ?_
    refine G_iadd (g_da dt_M_state 144 rfl) ?_
    obtain ⟨hb60, h⟩ := o_g h
    refine H_iaload (g_da dt_M_state 145 rfl) sh_62 (hJm 62 rfl) rfl hb60 rfl ?_
    obtain ⟨hb61, h⟩ := o_g h
    refine H_iastore (g_da dt_M_state 146 rfl) sh_62 (hJm 62 rfl) rfl hb61 rfl (fun s62 e63 => ?_)
    have h := o_l h s62 e63
    refine G_iinc (lv' := [_, none, none, none, none, none, _]) (g_da dt_M_state 147 rfl) rfl (Nat.le_of_ble_eq_true rfl) rfl rfl ?_
    refine G_goto (g_da dt_M_state 148 rfl) rfl ?_
    exact G_subK (hk278 _ _ h) ⟨rfl, ⟨rfl, trivial⟩⟩
set_option maxHeartbeats 4000000 in
set_option maxRecDepth 100000 in
theorem M_state_278L_ok {J : gS → gS} (hJm : g_jm J) {z0 : Int} {s0 : gS} {k311 : gS → gA} (hk311 : ∀ (s : gS), k311 s = some (z0, s0) → G M_M_state (QG g_S J z0 s0) (g_S, 0, 0) (J s) 311 [some (.ref 49), none, none, none, none, none, none] []) : ∀ (n : Nat) {l6 : Int} {s : gS}, M_state_278L k311 n l6 s = some (z0, s0) → G M_M_state (QG g_S J z0 s0) (g_S, 0, 0) (J s) 278 [some (.ref 49), none, none, none, none, none, some (gi l6)] [] := by
  intro n
  induction n with
  | zero => intro _ _ h; cases h
  | succ n ih => intro _ _ h; exact M_state_278_ok hJm (fun _ _ h => ih h) hk311 h
set_option maxHeartbeats 4000000 in
set_option maxRecDepth 100000 in
theorem M_state_314_ok {J : gS → gS} (hJm : g_jm J) {z0 : Int} {s0 : gS} {k314 : Int → gS → gA} {k351 : gS → gA} (hk314 : ∀ (l6 : Int) (s : gS), k314 l6 s = some (z0, s0) → G M_M_state (QG g_S J z0 s0) (g_S, 0, 0) (J s) 314 [some (.ref 49), none, none, none, none, none, some (gi l6)] []) (hk351 : ∀ (s : gS), k351 s = some (z0, s0) → G M_M_state (QG g_S J z0 s0) (g_S, 0, 0) (J s) 351 [some (.ref 49), none, none, none, none, none, none] [])  {l6 : Int} {s : gS} (h : M_state_314 k314 k351 l6 s = some (z0, s0)) : G M_M_state (QG g_S J z0 s0) (g_S, 0, 0) (J s) 314 [some (.ref 49), none, none, none, none, none, some (gi l6)] [] := by
  unfold M_state_314 at h
  refine G_iload (g_da dt_M_state 151 rfl) rfl ?_
  refine G_sipush (g_da dt_M_state 152 rfl) s16w_3072 ?_
  refine G_icmp_ge (g_da dt_M_state 153 rfl) rfl rfl w_3072 (fun hc64 => ?_) (fun hc64 => ?_)
  · have h := o_t hc64 h
    exact G_subK (hk351 _ h) ⟨rfl, trivial⟩
  · have h := o_f hc64 h
    refine G_aload_n (g_da dt_M_state 154 rfl) rfl rfl ?_
    refine G_getR (g_da dt_M_state 155 rfl) sh_49 fl_15_50 rfl ?_
    refine G_iload (g_da dt_M_state 156 rfl) rfl ?_
    refine G_aload_n (g_da dt_M_state 157 rfl) rfl rfl ?_
    refine G_getR (g_da dt_M_state 158 rfl) sh_49 fl_15_50 rfl ?_
    refine G_sipush (g_da dt_M_state 159 rfl) s16w_3072 ?_
    refine G_aload_n (g_da dt_M_state 160 rfl) rfl rfl ?_
    refine H_getI (g_da dt_M_state 161 rfl) sh_49 fl_15_148 rfl (hJm 49 rfl) ?_
    refine G_imul (g_da dt_M_state 162 rfl) ?_
    refine G_iload (g_da dt_M_state 163 rfl) rfl ?_
    refine G_iadd (g_da dt_M_state 164 rfl) ?_
    obtain ⟨hb65, h⟩ := o_g h
    refine H_zaload (g_da dt_M_state 165 rfl) sh_63 (hJm 63 rfl) rfl hb65 rfl ?_
    obtain ⟨hb66, h⟩ := o_g h
    refine H_zastore (g_da dt_M_state 166 rfl) sh_63 (hJm 63 rfl) rfl hb66 rfl (fun s67 e68 => ?_)
    have h := o_l h s67 e68
    refine G_iinc (lv' := [_, none, none, none, none, none, _]) (g_da dt_M_state 167 rfl) rfl (Nat.le_of_ble_eq_true rfl) rfl rfl ?_
    refine G_goto (g_da dt_M_state 168 rfl) rfl ?_
    exact G_subK (hk314 _ _ h) ⟨rfl, ⟨rfl, trivial⟩⟩
set_option maxHeartbeats 4000000 in
set_option maxRecDepth 100000 in
theorem M_state_314L_ok {J : gS → gS} (hJm : g_jm J) {z0 : Int} {s0 : gS} {k351 : gS → gA} (hk351 : ∀ (s : gS), k351 s = some (z0, s0) → G M_M_state (QG g_S J z0 s0) (g_S, 0, 0) (J s) 351 [some (.ref 49), none, none, none, none, none, none] []) : ∀ (n : Nat) {l6 : Int} {s : gS}, M_state_314L k351 n l6 s = some (z0, s0) → G M_M_state (QG g_S J z0 s0) (g_S, 0, 0) (J s) 314 [some (.ref 49), none, none, none, none, none, some (gi l6)] [] := by
  intro n
  induction n with
  | zero => intro _ _ h; cases h
  | succ n ih => intro _ _ h; exact M_state_314_ok hJm (fun _ _ h => ih h) hk351 h
set_option maxHeartbeats 4000000 in
set_option maxRecDepth 100000 in
theorem M_state_351_ok {J : gS → gS} (hJm : g_jm J) {z0 : Int} {s0 : gS}  {s : gS} (h : M_state_351 s = some (z0, s0)) : G M_M_state (QG g_S J z0 s0) (g_S, 0, 0) (J s) 351 [some (.ref 49), none, none, none, none, none, none] [] := by
  unfold M_state_351 at h
  refine G_aload_n (g_da dt_M_state 169 rfl) rfl rfl ?_
  refine G_dup (g_da dt_M_state 170 rfl) rfl ?_
  refine H_getI (g_da dt_M_state 171 rfl) sh_49 fl_15_148 rfl (hJm 49 rfl) ?_
  refine G_iconst (g_da dt_M_state 172 rfl) ?_
  refine G_isub (g_da dt_M_state 173 rfl) ?_
  refine H_putI (g_da dt_M_state 174 rfl) sh_49 fp_15_148 rfl (hJm 49 rfl) (fun s69 e70 => ?_)
  have h := o_l h s69 e70
  refine G_goto (g_da dt_M_state 175 rfl) rfl ?_
  exact G_return (g_da dt_M_state 216 rfl) rfl rfl (g_nz rfl) (q_g h)
set_option maxHeartbeats 4000000 in
set_option maxRecDepth 100000 in
theorem M_state_311_ok {J : gS → gS} (hJm : g_jm J) {z0 : Int} {s0 : gS}  {s : gS} (h : M_state_311 s = some (z0, s0)) : G M_M_state (QG g_S J z0 s0) (g_S, 0, 0) (J s) 311 [some (.ref 49), none, none, none, none, none, none] [] := by
  unfold M_state_311 at h
  refine G_iconst (g_da dt_M_state 149 rfl) ?_
  refine G_istore (lv' := [_, none, none, none, none, none, _]) (g_da dt_M_state 150 rfl) (Nat.le_of_ble_eq_true rfl) rfl rfl ?_
  exact G_subK (M_state_314L_ok hJm (fun _ h => M_state_351_ok hJm h) gFu h) ⟨rfl, ⟨rfl, trivial⟩⟩
set_option maxHeartbeats 4000000 in
set_option maxRecDepth 100000 in
theorem M_state_367_ok {J : gS → gS} (hJm : g_jm J) {z0 : Int} {s0 : gS} {k367 : Int → gS → gA} {k420 : gS → gA} (hk367 : ∀ (l6 : Int) (s : gS), k367 l6 s = some (z0, s0) → G M_M_state (QG g_S J z0 s0) (g_S, 0, 0) (J s) 367 [some (.ref 49), none, none, none, none, none, some (gi l6)] []) (hk420 : ∀ (s : gS), k420 s = some (z0, s0) → G M_M_state (QG g_S J z0 s0) (g_S, 0, 0) (J s) 420 [some (.ref 49), none, none, none, none, none, none] [])  {l6 : Int} {s : gS} (h : M_state_367 k367 k420 l6 s = some (z0, s0)) : G M_M_state (QG g_S J z0 s0) (g_S, 0, 0) (J s) 367 [some (.ref 49), none, none, none, none, none, some (gi l6)] [] := by
  unfold M_state_367 at h
  refine G_iload (g_da dt_M_state 178 rfl) rfl ?_
  refine G_sipush (g_da dt_M_state 179 rfl) s16w_3072 ?_
  refine G_icmp_ge (g_da dt_M_state 180 rfl) rfl rfl w_3072 (fun hc71 => ?_) (fun hc71 => ?_)
  · have h := o_t hc71 h
    exact G_subK (hk420 _ h) ⟨rfl, trivial⟩
  · have h := o_f hc71 h
    refine G_aload_n (g_da dt_M_state 181 rfl) rfl rfl ?_
    refine G_getR (g_da dt_M_state 182 rfl) sh_49 fl_15_53 rfl ?_
    refine G_sipush (g_da dt_M_state 183 rfl) s16w_3072 ?_
    refine G_aload_n (g_da dt_M_state 184 rfl) rfl rfl ?_
    refine H_getI (g_da dt_M_state 185 rfl) sh_49 fl_15_139 rfl (hJm 49 rfl) ?_
    refine G_imul (g_da dt_M_state 186 rfl) ?_
    refine G_iload (g_da dt_M_state 187 rfl) rfl ?_
    refine G_iadd (g_da dt_M_state 188 rfl) ?_
    refine G_aload_n (g_da dt_M_state 189 rfl) rfl rfl ?_
    refine G_getR (g_da dt_M_state 190 rfl) sh_49 fl_15_53 rfl ?_
    refine G_sipush (g_da dt_M_state 191 rfl) s16w_24576 ?_
    refine G_iload (g_da dt_M_state 192 rfl) rfl ?_
    refine G_iadd (g_da dt_M_state 193 rfl) ?_
    obtain ⟨hb72, h⟩ := o_g h
    refine H_zaload (g_da dt_M_state 194 rfl) sh_64 (hJm 64 rfl) rfl hb72 rfl ?_
    obtain ⟨hb73, h⟩ := o_g h
    refine H_zastore (g_da dt_M_state 195 rfl) sh_64 (hJm 64 rfl) rfl hb73 rfl (fun s74 e75 => ?_)
    have h := o_l h s74 e75
    refine G_aload_n (g_da dt_M_state 196 rfl) rfl rfl ?_
    refine G_getR (g_da dt_M_state 197 rfl) sh_49 fl_15_53 rfl ?_
    refine G_sipush (g_da dt_M_state 198 rfl) s16w_24576 ?_
    refine G_iload (g_da dt_M_state 199 rfl) rfl ?_
    refine G_iadd (g_da dt_M_state 200 rfl) ?_
    refine G_iconst (g_da dt_M_state 201 rfl) ?_
    obtain ⟨hb76, h⟩ := o_g h
    refine H_zastore (g_da dt_M_state 202 rfl) sh_64 (hJm 64 rfl) rfl hb76 rfl (fun s77 e78 => ?_)
    have h := o_l h s77 e78
    refine G_iinc (lv' := [_, none, none, none, none, none, _]) (g_da dt_M_state 203 rfl) rfl (Nat.le_of_ble_eq_true rfl) rfl rfl ?_
    refine G_goto (g_da dt_M_state 204 rfl) rfl ?_
    exact G_subK (hk367 _ _ h) ⟨rfl, ⟨rfl, trivial⟩⟩
set_option maxHeartbeats 4000000 in
set_option maxRecDepth 100000 in
theorem M_state_367L_ok {J : gS → gS} (hJm : g_jm J) {z0 : Int} {s0 : gS} {k420 : gS → gA} (hk420 : ∀ (s : gS), k420 s = some (z0, s0) → G M_M_state (QG g_S J z0 s0) (g_S, 0, 0) (J s) 420 [some (.ref 49), none, none, none, none, none, none] []) : ∀ (n : Nat) {l6 : Int} {s : gS}, M_state_367L k420 n l6 s = some (z0, s0) → G M_M_state (QG g_S J z0 s0) (g_S, 0, 0) (J s) 367 [some (.ref 49), none, none, none, none, none, some (gi l6)] [] := by
  intro n
  induction n with
  | zero => intro _ _ h; cases h
  | succ n ih => intro _ _ h; exact M_state_367_ok hJm (fun _ _ h => ih h) hk420 h
set_option maxHeartbeats 4000000 in
set_option maxRecDepth 100000 in
theorem M_state_420_ok {J : gS → gS} (hJm : g_jm J) {z0 : Int} {s0 : gS}  {s : gS} (h : M_state_420 s = some (z0, s0)) : G M_M_state (QG g_S J z0 s0) (g_S, 0, 0) (J s) 420 [some (.ref 49), none, none, none, none, none, none] [] := by
  unfold M_state_420 at h
  refine G_aload_n (g_da dt_M_state 205 rfl) rfl rfl ?_
  refine G_dup (g_da dt_M_state 206 rfl) rfl ?_
  refine H_getI (g_da dt_M_state 207 rfl) sh_49 fl_15_139 rfl (hJm 49 rfl) ?_
  refine G_iconst (g_da dt_M_state 208 rfl) ?_
  refine G_iadd (g_da dt_M_state 209 rfl) ?_
  refine H_putI (g_da dt_M_state 210 rfl) sh_49 fp_15_139 rfl (hJm 49 rfl) (fun s79 e80 => ?_)
  have h := o_l h s79 e80
  refine G_aload_n (g_da dt_M_state 211 rfl) rfl rfl ?_
  refine G_iconst (g_da dt_M_state 212 rfl) ?_
  refine H_putI (g_da dt_M_state 213 rfl) sh_49 fp_15_151 rfl (hJm 49 rfl) (fun s81 e82 => ?_)
  have h := o_l h s81 e82
  refine G_aload_n (g_da dt_M_state 214 rfl) rfl rfl ?_
  obtain ⟨r83, s84, hc85, h⟩ := o_b h
  refine H_cVG (M_noPath_ok hJm hc85) (g_da dt_M_state 215 rfl) lk_15_154 mv_M_noPath rfl sh_49 rfl rfl rfl rfl rfl rfl ?_
  exact G_return (g_da dt_M_state 216 rfl) rfl rfl (g_nz rfl) (q_g h)
set_option maxHeartbeats 4000000 in
set_option maxRecDepth 100000 in
theorem M_state_ok {J : gS → gS} (hJm : g_jm J) {z0 : Int} {s0 : gS} {a1 : Int} {s : gS} (h : M_state a1 s = some (z0, s0)) : Ct M_M_state g_S [.ref 49, gi a1] (J s) (QG g_S J z0 s0) := by
  refine Ct_of [some (.ref 49), some (gi a1), none, none, none, none, none] (plainFor_of_name (by decide)) rfl (Nat.le_of_ble_eq_true rfl) rfl (by decide) q_rG ?_
  unfold M_state at h
  refine G_iload_n (g_da dt_M_state 0 rfl) rfl rfl ?_
  refine G_lookup [(71, 158), (83, 103), (84, 52), (85, 186), (86, 275)] 364 (g_da dt_M_state 1 rfl) rfl rfl rfl ⟨fun hc1 => ?_, fun hc1 => ⟨fun hc2 => ?_, fun hc2 => ⟨fun hc3 => ?_, fun hc3 => ⟨fun hc4 => ?_, fun hc4 => ⟨fun hc5 => ?_, fun hc5 => ?_⟩⟩⟩⟩⟩
  · have h := o_t hc1 h
    refine G_aload_n (g_da dt_M_state 66 rfl) rfl rfl ?_
    refine G_dup (g_da dt_M_state 67 rfl) rfl ?_
    refine H_getI (g_da dt_M_state 68 rfl) sh_49 fl_15_145 rfl (hJm 49 rfl) ?_
    refine G_iconst (g_da dt_M_state 69 rfl) ?_
    refine G_isub (g_da dt_M_state 70 rfl) ?_
    refine H_putI (g_da dt_M_state 71 rfl) sh_49 fp_15_145 rfl (hJm 49 rfl) (fun s6 e7 => ?_)
    have h := o_l h s6 e7
    refine G_aload_n (g_da dt_M_state 72 rfl) rfl rfl ?_
    refine G_getR (g_da dt_M_state 73 rfl) sh_49 fl_15_47 rfl ?_
    refine G_iconst (g_da dt_M_state 74 rfl) ?_
    refine G_aload_n (g_da dt_M_state 75 rfl) rfl rfl ?_
    refine G_getR (g_da dt_M_state 76 rfl) sh_49 fl_15_16 rfl ?_
    refine G_aload_n (g_da dt_M_state 77 rfl) rfl rfl ?_
    refine H_getI (g_da dt_M_state 78 rfl) sh_49 fl_15_145 rfl (hJm 49 rfl) ?_
    obtain ⟨hb8, h⟩ := o_g h
    refine H_iaload (g_da dt_M_state 79 rfl) sh_52 (hJm 52 rfl) rfl hb8 rfl ?_
    refine H_iastore (g_da dt_M_state 80 rfl) sh_62 (hJm 62 rfl) w_4 ⟨by decide, by decide⟩ rfl (fun s9 e10 => ?_)
    have h := o_l h s9 e10
    refine G_goto (g_da dt_M_state 81 rfl) rfl ?_
    exact G_return (g_da dt_M_state 216 rfl) rfl rfl (g_nz rfl) (q_g h)
  · have h := o_f hc1 h
    have h := o_t hc2 h
    refine G_aload_n (g_da dt_M_state 33 rfl) rfl rfl ?_
    refine G_getR (g_da dt_M_state 34 rfl) sh_49 fl_15_47 rfl ?_
    refine G_iconst (g_da dt_M_state 35 rfl) ?_
    refine G_aload_n (g_da dt_M_state 36 rfl) rfl rfl ?_
    refine G_getR (g_da dt_M_state 37 rfl) sh_49 fl_15_47 rfl ?_
    refine G_iconst (g_da dt_M_state 38 rfl) ?_
    refine H_iaload (g_da dt_M_state 39 rfl) sh_62 (hJm 62 rfl) w_0 ⟨by decide, by decide⟩ rfl ?_
    refine G_aload_n (g_da dt_M_state 40 rfl) rfl rfl ?_
    refine G_iconst (g_da dt_M_state 41 rfl) ?_
    obtain ⟨r11, s12, hc13, h⟩ := o_b h
    refine H_cVE (M_number_ok hJm hc13) (g_da dt_M_state 42 rfl) lk_15_185 mv_M_number rfl sh_49 rfl rfl rfl rfl rfl rfl ?_
    obtain ⟨r14, s15, hc16, h⟩ := o_b h
    refine H_cSF (M_sixteenth_ok hc16) (g_da dt_M_state 43 rfl) lk_15_181 ms_M_sixteenth rfl rfl rfl rfl rfl rfl ?_
    refine G_l2i (g_da dt_M_state 44 rfl) ?_
    refine H_iastore (g_da dt_M_state 45 rfl) sh_62 (hJm 62 rfl) w_0 ⟨by decide, by decide⟩ rfl (fun s17 e18 => ?_)
    have h := o_l h s17 e18
    refine G_aload_n (g_da dt_M_state 46 rfl) rfl rfl ?_
    refine G_getR (g_da dt_M_state 47 rfl) sh_49 fl_15_47 rfl ?_
    refine G_iconst (g_da dt_M_state 48 rfl) ?_
    refine G_aload_n (g_da dt_M_state 49 rfl) rfl rfl ?_
    refine G_getR (g_da dt_M_state 50 rfl) sh_49 fl_15_47 rfl ?_
    refine G_iconst (g_da dt_M_state 51 rfl) ?_
    refine H_iaload (g_da dt_M_state 52 rfl) sh_62 (hJm 62 rfl) w_1 ⟨by decide, by decide⟩ rfl ?_
    refine G_aload_n (g_da dt_M_state 53 rfl) rfl rfl ?_
    refine G_iconst (g_da dt_M_state 54 rfl) ?_
    obtain ⟨r19, s20, hc21, h⟩ := o_b h
    refine H_cVE (M_number_ok hJm hc21) (g_da dt_M_state 55 rfl) lk_15_185 mv_M_number rfl sh_49 rfl rfl rfl rfl rfl rfl ?_
    obtain ⟨r22, s23, hc24, h⟩ := o_b h
    refine H_cSF (M_sixteenth_ok hc24) (g_da dt_M_state 56 rfl) lk_15_181 ms_M_sixteenth rfl rfl rfl rfl rfl rfl ?_
    refine G_l2i (g_da dt_M_state 57 rfl) ?_
    refine H_iastore (g_da dt_M_state 58 rfl) sh_62 (hJm 62 rfl) w_1 ⟨by decide, by decide⟩ rfl (fun s25 e26 => ?_)
    have h := o_l h s25 e26
    refine G_aload_n (g_da dt_M_state 59 rfl) rfl rfl ?_
    refine G_dup (g_da dt_M_state 60 rfl) rfl ?_
    refine H_getI (g_da dt_M_state 61 rfl) sh_49 fl_15_145 rfl (hJm 49 rfl) ?_
    refine G_iconst (g_da dt_M_state 62 rfl) ?_
    refine G_isub (g_da dt_M_state 63 rfl) ?_
    refine H_putI (g_da dt_M_state 64 rfl) sh_49 fp_15_145 rfl (hJm 49 rfl) (fun s27 e28 => ?_)
    have h := o_l h s27 e28
    refine G_goto (g_da dt_M_state 65 rfl) rfl ?_
    exact G_return (g_da dt_M_state 216 rfl) rfl rfl (g_nz rfl) (q_g h)
  · have h := o_f hc1 h
    have h := o_f hc2 h
    have h := o_t hc3 h
    refine G_aload_n (g_da dt_M_state 2 rfl) rfl rfl ?_
    refine G_aload_n (g_da dt_M_state 3 rfl) rfl rfl ?_
    refine G_iconst (g_da dt_M_state 4 rfl) ?_
    obtain ⟨r29, s30, hc31, h⟩ := o_b h
    refine H_cVE (M_number_ok hJm hc31) (g_da dt_M_state 5 rfl) lk_15_185 mv_M_number rfl sh_49 rfl rfl rfl rfl rfl rfl ?_
    obtain ⟨r32, s33, hc34, h⟩ := o_b h
    refine H_cVF (M_xOf_ok hJm hc34) (g_da dt_M_state 6 rfl) lk_15_188 mv_M_xOf rfl sh_49 rfl rfl rfl rfl rfl rfl ?_
    refine G_lstore_n (lv' := [_, _, _, none, none, none, none]) (g_da dt_M_state 7 rfl) rfl (Nat.le_of_ble_eq_true rfl) rfl rfl ?_
    refine G_aload_n (g_da dt_M_state 8 rfl) rfl rfl ?_
    refine G_aload_n (g_da dt_M_state 9 rfl) rfl rfl ?_
    refine G_iconst (g_da dt_M_state 10 rfl) ?_
    obtain ⟨r35, s36, hc37, h⟩ := o_b h
    refine H_cVE (M_number_ok hJm hc37) (g_da dt_M_state 11 rfl) lk_15_185 mv_M_number rfl sh_49 rfl rfl rfl rfl rfl rfl ?_
    obtain ⟨r38, s39, hc40, h⟩ := o_b h
    refine H_cVF (M_yOf_ok hJm hc40) (g_da dt_M_state 12 rfl) lk_15_197 mv_M_yOf rfl sh_49 rfl rfl rfl rfl rfl rfl ?_
    refine G_lstore (lv' := [_, _, _, none, _, none, none]) (g_da dt_M_state 13 rfl) (Nat.le_of_ble_eq_true rfl) rfl rfl ?_
    refine G_aload_n (g_da dt_M_state 14 rfl) rfl rfl ?_
    refine G_getR (g_da dt_M_state 15 rfl) sh_49 fl_15_47 rfl ?_
    refine G_iconst (g_da dt_M_state 16 rfl) ?_
    refine G_lload_n (g_da dt_M_state 17 rfl) rfl rfl ?_
    refine G_l2i (g_da dt_M_state 18 rfl) ?_
    refine H_iastore (g_da dt_M_state 19 rfl) sh_62 (hJm 62 rfl) w_2 ⟨by decide, by decide⟩ rfl (fun s41 e42 => ?_)
    have h := o_l h s41 e42
    refine G_aload_n (g_da dt_M_state 20 rfl) rfl rfl ?_
    refine G_getR (g_da dt_M_state 21 rfl) sh_49 fl_15_47 rfl ?_
    refine G_iconst (g_da dt_M_state 22 rfl) ?_
    refine G_lload (g_da dt_M_state 23 rfl) rfl ?_
    refine G_l2i (g_da dt_M_state 24 rfl) ?_
    refine H_iastore (g_da dt_M_state 25 rfl) sh_62 (hJm 62 rfl) w_3 ⟨by decide, by decide⟩ rfl (fun s43 e44 => ?_)
    have h := o_l h s43 e44
    refine G_aload_n (g_da dt_M_state 26 rfl) rfl rfl ?_
    refine G_dup (g_da dt_M_state 27 rfl) rfl ?_
    refine H_getI (g_da dt_M_state 28 rfl) sh_49 fl_15_145 rfl (hJm 49 rfl) ?_
    refine G_iconst (g_da dt_M_state 29 rfl) ?_
    refine G_isub (g_da dt_M_state 30 rfl) ?_
    refine H_putI (g_da dt_M_state 31 rfl) sh_49 fp_15_145 rfl (hJm 49 rfl) (fun s45 e46 => ?_)
    have h := o_l h s45 e46
    refine G_goto (g_da dt_M_state 32 rfl) rfl ?_
    exact G_return (g_da dt_M_state 216 rfl) rfl rfl (g_nz rfl) (q_g h)
  · have h := o_f hc1 h
    have h := o_f hc2 h
    have h := o_f hc3 h
    have h := o_t hc4 h
    refine G_aload_n (g_da dt_M_state 82 rfl) rfl rfl ?_
    refine G_dup (g_da dt_M_state 83 rfl) rfl ?_
    refine H_getI (g_da dt_M_state 84 rfl) sh_49 fl_15_148 rfl (hJm 49 rfl) ?_
    refine G_iconst (g_da dt_M_state 85 rfl) ?_
    refine G_iadd (g_da dt_M_state 86 rfl) ?_
    refine H_putI (g_da dt_M_state 87 rfl) sh_49 fp_15_148 rfl (hJm 49 rfl) (fun s47 e48 => ?_)
    have h := o_l h s47 e48
    refine G_iconst (g_da dt_M_state 88 rfl) ?_
    refine G_istore (lv' := [_, _, none, none, none, none, _]) (g_da dt_M_state 89 rfl) (Nat.le_of_ble_eq_true rfl) rfl rfl ?_
    exact G_subK (M_state_199L_ok hJm (fun _ h => M_state_232_ok hJm h) gFu h) ⟨rfl, ⟨rfl, trivial⟩⟩
  · have h := o_f hc1 h
    have h := o_f hc2 h
    have h := o_f hc3 h
    have h := o_f hc4 h
    have h := o_t hc5 h
    refine G_iconst (g_da dt_M_state 129 rfl) ?_
    refine G_istore (lv' := [_, _, none, none, none, none, _]) (g_da dt_M_state 130 rfl) (Nat.le_of_ble_eq_true rfl) rfl rfl ?_
    exact G_subK (M_state_278L_ok hJm (fun _ h => M_state_311_ok hJm h) gFu h) ⟨rfl, ⟨rfl, trivial⟩⟩
  · have h := o_f hc1 h
    have h := o_f hc2 h
    have h := o_f hc3 h
    have h := o_f hc4 h
    have h := o_f hc5 h
    refine G_iconst (g_da dt_M_state 176 rfl) ?_
    refine G_istore (lv' := [_, _, none, none, none, none, _]) (g_da dt_M_state 177 rfl) (Nat.le_of_ble_eq_true rfl) rfl rfl ?_
    exact G_subK (M_state_367L_ok hJm (fun _ h => M_state_420_ok hJm h) gFu h) ⟨rfl, ⟨rfl, trivial⟩⟩
set_option maxHeartbeats 4000000 in
set_option maxRecDepth 100000 in
theorem M_order_345_ok {J : gS → gS} (hJm : g_jm J) {z0 : Int} {s0 : gS}  {l1 : Int} {s : gS} (h : M_order_345 l1 s = some (z0, s0)) : G M_M_order (QG g_S J z0 s0) (g_S, 0, 0) (J s) 345 [some (.ref 49), some (gi l1)] [] := by
  unfold M_order_345 at h
  refine G_aload_n (g_da dt_M_order 51 rfl) rfl rfl ?_
  refine G_iload_n (g_da dt_M_order 52 rfl) rfl rfl ?_
  obtain ⟨r61, s62, hc63, h⟩ := o_b h
  refine H_cVG (M_draw_ok hJm hc63) (g_da dt_M_order 53 rfl) lk_15_256 mv_M_draw rfl sh_49 rfl rfl rfl rfl rfl rfl ?_
  refine G_goto (g_da dt_M_order 54 rfl) rfl ?_
  exact G_return (g_da dt_M_order 89 rfl) rfl rfl (g_nz rfl) (q_g h)
set_option maxHeartbeats 4000000 in
set_option maxRecDepth 100000 in
theorem M_order_406_ok {J : gS → gS} (hJm : g_jm J) {z0 : Int} {s0 : gS}  {t1 : Int} {s : gS} (h : M_order_406 t1 s = some (z0, s0)) : G M_M_order (QG g_S J z0 s0) (g_S, 0, 0) (J s) 406 [none, none] [gi t1, .ref 49] := by
  unfold M_order_406 at h
  obtain ⟨r70, s71, hc72, h⟩ := o_b h
  refine H_cVG (M_fill_ok hJm hc72) (g_da dt_M_order 81 rfl) lk_15_271 mv_M_fill rfl sh_49 rfl rfl rfl rfl rfl rfl ?_
  refine G_goto (g_da dt_M_order 82 rfl) rfl ?_
  exact G_return (g_da dt_M_order 89 rfl) rfl rfl (g_nz rfl) (q_g h)
set_option maxHeartbeats 4000000 in
set_option maxRecDepth 100000 in
theorem M_order_394_ok {J : gS → gS} (hJm : g_jm J) {z0 : Int} {s0 : gS}  {l1 : Int} {s : gS} (h : M_order_394 l1 s = some (z0, s0)) : G M_M_order (QG g_S J z0 s0) (g_S, 0, 0) (J s) 394 [some (.ref 49), some (gi l1)] [] := by
  unfold M_order_394 at h
  refine G_aload_n (g_da dt_M_order 74 rfl) rfl rfl ?_
  refine G_iload_n (g_da dt_M_order 75 rfl) rfl rfl ?_
  refine G_bipush (g_da dt_M_order 76 rfl) b8w_70 ?_
  refine G_icmp_ne (g_da dt_M_order 77 rfl) rfl rfl w_70 (fun hc69 => ?_) (fun hc69 => ?_)
  · have h := o_f hc69 h
    refine G_iconst (g_da dt_M_order 80 rfl) ?_
    exact G_subK (M_order_406_ok hJm h) trivial
  · have h := o_t hc69 h
    refine G_iconst (g_da dt_M_order 78 rfl) ?_
    refine G_goto (g_da dt_M_order 79 rfl) rfl ?_
    exact G_subK (M_order_406_ok hJm h) trivial
set_option maxHeartbeats 4000000 in
set_option maxRecDepth 100000 in
theorem M_order_419_ok {J : gS → gS} (hJm : g_jm J) {z0 : Int} {s0 : gS}  {l1 : Int} {s : gS} (h : M_order_419 l1 s = some (z0, s0)) : G M_M_order (QG g_S J z0 s0) (g_S, 0, 0) (J s) 419 [some (.ref 49), some (gi l1)] [] := by
  unfold M_order_419 at h
  refine G_aload_n (g_da dt_M_order 86 rfl) rfl rfl ?_
  refine G_iload_n (g_da dt_M_order 87 rfl) rfl rfl ?_
  obtain ⟨r73, s74, hc75, h⟩ := o_b h
  refine H_cVG (M_state_ok hJm hc75) (g_da dt_M_order 88 rfl) lk_15_278 mv_M_state rfl sh_49 rfl rfl rfl rfl rfl rfl ?_
  exact G_return (g_da dt_M_order 89 rfl) rfl rfl (g_nz rfl) (q_g h)
set_option maxHeartbeats 4000000 in
set_option maxRecDepth 100000 in
theorem M_order_ok {J : gS → gS} (hJm : g_jm J) {z0 : Int} {s0 : gS} {a1 : Int} {s : gS} (h : M_order a1 s = some (z0, s0)) : Ct M_M_order g_S [.ref 49, gi a1] (J s) (QG g_S J z0 s0) := by
  refine Ct_of [some (.ref 49), some (gi a1)] (plainFor_of_name (by decide)) rfl (Nat.le_of_ble_eq_true rfl) rfl (by decide) q_rG ?_
  unfold M_order at h
  refine G_iload_n (g_da dt_M_order 0 rfl) rfl rfl ?_
  refine G_table [(67, 345), (68, 282), (69, 394), (70, 394), (71, 419), (72, 419), (73, 419), (74, 419), (75, 419), (76, 345), (77, 345), (78, 387), (79, 311), (80, 419), (81, 338), (82, 331), (83, 419), (84, 419), (85, 419), (86, 419), (87, 412), (88, 324), (89, 419), (90, 353), (91, 419), (92, 419), (93, 419), (94, 419), (95, 419), (96, 419), (97, 419), (98, 419), (99, 419), (100, 419), (101, 419), (102, 419), (103, 419), (104, 419), (105, 419), (106, 419), (107, 419), (108, 419), (109, 419), (110, 419), (111, 419), (112, 419), (113, 419), (114, 419), (115, 419), (116, 419), (117, 419), (118, 419), (119, 419), (120, 419), (121, 419), (122, 419), (123, 419), (124, 419), (125, 419), (126, 256)] 419 (g_da dt_M_order 1 rfl) rfl rfl rfl ⟨fun hc1 => ?_, fun hc1 => ⟨fun hc2 => ?_, fun hc2 => ⟨fun hc3 => ?_, fun hc3 => ⟨fun hc4 => ?_, fun hc4 => ⟨fun hc5 => ?_, fun hc5 => ⟨fun hc6 => ?_, fun hc6 => ⟨fun hc7 => ?_, fun hc7 => ⟨fun hc8 => ?_, fun hc8 => ⟨fun hc9 => ?_, fun hc9 => ⟨fun hc10 => ?_, fun hc10 => ⟨fun hc11 => ?_, fun hc11 => ⟨fun hc12 => ?_, fun hc12 => ⟨fun hc13 => ?_, fun hc13 => ⟨fun hc14 => ?_, fun hc14 => ⟨fun hc15 => ?_, fun hc15 => ⟨fun hc16 => ?_, fun hc16 => ⟨fun hc17 => ?_, fun hc17 => ⟨fun hc18 => ?_, fun hc18 => ⟨fun hc19 => ?_, fun hc19 => ⟨fun hc20 => ?_, fun hc20 => ⟨fun hc21 => ?_, fun hc21 => ⟨fun hc22 => ?_, fun hc22 => ⟨fun hc23 => ?_, fun hc23 => ⟨fun hc24 => ?_, fun hc24 => ⟨fun hc25 => ?_, fun hc25 => ⟨fun hc26 => ?_, fun hc26 => ⟨fun hc27 => ?_, fun hc27 => ⟨fun hc28 => ?_, fun hc28 => ⟨fun hc29 => ?_, fun hc29 => ⟨fun hc30 => ?_, fun hc30 => ⟨fun hc31 => ?_, fun hc31 => ⟨fun hc32 => ?_, fun hc32 => ⟨fun hc33 => ?_, fun hc33 => ⟨fun hc34 => ?_, fun hc34 => ⟨fun hc35 => ?_, fun hc35 => ⟨fun hc36 => ?_, fun hc36 => ⟨fun hc37 => ?_, fun hc37 => ⟨fun hc38 => ?_, fun hc38 => ⟨fun hc39 => ?_, fun hc39 => ⟨fun hc40 => ?_, fun hc40 => ⟨fun hc41 => ?_, fun hc41 => ⟨fun hc42 => ?_, fun hc42 => ⟨fun hc43 => ?_, fun hc43 => ⟨fun hc44 => ?_, fun hc44 => ⟨fun hc45 => ?_, fun hc45 => ⟨fun hc46 => ?_, fun hc46 => ⟨fun hc47 => ?_, fun hc47 => ⟨fun hc48 => ?_, fun hc48 => ⟨fun hc49 => ?_, fun hc49 => ⟨fun hc50 => ?_, fun hc50 => ⟨fun hc51 => ?_, fun hc51 => ⟨fun hc52 => ?_, fun hc52 => ⟨fun hc53 => ?_, fun hc53 => ⟨fun hc54 => ?_, fun hc54 => ⟨fun hc55 => ?_, fun hc55 => ⟨fun hc56 => ?_, fun hc56 => ⟨fun hc57 => ?_, fun hc57 => ⟨fun hc58 => ?_, fun hc58 => ⟨fun hc59 => ?_, fun hc59 => ⟨fun hc60 => ?_, fun hc60 => ?_⟩⟩⟩⟩⟩⟩⟩⟩⟩⟩⟩⟩⟩⟩⟩⟩⟩⟩⟩⟩⟩⟩⟩⟩⟩⟩⟩⟩⟩⟩⟩⟩⟩⟩⟩⟩⟩⟩⟩⟩⟩⟩⟩⟩⟩⟩⟩⟩⟩⟩⟩⟩⟩⟩⟩⟩⟩⟩⟩⟩
  · have h := o_t hc1 h
    exact G_subK (M_order_345_ok hJm h) ⟨rfl, ⟨rfl, trivial⟩⟩
  · have h := o_f hc1 h
    have h := o_t hc2 h
    refine G_aload_n (g_da dt_M_order 18 rfl) rfl rfl ?_
    refine G_aload_n (g_da dt_M_order 19 rfl) rfl rfl ?_
    refine G_getR (g_da dt_M_order 20 rfl) sh_49 fl_15_16 rfl ?_
    refine G_aload_n (g_da dt_M_order 21 rfl) rfl rfl ?_
    refine H_getI (g_da dt_M_order 22 rfl) sh_49 fl_15_145 rfl (hJm 49 rfl) ?_
    refine G_iconst (g_da dt_M_order 23 rfl) ?_
    refine G_isub (g_da dt_M_order 24 rfl) ?_
    obtain ⟨hb64, h⟩ := o_g h
    refine H_iaload (g_da dt_M_order 25 rfl) sh_52 (hJm 52 rfl) rfl hb64 rfl ?_
    refine G_aload_n (g_da dt_M_order 26 rfl) rfl rfl ?_
    refine G_getR (g_da dt_M_order 27 rfl) sh_49 fl_15_22 rfl ?_
    refine G_aload_n (g_da dt_M_order 28 rfl) rfl rfl ?_
    refine H_getI (g_da dt_M_order 29 rfl) sh_49 fl_15_145 rfl (hJm 49 rfl) ?_
    refine G_iconst (g_da dt_M_order 30 rfl) ?_
    refine G_isub (g_da dt_M_order 31 rfl) ?_
    obtain ⟨hb65, h⟩ := o_g h
    refine H_zaload (g_da dt_M_order 32 rfl) sh_54 (hJm 54 rfl) rfl hb65 rfl ?_
    obtain ⟨r66, s67, hc68, h⟩ := o_b h
    refine H_cVG (M_push_ok hJm hc68) (g_da dt_M_order 33 rfl) lk_15_237 mv_M_push rfl sh_49 rfl rfl rfl rfl rfl rfl ?_
    refine G_goto (g_da dt_M_order 34 rfl) rfl ?_
    exact G_return (g_da dt_M_order 89 rfl) rfl rfl (g_nz rfl) (q_g h)
  · have h := o_f hc1 h
    have h := o_f hc2 h
    have h := o_t hc3 h
    exact G_subK (M_order_394_ok hJm h) ⟨rfl, ⟨rfl, trivial⟩⟩
  · have h := o_f hc1 h
    have h := o_f hc2 h
    have h := o_f hc3 h
    have h := o_t hc4 h
    exact G_subK (M_order_394_ok hJm h) ⟨rfl, ⟨rfl, trivial⟩⟩
  · have h := o_f hc1 h
    have h := o_f hc2 h
    have h := o_f hc3 h
    have h := o_f hc4 h
    have h := o_t hc5 h
    exact G_subK (M_order_419_ok hJm h) ⟨rfl, ⟨rfl, trivial⟩⟩
  · have h := o_f hc1 h
    have h := o_f hc2 h
    have h := o_f hc3 h
    have h := o_f hc4 h
    have h := o_f hc5 h
    have h := o_t hc6 h
    exact G_subK (M_order_419_ok hJm h) ⟨rfl, ⟨rfl, trivial⟩⟩
  · have h := o_f hc1 h
    have h := o_f hc2 h
    have h := o_f hc3 h
    have h := o_f hc4 h
    have h := o_f hc5 h
    have h := o_f hc6 h
    have h := o_t hc7 h
    exact G_subK (M_order_419_ok hJm h) ⟨rfl, ⟨rfl, trivial⟩⟩
  · have h := o_f hc1 h
    have h := o_f hc2 h
    have h := o_f hc3 h
    have h := o_f hc4 h
    have h := o_f hc5 h
    have h := o_f hc6 h
    have h := o_f hc7 h
    have h := o_t hc8 h
    exact G_subK (M_order_419_ok hJm h) ⟨rfl, ⟨rfl, trivial⟩⟩
  · have h := o_f hc1 h
    have h := o_f hc2 h
    have h := o_f hc3 h
    have h := o_f hc4 h
    have h := o_f hc5 h
    have h := o_f hc6 h
    have h := o_f hc7 h
    have h := o_f hc8 h
    have h := o_t hc9 h
    exact G_subK (M_order_419_ok hJm h) ⟨rfl, ⟨rfl, trivial⟩⟩
  · have h := o_f hc1 h
    have h := o_f hc2 h
    have h := o_f hc3 h
    have h := o_f hc4 h
    have h := o_f hc5 h
    have h := o_f hc6 h
    have h := o_f hc7 h
    have h := o_f hc8 h
    have h := o_f hc9 h
    have h := o_t hc10 h
    exact G_subK (M_order_345_ok hJm h) ⟨rfl, ⟨rfl, trivial⟩⟩
  · have h := o_f hc1 h
    have h := o_f hc2 h
    have h := o_f hc3 h
    have h := o_f hc4 h
    have h := o_f hc5 h
    have h := o_f hc6 h
    have h := o_f hc7 h
    have h := o_f hc8 h
    have h := o_f hc9 h
    have h := o_f hc10 h
    have h := o_t hc11 h
    exact G_subK (M_order_345_ok hJm h) ⟨rfl, ⟨rfl, trivial⟩⟩
  · have h := o_f hc1 h
    have h := o_f hc2 h
    have h := o_f hc3 h
    have h := o_f hc4 h
    have h := o_f hc5 h
    have h := o_f hc6 h
    have h := o_f hc7 h
    have h := o_f hc8 h
    have h := o_f hc9 h
    have h := o_f hc10 h
    have h := o_f hc11 h
    have h := o_t hc12 h
    refine G_aload_n (g_da dt_M_order 71 rfl) rfl rfl ?_
    obtain ⟨r76, s77, hc78, h⟩ := o_b h
    refine H_cVG (M_noPath_ok hJm hc78) (g_da dt_M_order 72 rfl) lk_15_154 mv_M_noPath rfl sh_49 rfl rfl rfl rfl rfl rfl ?_
    refine G_goto (g_da dt_M_order 73 rfl) rfl ?_
    exact G_return (g_da dt_M_order 89 rfl) rfl rfl (g_nz rfl) (q_g h)
  · have h := o_f hc1 h
    have h := o_f hc2 h
    have h := o_f hc3 h
    have h := o_f hc4 h
    have h := o_f hc5 h
    have h := o_f hc6 h
    have h := o_f hc7 h
    have h := o_f hc8 h
    have h := o_f hc9 h
    have h := o_f hc10 h
    have h := o_f hc11 h
    have h := o_f hc12 h
    have h := o_t hc13 h
    refine G_aload_n (g_da dt_M_order 35 rfl) rfl rfl ?_
    refine G_dup (g_da dt_M_order 36 rfl) rfl ?_
    refine H_getI (g_da dt_M_order 37 rfl) sh_49 fl_15_145 rfl (hJm 49 rfl) ?_
    refine G_iconst (g_da dt_M_order 38 rfl) ?_
    refine G_isub (g_da dt_M_order 39 rfl) ?_
    refine H_putI (g_da dt_M_order 40 rfl) sh_49 fp_15_145 rfl (hJm 49 rfl) (fun s79 e80 => ?_)
    have h := o_l h s79 e80
    refine G_goto (g_da dt_M_order 41 rfl) rfl ?_
    exact G_return (g_da dt_M_order 89 rfl) rfl rfl (g_nz rfl) (q_g h)
  · have h := o_f hc1 h
    have h := o_f hc2 h
    have h := o_f hc3 h
    have h := o_f hc4 h
    have h := o_f hc5 h
    have h := o_f hc6 h
    have h := o_f hc7 h
    have h := o_f hc8 h
    have h := o_f hc9 h
    have h := o_f hc10 h
    have h := o_f hc11 h
    have h := o_f hc12 h
    have h := o_f hc13 h
    have h := o_t hc14 h
    exact G_subK (M_order_419_ok hJm h) ⟨rfl, ⟨rfl, trivial⟩⟩
  · have h := o_f hc1 h
    have h := o_f hc2 h
    have h := o_f hc3 h
    have h := o_f hc4 h
    have h := o_f hc5 h
    have h := o_f hc6 h
    have h := o_f hc7 h
    have h := o_f hc8 h
    have h := o_f hc9 h
    have h := o_f hc10 h
    have h := o_f hc11 h
    have h := o_f hc12 h
    have h := o_f hc13 h
    have h := o_f hc14 h
    have h := o_t hc15 h
    refine G_aload_n (g_da dt_M_order 48 rfl) rfl rfl ?_
    obtain ⟨r81, s82, hc83, h⟩ := o_b h
    refine H_cVG (M_quit_ok hJm hc83) (g_da dt_M_order 49 rfl) lk_15_253 mv_M_quit rfl sh_49 rfl rfl rfl rfl rfl rfl ?_
    refine G_goto (g_da dt_M_order 50 rfl) rfl ?_
    exact G_return (g_da dt_M_order 89 rfl) rfl rfl (g_nz rfl) (q_g h)
  · have h := o_f hc1 h
    have h := o_f hc2 h
    have h := o_f hc3 h
    have h := o_f hc4 h
    have h := o_f hc5 h
    have h := o_f hc6 h
    have h := o_f hc7 h
    have h := o_f hc8 h
    have h := o_f hc9 h
    have h := o_f hc10 h
    have h := o_f hc11 h
    have h := o_f hc12 h
    have h := o_f hc13 h
    have h := o_f hc14 h
    have h := o_f hc15 h
    have h := o_t hc16 h
    refine G_aload_n (g_da dt_M_order 45 rfl) rfl rfl ?_
    obtain ⟨r84, s85, hc86, h⟩ := o_b h
    refine H_cVG (M_repeat_ok hJm hc86) (g_da dt_M_order 46 rfl) lk_15_250 mv_M_repeat rfl sh_49 rfl rfl rfl rfl rfl rfl ?_
    refine G_goto (g_da dt_M_order 47 rfl) rfl ?_
    exact G_return (g_da dt_M_order 89 rfl) rfl rfl (g_nz rfl) (q_g h)
  · have h := o_f hc1 h
    have h := o_f hc2 h
    have h := o_f hc3 h
    have h := o_f hc4 h
    have h := o_f hc5 h
    have h := o_f hc6 h
    have h := o_f hc7 h
    have h := o_f hc8 h
    have h := o_f hc9 h
    have h := o_f hc10 h
    have h := o_f hc11 h
    have h := o_f hc12 h
    have h := o_f hc13 h
    have h := o_f hc14 h
    have h := o_f hc15 h
    have h := o_f hc16 h
    have h := o_t hc17 h
    exact G_subK (M_order_419_ok hJm h) ⟨rfl, ⟨rfl, trivial⟩⟩
  · have h := o_f hc1 h
    have h := o_f hc2 h
    have h := o_f hc3 h
    have h := o_f hc4 h
    have h := o_f hc5 h
    have h := o_f hc6 h
    have h := o_f hc7 h
    have h := o_f hc8 h
    have h := o_f hc9 h
    have h := o_f hc10 h
    have h := o_f hc11 h
    have h := o_f hc12 h
    have h := o_f hc13 h
    have h := o_f hc14 h
    have h := o_f hc15 h
    have h := o_f hc16 h
    have h := o_f hc17 h
    have h := o_t hc18 h
    exact G_subK (M_order_419_ok hJm h) ⟨rfl, ⟨rfl, trivial⟩⟩
  · have h := o_f hc1 h
    have h := o_f hc2 h
    have h := o_f hc3 h
    have h := o_f hc4 h
    have h := o_f hc5 h
    have h := o_f hc6 h
    have h := o_f hc7 h
    have h := o_f hc8 h
    have h := o_f hc9 h
    have h := o_f hc10 h
    have h := o_f hc11 h
    have h := o_f hc12 h
    have h := o_f hc13 h
    have h := o_f hc14 h
    have h := o_f hc15 h
    have h := o_f hc16 h
    have h := o_f hc17 h
    have h := o_f hc18 h
    have h := o_t hc19 h
    exact G_subK (M_order_419_ok hJm h) ⟨rfl, ⟨rfl, trivial⟩⟩
  · have h := o_f hc1 h
    have h := o_f hc2 h
    have h := o_f hc3 h
    have h := o_f hc4 h
    have h := o_f hc5 h
    have h := o_f hc6 h
    have h := o_f hc7 h
    have h := o_f hc8 h
    have h := o_f hc9 h
    have h := o_f hc10 h
    have h := o_f hc11 h
    have h := o_f hc12 h
    have h := o_f hc13 h
    have h := o_f hc14 h
    have h := o_f hc15 h
    have h := o_f hc16 h
    have h := o_f hc17 h
    have h := o_f hc18 h
    have h := o_f hc19 h
    have h := o_t hc20 h
    exact G_subK (M_order_419_ok hJm h) ⟨rfl, ⟨rfl, trivial⟩⟩
  · have h := o_f hc1 h
    have h := o_f hc2 h
    have h := o_f hc3 h
    have h := o_f hc4 h
    have h := o_f hc5 h
    have h := o_f hc6 h
    have h := o_f hc7 h
    have h := o_f hc8 h
    have h := o_f hc9 h
    have h := o_f hc10 h
    have h := o_f hc11 h
    have h := o_f hc12 h
    have h := o_f hc13 h
    have h := o_f hc14 h
    have h := o_f hc15 h
    have h := o_f hc16 h
    have h := o_f hc17 h
    have h := o_f hc18 h
    have h := o_f hc19 h
    have h := o_f hc20 h
    have h := o_t hc21 h
    refine G_aload_n (g_da dt_M_order 83 rfl) rfl rfl ?_
    obtain ⟨r87, s88, hc89, h⟩ := o_b h
    refine H_cVG (M_cut_ok hJm hc89) (g_da dt_M_order 84 rfl) lk_15_275 mv_M_cut rfl sh_49 rfl rfl rfl rfl rfl rfl ?_
    refine G_goto (g_da dt_M_order 85 rfl) rfl ?_
    exact G_return (g_da dt_M_order 89 rfl) rfl rfl (g_nz rfl) (q_g h)
  · have h := o_f hc1 h
    have h := o_f hc2 h
    have h := o_f hc3 h
    have h := o_f hc4 h
    have h := o_f hc5 h
    have h := o_f hc6 h
    have h := o_f hc7 h
    have h := o_f hc8 h
    have h := o_f hc9 h
    have h := o_f hc10 h
    have h := o_f hc11 h
    have h := o_f hc12 h
    have h := o_f hc13 h
    have h := o_f hc14 h
    have h := o_f hc15 h
    have h := o_f hc16 h
    have h := o_f hc17 h
    have h := o_f hc18 h
    have h := o_f hc19 h
    have h := o_f hc20 h
    have h := o_f hc21 h
    have h := o_t hc22 h
    refine G_aload_n (g_da dt_M_order 42 rfl) rfl rfl ?_
    obtain ⟨r90, s91, hc92, h⟩ := o_b h
    refine H_cVG (M_swap_ok hJm hc92) (g_da dt_M_order 43 rfl) lk_15_247 mv_M_swap rfl sh_49 rfl rfl rfl rfl rfl rfl ?_
    refine G_goto (g_da dt_M_order 44 rfl) rfl ?_
    exact G_return (g_da dt_M_order 89 rfl) rfl rfl (g_nz rfl) (q_g h)
  · have h := o_f hc1 h
    have h := o_f hc2 h
    have h := o_f hc3 h
    have h := o_f hc4 h
    have h := o_f hc5 h
    have h := o_f hc6 h
    have h := o_f hc7 h
    have h := o_f hc8 h
    have h := o_f hc9 h
    have h := o_f hc10 h
    have h := o_f hc11 h
    have h := o_f hc12 h
    have h := o_f hc13 h
    have h := o_f hc14 h
    have h := o_f hc15 h
    have h := o_f hc16 h
    have h := o_f hc17 h
    have h := o_f hc18 h
    have h := o_f hc19 h
    have h := o_f hc20 h
    have h := o_f hc21 h
    have h := o_f hc22 h
    have h := o_t hc23 h
    exact G_subK (M_order_419_ok hJm h) ⟨rfl, ⟨rfl, trivial⟩⟩
  · have h := o_f hc1 h
    have h := o_f hc2 h
    have h := o_f hc3 h
    have h := o_f hc4 h
    have h := o_f hc5 h
    have h := o_f hc6 h
    have h := o_f hc7 h
    have h := o_f hc8 h
    have h := o_f hc9 h
    have h := o_f hc10 h
    have h := o_f hc11 h
    have h := o_f hc12 h
    have h := o_f hc13 h
    have h := o_f hc14 h
    have h := o_f hc15 h
    have h := o_f hc16 h
    have h := o_f hc17 h
    have h := o_f hc18 h
    have h := o_f hc19 h
    have h := o_f hc20 h
    have h := o_f hc21 h
    have h := o_f hc22 h
    have h := o_f hc23 h
    have h := o_t hc24 h
    refine G_aload_n (g_da dt_M_order 55 rfl) rfl rfl ?_
    refine H_getI (g_da dt_M_order 56 rfl) sh_49 fl_15_203 rfl (hJm 49 rfl) ?_
    refine G_if_eq (g_da dt_M_order 57 rfl) rfl rfl  (fun hc93 => ?_) (fun hc93 => ?_)
    · have h := o_t hc93 h
      refine G_aload_n (g_da dt_M_order 59 rfl) rfl rfl ?_
      refine G_iconst (g_da dt_M_order 60 rfl) ?_
      refine H_putZ (g_da dt_M_order 61 rfl) sh_49 fp_15_203 rfl (hJm 49 rfl) (Or.inr w_1) (fun s94 e95 => ?_)
      have h := o_l h s94 e95
      refine G_aload_n (g_da dt_M_order 62 rfl) rfl rfl ?_
      refine G_aload_n (g_da dt_M_order 63 rfl) rfl rfl ?_
      refine H_getI (g_da dt_M_order 64 rfl) sh_49 fl_15_259 rfl (hJm 49 rfl) ?_
      refine H_putI (g_da dt_M_order 65 rfl) sh_49 fp_15_262 rfl (hJm 49 rfl) (fun s96 e97 => ?_)
      have h := o_l h s96 e97
      refine G_aload_n (g_da dt_M_order 66 rfl) rfl rfl ?_
      refine G_aload_n (g_da dt_M_order 67 rfl) rfl rfl ?_
      refine H_getI (g_da dt_M_order 68 rfl) sh_49 fl_15_265 rfl (hJm 49 rfl) ?_
      refine H_putI (g_da dt_M_order 69 rfl) sh_49 fp_15_268 rfl (hJm 49 rfl) (fun s98 e99 => ?_)
      have h := o_l h s98 e99
      refine G_goto (g_da dt_M_order 70 rfl) rfl ?_
      exact G_return (g_da dt_M_order 89 rfl) rfl rfl (g_nz rfl) (q_g h)
    · have h := o_f hc93 h
      refine G_goto (g_da dt_M_order 58 rfl) rfl ?_
      exact G_return (g_da dt_M_order 89 rfl) rfl rfl (g_nz rfl) (q_g h)
  · have h := o_f hc1 h
    have h := o_f hc2 h
    have h := o_f hc3 h
    have h := o_f hc4 h
    have h := o_f hc5 h
    have h := o_f hc6 h
    have h := o_f hc7 h
    have h := o_f hc8 h
    have h := o_f hc9 h
    have h := o_f hc10 h
    have h := o_f hc11 h
    have h := o_f hc12 h
    have h := o_f hc13 h
    have h := o_f hc14 h
    have h := o_f hc15 h
    have h := o_f hc16 h
    have h := o_f hc17 h
    have h := o_f hc18 h
    have h := o_f hc19 h
    have h := o_f hc20 h
    have h := o_f hc21 h
    have h := o_f hc22 h
    have h := o_f hc23 h
    have h := o_f hc24 h
    have h := o_t hc25 h
    exact G_subK (M_order_419_ok hJm h) ⟨rfl, ⟨rfl, trivial⟩⟩
  · have h := o_f hc1 h
    have h := o_f hc2 h
    have h := o_f hc3 h
    have h := o_f hc4 h
    have h := o_f hc5 h
    have h := o_f hc6 h
    have h := o_f hc7 h
    have h := o_f hc8 h
    have h := o_f hc9 h
    have h := o_f hc10 h
    have h := o_f hc11 h
    have h := o_f hc12 h
    have h := o_f hc13 h
    have h := o_f hc14 h
    have h := o_f hc15 h
    have h := o_f hc16 h
    have h := o_f hc17 h
    have h := o_f hc18 h
    have h := o_f hc19 h
    have h := o_f hc20 h
    have h := o_f hc21 h
    have h := o_f hc22 h
    have h := o_f hc23 h
    have h := o_f hc24 h
    have h := o_f hc25 h
    have h := o_t hc26 h
    exact G_subK (M_order_419_ok hJm h) ⟨rfl, ⟨rfl, trivial⟩⟩
  · have h := o_f hc1 h
    have h := o_f hc2 h
    have h := o_f hc3 h
    have h := o_f hc4 h
    have h := o_f hc5 h
    have h := o_f hc6 h
    have h := o_f hc7 h
    have h := o_f hc8 h
    have h := o_f hc9 h
    have h := o_f hc10 h
    have h := o_f hc11 h
    have h := o_f hc12 h
    have h := o_f hc13 h
    have h := o_f hc14 h
    have h := o_f hc15 h
    have h := o_f hc16 h
    have h := o_f hc17 h
    have h := o_f hc18 h
    have h := o_f hc19 h
    have h := o_f hc20 h
    have h := o_f hc21 h
    have h := o_f hc22 h
    have h := o_f hc23 h
    have h := o_f hc24 h
    have h := o_f hc25 h
    have h := o_f hc26 h
    have h := o_t hc27 h
    exact G_subK (M_order_419_ok hJm h) ⟨rfl, ⟨rfl, trivial⟩⟩
  · have h := o_f hc1 h
    have h := o_f hc2 h
    have h := o_f hc3 h
    have h := o_f hc4 h
    have h := o_f hc5 h
    have h := o_f hc6 h
    have h := o_f hc7 h
    have h := o_f hc8 h
    have h := o_f hc9 h
    have h := o_f hc10 h
    have h := o_f hc11 h
    have h := o_f hc12 h
    have h := o_f hc13 h
    have h := o_f hc14 h
    have h := o_f hc15 h
    have h := o_f hc16 h
    have h := o_f hc17 h
    have h := o_f hc18 h
    have h := o_f hc19 h
    have h := o_f hc20 h
    have h := o_f hc21 h
    have h := o_f hc22 h
    have h := o_f hc23 h
    have h := o_f hc24 h
    have h := o_f hc25 h
    have h := o_f hc26 h
    have h := o_f hc27 h
    have h := o_t hc28 h
    exact G_subK (M_order_419_ok hJm h) ⟨rfl, ⟨rfl, trivial⟩⟩
  · have h := o_f hc1 h
    have h := o_f hc2 h
    have h := o_f hc3 h
    have h := o_f hc4 h
    have h := o_f hc5 h
    have h := o_f hc6 h
    have h := o_f hc7 h
    have h := o_f hc8 h
    have h := o_f hc9 h
    have h := o_f hc10 h
    have h := o_f hc11 h
    have h := o_f hc12 h
    have h := o_f hc13 h
    have h := o_f hc14 h
    have h := o_f hc15 h
    have h := o_f hc16 h
    have h := o_f hc17 h
    have h := o_f hc18 h
    have h := o_f hc19 h
    have h := o_f hc20 h
    have h := o_f hc21 h
    have h := o_f hc22 h
    have h := o_f hc23 h
    have h := o_f hc24 h
    have h := o_f hc25 h
    have h := o_f hc26 h
    have h := o_f hc27 h
    have h := o_f hc28 h
    have h := o_t hc29 h
    exact G_subK (M_order_419_ok hJm h) ⟨rfl, ⟨rfl, trivial⟩⟩
  · have h := o_f hc1 h
    have h := o_f hc2 h
    have h := o_f hc3 h
    have h := o_f hc4 h
    have h := o_f hc5 h
    have h := o_f hc6 h
    have h := o_f hc7 h
    have h := o_f hc8 h
    have h := o_f hc9 h
    have h := o_f hc10 h
    have h := o_f hc11 h
    have h := o_f hc12 h
    have h := o_f hc13 h
    have h := o_f hc14 h
    have h := o_f hc15 h
    have h := o_f hc16 h
    have h := o_f hc17 h
    have h := o_f hc18 h
    have h := o_f hc19 h
    have h := o_f hc20 h
    have h := o_f hc21 h
    have h := o_f hc22 h
    have h := o_f hc23 h
    have h := o_f hc24 h
    have h := o_f hc25 h
    have h := o_f hc26 h
    have h := o_f hc27 h
    have h := o_f hc28 h
    have h := o_f hc29 h
    have h := o_t hc30 h
    exact G_subK (M_order_419_ok hJm h) ⟨rfl, ⟨rfl, trivial⟩⟩
  · have h := o_f hc1 h
    have h := o_f hc2 h
    have h := o_f hc3 h
    have h := o_f hc4 h
    have h := o_f hc5 h
    have h := o_f hc6 h
    have h := o_f hc7 h
    have h := o_f hc8 h
    have h := o_f hc9 h
    have h := o_f hc10 h
    have h := o_f hc11 h
    have h := o_f hc12 h
    have h := o_f hc13 h
    have h := o_f hc14 h
    have h := o_f hc15 h
    have h := o_f hc16 h
    have h := o_f hc17 h
    have h := o_f hc18 h
    have h := o_f hc19 h
    have h := o_f hc20 h
    have h := o_f hc21 h
    have h := o_f hc22 h
    have h := o_f hc23 h
    have h := o_f hc24 h
    have h := o_f hc25 h
    have h := o_f hc26 h
    have h := o_f hc27 h
    have h := o_f hc28 h
    have h := o_f hc29 h
    have h := o_f hc30 h
    have h := o_t hc31 h
    exact G_subK (M_order_419_ok hJm h) ⟨rfl, ⟨rfl, trivial⟩⟩
  · have h := o_f hc1 h
    have h := o_f hc2 h
    have h := o_f hc3 h
    have h := o_f hc4 h
    have h := o_f hc5 h
    have h := o_f hc6 h
    have h := o_f hc7 h
    have h := o_f hc8 h
    have h := o_f hc9 h
    have h := o_f hc10 h
    have h := o_f hc11 h
    have h := o_f hc12 h
    have h := o_f hc13 h
    have h := o_f hc14 h
    have h := o_f hc15 h
    have h := o_f hc16 h
    have h := o_f hc17 h
    have h := o_f hc18 h
    have h := o_f hc19 h
    have h := o_f hc20 h
    have h := o_f hc21 h
    have h := o_f hc22 h
    have h := o_f hc23 h
    have h := o_f hc24 h
    have h := o_f hc25 h
    have h := o_f hc26 h
    have h := o_f hc27 h
    have h := o_f hc28 h
    have h := o_f hc29 h
    have h := o_f hc30 h
    have h := o_f hc31 h
    have h := o_t hc32 h
    exact G_subK (M_order_419_ok hJm h) ⟨rfl, ⟨rfl, trivial⟩⟩
  · have h := o_f hc1 h
    have h := o_f hc2 h
    have h := o_f hc3 h
    have h := o_f hc4 h
    have h := o_f hc5 h
    have h := o_f hc6 h
    have h := o_f hc7 h
    have h := o_f hc8 h
    have h := o_f hc9 h
    have h := o_f hc10 h
    have h := o_f hc11 h
    have h := o_f hc12 h
    have h := o_f hc13 h
    have h := o_f hc14 h
    have h := o_f hc15 h
    have h := o_f hc16 h
    have h := o_f hc17 h
    have h := o_f hc18 h
    have h := o_f hc19 h
    have h := o_f hc20 h
    have h := o_f hc21 h
    have h := o_f hc22 h
    have h := o_f hc23 h
    have h := o_f hc24 h
    have h := o_f hc25 h
    have h := o_f hc26 h
    have h := o_f hc27 h
    have h := o_f hc28 h
    have h := o_f hc29 h
    have h := o_f hc30 h
    have h := o_f hc31 h
    have h := o_f hc32 h
    have h := o_t hc33 h
    exact G_subK (M_order_419_ok hJm h) ⟨rfl, ⟨rfl, trivial⟩⟩
  · have h := o_f hc1 h
    have h := o_f hc2 h
    have h := o_f hc3 h
    have h := o_f hc4 h
    have h := o_f hc5 h
    have h := o_f hc6 h
    have h := o_f hc7 h
    have h := o_f hc8 h
    have h := o_f hc9 h
    have h := o_f hc10 h
    have h := o_f hc11 h
    have h := o_f hc12 h
    have h := o_f hc13 h
    have h := o_f hc14 h
    have h := o_f hc15 h
    have h := o_f hc16 h
    have h := o_f hc17 h
    have h := o_f hc18 h
    have h := o_f hc19 h
    have h := o_f hc20 h
    have h := o_f hc21 h
    have h := o_f hc22 h
    have h := o_f hc23 h
    have h := o_f hc24 h
    have h := o_f hc25 h
    have h := o_f hc26 h
    have h := o_f hc27 h
    have h := o_f hc28 h
    have h := o_f hc29 h
    have h := o_f hc30 h
    have h := o_f hc31 h
    have h := o_f hc32 h
    have h := o_f hc33 h
    have h := o_t hc34 h
    exact G_subK (M_order_419_ok hJm h) ⟨rfl, ⟨rfl, trivial⟩⟩
  · have h := o_f hc1 h
    have h := o_f hc2 h
    have h := o_f hc3 h
    have h := o_f hc4 h
    have h := o_f hc5 h
    have h := o_f hc6 h
    have h := o_f hc7 h
    have h := o_f hc8 h
    have h := o_f hc9 h
    have h := o_f hc10 h
    have h := o_f hc11 h
    have h := o_f hc12 h
    have h := o_f hc13 h
    have h := o_f hc14 h
    have h := o_f hc15 h
    have h := o_f hc16 h
    have h := o_f hc17 h
    have h := o_f hc18 h
    have h := o_f hc19 h
    have h := o_f hc20 h
    have h := o_f hc21 h
    have h := o_f hc22 h
    have h := o_f hc23 h
    have h := o_f hc24 h
    have h := o_f hc25 h
    have h := o_f hc26 h
    have h := o_f hc27 h
    have h := o_f hc28 h
    have h := o_f hc29 h
    have h := o_f hc30 h
    have h := o_f hc31 h
    have h := o_f hc32 h
    have h := o_f hc33 h
    have h := o_f hc34 h
    have h := o_t hc35 h
    exact G_subK (M_order_419_ok hJm h) ⟨rfl, ⟨rfl, trivial⟩⟩
  · have h := o_f hc1 h
    have h := o_f hc2 h
    have h := o_f hc3 h
    have h := o_f hc4 h
    have h := o_f hc5 h
    have h := o_f hc6 h
    have h := o_f hc7 h
    have h := o_f hc8 h
    have h := o_f hc9 h
    have h := o_f hc10 h
    have h := o_f hc11 h
    have h := o_f hc12 h
    have h := o_f hc13 h
    have h := o_f hc14 h
    have h := o_f hc15 h
    have h := o_f hc16 h
    have h := o_f hc17 h
    have h := o_f hc18 h
    have h := o_f hc19 h
    have h := o_f hc20 h
    have h := o_f hc21 h
    have h := o_f hc22 h
    have h := o_f hc23 h
    have h := o_f hc24 h
    have h := o_f hc25 h
    have h := o_f hc26 h
    have h := o_f hc27 h
    have h := o_f hc28 h
    have h := o_f hc29 h
    have h := o_f hc30 h
    have h := o_f hc31 h
    have h := o_f hc32 h
    have h := o_f hc33 h
    have h := o_f hc34 h
    have h := o_f hc35 h
    have h := o_t hc36 h
    exact G_subK (M_order_419_ok hJm h) ⟨rfl, ⟨rfl, trivial⟩⟩
  · have h := o_f hc1 h
    have h := o_f hc2 h
    have h := o_f hc3 h
    have h := o_f hc4 h
    have h := o_f hc5 h
    have h := o_f hc6 h
    have h := o_f hc7 h
    have h := o_f hc8 h
    have h := o_f hc9 h
    have h := o_f hc10 h
    have h := o_f hc11 h
    have h := o_f hc12 h
    have h := o_f hc13 h
    have h := o_f hc14 h
    have h := o_f hc15 h
    have h := o_f hc16 h
    have h := o_f hc17 h
    have h := o_f hc18 h
    have h := o_f hc19 h
    have h := o_f hc20 h
    have h := o_f hc21 h
    have h := o_f hc22 h
    have h := o_f hc23 h
    have h := o_f hc24 h
    have h := o_f hc25 h
    have h := o_f hc26 h
    have h := o_f hc27 h
    have h := o_f hc28 h
    have h := o_f hc29 h
    have h := o_f hc30 h
    have h := o_f hc31 h
    have h := o_f hc32 h
    have h := o_f hc33 h
    have h := o_f hc34 h
    have h := o_f hc35 h
    have h := o_f hc36 h
    have h := o_t hc37 h
    exact G_subK (M_order_419_ok hJm h) ⟨rfl, ⟨rfl, trivial⟩⟩
  · have h := o_f hc1 h
    have h := o_f hc2 h
    have h := o_f hc3 h
    have h := o_f hc4 h
    have h := o_f hc5 h
    have h := o_f hc6 h
    have h := o_f hc7 h
    have h := o_f hc8 h
    have h := o_f hc9 h
    have h := o_f hc10 h
    have h := o_f hc11 h
    have h := o_f hc12 h
    have h := o_f hc13 h
    have h := o_f hc14 h
    have h := o_f hc15 h
    have h := o_f hc16 h
    have h := o_f hc17 h
    have h := o_f hc18 h
    have h := o_f hc19 h
    have h := o_f hc20 h
    have h := o_f hc21 h
    have h := o_f hc22 h
    have h := o_f hc23 h
    have h := o_f hc24 h
    have h := o_f hc25 h
    have h := o_f hc26 h
    have h := o_f hc27 h
    have h := o_f hc28 h
    have h := o_f hc29 h
    have h := o_f hc30 h
    have h := o_f hc31 h
    have h := o_f hc32 h
    have h := o_f hc33 h
    have h := o_f hc34 h
    have h := o_f hc35 h
    have h := o_f hc36 h
    have h := o_f hc37 h
    have h := o_t hc38 h
    exact G_subK (M_order_419_ok hJm h) ⟨rfl, ⟨rfl, trivial⟩⟩
  · have h := o_f hc1 h
    have h := o_f hc2 h
    have h := o_f hc3 h
    have h := o_f hc4 h
    have h := o_f hc5 h
    have h := o_f hc6 h
    have h := o_f hc7 h
    have h := o_f hc8 h
    have h := o_f hc9 h
    have h := o_f hc10 h
    have h := o_f hc11 h
    have h := o_f hc12 h
    have h := o_f hc13 h
    have h := o_f hc14 h
    have h := o_f hc15 h
    have h := o_f hc16 h
    have h := o_f hc17 h
    have h := o_f hc18 h
    have h := o_f hc19 h
    have h := o_f hc20 h
    have h := o_f hc21 h
    have h := o_f hc22 h
    have h := o_f hc23 h
    have h := o_f hc24 h
    have h := o_f hc25 h
    have h := o_f hc26 h
    have h := o_f hc27 h
    have h := o_f hc28 h
    have h := o_f hc29 h
    have h := o_f hc30 h
    have h := o_f hc31 h
    have h := o_f hc32 h
    have h := o_f hc33 h
    have h := o_f hc34 h
    have h := o_f hc35 h
    have h := o_f hc36 h
    have h := o_f hc37 h
    have h := o_f hc38 h
    have h := o_t hc39 h
    exact G_subK (M_order_419_ok hJm h) ⟨rfl, ⟨rfl, trivial⟩⟩
  · have h := o_f hc1 h
    have h := o_f hc2 h
    have h := o_f hc3 h
    have h := o_f hc4 h
    have h := o_f hc5 h
    have h := o_f hc6 h
    have h := o_f hc7 h
    have h := o_f hc8 h
    have h := o_f hc9 h
    have h := o_f hc10 h
    have h := o_f hc11 h
    have h := o_f hc12 h
    have h := o_f hc13 h
    have h := o_f hc14 h
    have h := o_f hc15 h
    have h := o_f hc16 h
    have h := o_f hc17 h
    have h := o_f hc18 h
    have h := o_f hc19 h
    have h := o_f hc20 h
    have h := o_f hc21 h
    have h := o_f hc22 h
    have h := o_f hc23 h
    have h := o_f hc24 h
    have h := o_f hc25 h
    have h := o_f hc26 h
    have h := o_f hc27 h
    have h := o_f hc28 h
    have h := o_f hc29 h
    have h := o_f hc30 h
    have h := o_f hc31 h
    have h := o_f hc32 h
    have h := o_f hc33 h
    have h := o_f hc34 h
    have h := o_f hc35 h
    have h := o_f hc36 h
    have h := o_f hc37 h
    have h := o_f hc38 h
    have h := o_f hc39 h
    have h := o_t hc40 h
    exact G_subK (M_order_419_ok hJm h) ⟨rfl, ⟨rfl, trivial⟩⟩
  · have h := o_f hc1 h
    have h := o_f hc2 h
    have h := o_f hc3 h
    have h := o_f hc4 h
    have h := o_f hc5 h
    have h := o_f hc6 h
    have h := o_f hc7 h
    have h := o_f hc8 h
    have h := o_f hc9 h
    have h := o_f hc10 h
    have h := o_f hc11 h
    have h := o_f hc12 h
    have h := o_f hc13 h
    have h := o_f hc14 h
    have h := o_f hc15 h
    have h := o_f hc16 h
    have h := o_f hc17 h
    have h := o_f hc18 h
    have h := o_f hc19 h
    have h := o_f hc20 h
    have h := o_f hc21 h
    have h := o_f hc22 h
    have h := o_f hc23 h
    have h := o_f hc24 h
    have h := o_f hc25 h
    have h := o_f hc26 h
    have h := o_f hc27 h
    have h := o_f hc28 h
    have h := o_f hc29 h
    have h := o_f hc30 h
    have h := o_f hc31 h
    have h := o_f hc32 h
    have h := o_f hc33 h
    have h := o_f hc34 h
    have h := o_f hc35 h
    have h := o_f hc36 h
    have h := o_f hc37 h
    have h := o_f hc38 h
    have h := o_f hc39 h
    have h := o_f hc40 h
    have h := o_t hc41 h
    exact G_subK (M_order_419_ok hJm h) ⟨rfl, ⟨rfl, trivial⟩⟩
  · have h := o_f hc1 h
    have h := o_f hc2 h
    have h := o_f hc3 h
    have h := o_f hc4 h
    have h := o_f hc5 h
    have h := o_f hc6 h
    have h := o_f hc7 h
    have h := o_f hc8 h
    have h := o_f hc9 h
    have h := o_f hc10 h
    have h := o_f hc11 h
    have h := o_f hc12 h
    have h := o_f hc13 h
    have h := o_f hc14 h
    have h := o_f hc15 h
    have h := o_f hc16 h
    have h := o_f hc17 h
    have h := o_f hc18 h
    have h := o_f hc19 h
    have h := o_f hc20 h
    have h := o_f hc21 h
    have h := o_f hc22 h
    have h := o_f hc23 h
    have h := o_f hc24 h
    have h := o_f hc25 h
    have h := o_f hc26 h
    have h := o_f hc27 h
    have h := o_f hc28 h
    have h := o_f hc29 h
    have h := o_f hc30 h
    have h := o_f hc31 h
    have h := o_f hc32 h
    have h := o_f hc33 h
    have h := o_f hc34 h
    have h := o_f hc35 h
    have h := o_f hc36 h
    have h := o_f hc37 h
    have h := o_f hc38 h
    have h := o_f hc39 h
    have h := o_f hc40 h
    have h := o_f hc41 h
    have h := o_t hc42 h
    exact G_subK (M_order_419_ok hJm h) ⟨rfl, ⟨rfl, trivial⟩⟩
  · have h := o_f hc1 h
    have h := o_f hc2 h
    have h := o_f hc3 h
    have h := o_f hc4 h
    have h := o_f hc5 h
    have h := o_f hc6 h
    have h := o_f hc7 h
    have h := o_f hc8 h
    have h := o_f hc9 h
    have h := o_f hc10 h
    have h := o_f hc11 h
    have h := o_f hc12 h
    have h := o_f hc13 h
    have h := o_f hc14 h
    have h := o_f hc15 h
    have h := o_f hc16 h
    have h := o_f hc17 h
    have h := o_f hc18 h
    have h := o_f hc19 h
    have h := o_f hc20 h
    have h := o_f hc21 h
    have h := o_f hc22 h
    have h := o_f hc23 h
    have h := o_f hc24 h
    have h := o_f hc25 h
    have h := o_f hc26 h
    have h := o_f hc27 h
    have h := o_f hc28 h
    have h := o_f hc29 h
    have h := o_f hc30 h
    have h := o_f hc31 h
    have h := o_f hc32 h
    have h := o_f hc33 h
    have h := o_f hc34 h
    have h := o_f hc35 h
    have h := o_f hc36 h
    have h := o_f hc37 h
    have h := o_f hc38 h
    have h := o_f hc39 h
    have h := o_f hc40 h
    have h := o_f hc41 h
    have h := o_f hc42 h
    have h := o_t hc43 h
    exact G_subK (M_order_419_ok hJm h) ⟨rfl, ⟨rfl, trivial⟩⟩
  · have h := o_f hc1 h
    have h := o_f hc2 h
    have h := o_f hc3 h
    have h := o_f hc4 h
    have h := o_f hc5 h
    have h := o_f hc6 h
    have h := o_f hc7 h
    have h := o_f hc8 h
    have h := o_f hc9 h
    have h := o_f hc10 h
    have h := o_f hc11 h
    have h := o_f hc12 h
    have h := o_f hc13 h
    have h := o_f hc14 h
    have h := o_f hc15 h
    have h := o_f hc16 h
    have h := o_f hc17 h
    have h := o_f hc18 h
    have h := o_f hc19 h
    have h := o_f hc20 h
    have h := o_f hc21 h
    have h := o_f hc22 h
    have h := o_f hc23 h
    have h := o_f hc24 h
    have h := o_f hc25 h
    have h := o_f hc26 h
    have h := o_f hc27 h
    have h := o_f hc28 h
    have h := o_f hc29 h
    have h := o_f hc30 h
    have h := o_f hc31 h
    have h := o_f hc32 h
    have h := o_f hc33 h
    have h := o_f hc34 h
    have h := o_f hc35 h
    have h := o_f hc36 h
    have h := o_f hc37 h
    have h := o_f hc38 h
    have h := o_f hc39 h
    have h := o_f hc40 h
    have h := o_f hc41 h
    have h := o_f hc42 h
    have h := o_f hc43 h
    have h := o_t hc44 h
    exact G_subK (M_order_419_ok hJm h) ⟨rfl, ⟨rfl, trivial⟩⟩
  · have h := o_f hc1 h
    have h := o_f hc2 h
    have h := o_f hc3 h
    have h := o_f hc4 h
    have h := o_f hc5 h
    have h := o_f hc6 h
    have h := o_f hc7 h
    have h := o_f hc8 h
    have h := o_f hc9 h
    have h := o_f hc10 h
    have h := o_f hc11 h
    have h := o_f hc12 h
    have h := o_f hc13 h
    have h := o_f hc14 h
    have h := o_f hc15 h
    have h := o_f hc16 h
    have h := o_f hc17 h
    have h := o_f hc18 h
    have h := o_f hc19 h
    have h := o_f hc20 h
    have h := o_f hc21 h
    have h := o_f hc22 h
    have h := o_f hc23 h
    have h := o_f hc24 h
    have h := o_f hc25 h
    have h := o_f hc26 h
    have h := o_f hc27 h
    have h := o_f hc28 h
    have h := o_f hc29 h
    have h := o_f hc30 h
    have h := o_f hc31 h
    have h := o_f hc32 h
    have h := o_f hc33 h
    have h := o_f hc34 h
    have h := o_f hc35 h
    have h := o_f hc36 h
    have h := o_f hc37 h
    have h := o_f hc38 h
    have h := o_f hc39 h
    have h := o_f hc40 h
    have h := o_f hc41 h
    have h := o_f hc42 h
    have h := o_f hc43 h
    have h := o_f hc44 h
    have h := o_t hc45 h
    exact G_subK (M_order_419_ok hJm h) ⟨rfl, ⟨rfl, trivial⟩⟩
  · have h := o_f hc1 h
    have h := o_f hc2 h
    have h := o_f hc3 h
    have h := o_f hc4 h
    have h := o_f hc5 h
    have h := o_f hc6 h
    have h := o_f hc7 h
    have h := o_f hc8 h
    have h := o_f hc9 h
    have h := o_f hc10 h
    have h := o_f hc11 h
    have h := o_f hc12 h
    have h := o_f hc13 h
    have h := o_f hc14 h
    have h := o_f hc15 h
    have h := o_f hc16 h
    have h := o_f hc17 h
    have h := o_f hc18 h
    have h := o_f hc19 h
    have h := o_f hc20 h
    have h := o_f hc21 h
    have h := o_f hc22 h
    have h := o_f hc23 h
    have h := o_f hc24 h
    have h := o_f hc25 h
    have h := o_f hc26 h
    have h := o_f hc27 h
    have h := o_f hc28 h
    have h := o_f hc29 h
    have h := o_f hc30 h
    have h := o_f hc31 h
    have h := o_f hc32 h
    have h := o_f hc33 h
    have h := o_f hc34 h
    have h := o_f hc35 h
    have h := o_f hc36 h
    have h := o_f hc37 h
    have h := o_f hc38 h
    have h := o_f hc39 h
    have h := o_f hc40 h
    have h := o_f hc41 h
    have h := o_f hc42 h
    have h := o_f hc43 h
    have h := o_f hc44 h
    have h := o_f hc45 h
    have h := o_t hc46 h
    exact G_subK (M_order_419_ok hJm h) ⟨rfl, ⟨rfl, trivial⟩⟩
  · have h := o_f hc1 h
    have h := o_f hc2 h
    have h := o_f hc3 h
    have h := o_f hc4 h
    have h := o_f hc5 h
    have h := o_f hc6 h
    have h := o_f hc7 h
    have h := o_f hc8 h
    have h := o_f hc9 h
    have h := o_f hc10 h
    have h := o_f hc11 h
    have h := o_f hc12 h
    have h := o_f hc13 h
    have h := o_f hc14 h
    have h := o_f hc15 h
    have h := o_f hc16 h
    have h := o_f hc17 h
    have h := o_f hc18 h
    have h := o_f hc19 h
    have h := o_f hc20 h
    have h := o_f hc21 h
    have h := o_f hc22 h
    have h := o_f hc23 h
    have h := o_f hc24 h
    have h := o_f hc25 h
    have h := o_f hc26 h
    have h := o_f hc27 h
    have h := o_f hc28 h
    have h := o_f hc29 h
    have h := o_f hc30 h
    have h := o_f hc31 h
    have h := o_f hc32 h
    have h := o_f hc33 h
    have h := o_f hc34 h
    have h := o_f hc35 h
    have h := o_f hc36 h
    have h := o_f hc37 h
    have h := o_f hc38 h
    have h := o_f hc39 h
    have h := o_f hc40 h
    have h := o_f hc41 h
    have h := o_f hc42 h
    have h := o_f hc43 h
    have h := o_f hc44 h
    have h := o_f hc45 h
    have h := o_f hc46 h
    have h := o_t hc47 h
    exact G_subK (M_order_419_ok hJm h) ⟨rfl, ⟨rfl, trivial⟩⟩
  · have h := o_f hc1 h
    have h := o_f hc2 h
    have h := o_f hc3 h
    have h := o_f hc4 h
    have h := o_f hc5 h
    have h := o_f hc6 h
    have h := o_f hc7 h
    have h := o_f hc8 h
    have h := o_f hc9 h
    have h := o_f hc10 h
    have h := o_f hc11 h
    have h := o_f hc12 h
    have h := o_f hc13 h
    have h := o_f hc14 h
    have h := o_f hc15 h
    have h := o_f hc16 h
    have h := o_f hc17 h
    have h := o_f hc18 h
    have h := o_f hc19 h
    have h := o_f hc20 h
    have h := o_f hc21 h
    have h := o_f hc22 h
    have h := o_f hc23 h
    have h := o_f hc24 h
    have h := o_f hc25 h
    have h := o_f hc26 h
    have h := o_f hc27 h
    have h := o_f hc28 h
    have h := o_f hc29 h
    have h := o_f hc30 h
    have h := o_f hc31 h
    have h := o_f hc32 h
    have h := o_f hc33 h
    have h := o_f hc34 h
    have h := o_f hc35 h
    have h := o_f hc36 h
    have h := o_f hc37 h
    have h := o_f hc38 h
    have h := o_f hc39 h
    have h := o_f hc40 h
    have h := o_f hc41 h
    have h := o_f hc42 h
    have h := o_f hc43 h
    have h := o_f hc44 h
    have h := o_f hc45 h
    have h := o_f hc46 h
    have h := o_f hc47 h
    have h := o_t hc48 h
    exact G_subK (M_order_419_ok hJm h) ⟨rfl, ⟨rfl, trivial⟩⟩
  · have h := o_f hc1 h
    have h := o_f hc2 h
    have h := o_f hc3 h
    have h := o_f hc4 h
    have h := o_f hc5 h
    have h := o_f hc6 h
    have h := o_f hc7 h
    have h := o_f hc8 h
    have h := o_f hc9 h
    have h := o_f hc10 h
    have h := o_f hc11 h
    have h := o_f hc12 h
    have h := o_f hc13 h
    have h := o_f hc14 h
    have h := o_f hc15 h
    have h := o_f hc16 h
    have h := o_f hc17 h
    have h := o_f hc18 h
    have h := o_f hc19 h
    have h := o_f hc20 h
    have h := o_f hc21 h
    have h := o_f hc22 h
    have h := o_f hc23 h
    have h := o_f hc24 h
    have h := o_f hc25 h
    have h := o_f hc26 h
    have h := o_f hc27 h
    have h := o_f hc28 h
    have h := o_f hc29 h
    have h := o_f hc30 h
    have h := o_f hc31 h
    have h := o_f hc32 h
    have h := o_f hc33 h
    have h := o_f hc34 h
    have h := o_f hc35 h
    have h := o_f hc36 h
    have h := o_f hc37 h
    have h := o_f hc38 h
    have h := o_f hc39 h
    have h := o_f hc40 h
    have h := o_f hc41 h
    have h := o_f hc42 h
    have h := o_f hc43 h
    have h := o_f hc44 h
    have h := o_f hc45 h
    have h := o_f hc46 h
    have h := o_f hc47 h
    have h := o_f hc48 h
    have h := o_t hc49 h
    exact G_subK (M_order_419_ok hJm h) ⟨rfl, ⟨rfl, trivial⟩⟩
  · have h := o_f hc1 h
    have h := o_f hc2 h
    have h := o_f hc3 h
    have h := o_f hc4 h
    have h := o_f hc5 h
    have h := o_f hc6 h
    have h := o_f hc7 h
    have h := o_f hc8 h
    have h := o_f hc9 h
    have h := o_f hc10 h
    have h := o_f hc11 h
    have h := o_f hc12 h
    have h := o_f hc13 h
    have h := o_f hc14 h
    have h := o_f hc15 h
    have h := o_f hc16 h
    have h := o_f hc17 h
    have h := o_f hc18 h
    have h := o_f hc19 h
    have h := o_f hc20 h
    have h := o_f hc21 h
    have h := o_f hc22 h
    have h := o_f hc23 h
    have h := o_f hc24 h
    have h := o_f hc25 h
    have h := o_f hc26 h
    have h := o_f hc27 h
    have h := o_f hc28 h
    have h := o_f hc29 h
    have h := o_f hc30 h
    have h := o_f hc31 h
    have h := o_f hc32 h
    have h := o_f hc33 h
    have h := o_f hc34 h
    have h := o_f hc35 h
    have h := o_f hc36 h
    have h := o_f hc37 h
    have h := o_f hc38 h
    have h := o_f hc39 h
    have h := o_f hc40 h
    have h := o_f hc41 h
    have h := o_f hc42 h
    have h := o_f hc43 h
    have h := o_f hc44 h
    have h := o_f hc45 h
    have h := o_f hc46 h
    have h := o_f hc47 h
    have h := o_f hc48 h
    have h := o_f hc49 h
    have h := o_t hc50 h
    exact G_subK (M_order_419_ok hJm h) ⟨rfl, ⟨rfl, trivial⟩⟩
  · have h := o_f hc1 h
    have h := o_f hc2 h
    have h := o_f hc3 h
    have h := o_f hc4 h
    have h := o_f hc5 h
    have h := o_f hc6 h
    have h := o_f hc7 h
    have h := o_f hc8 h
    have h := o_f hc9 h
    have h := o_f hc10 h
    have h := o_f hc11 h
    have h := o_f hc12 h
    have h := o_f hc13 h
    have h := o_f hc14 h
    have h := o_f hc15 h
    have h := o_f hc16 h
    have h := o_f hc17 h
    have h := o_f hc18 h
    have h := o_f hc19 h
    have h := o_f hc20 h
    have h := o_f hc21 h
    have h := o_f hc22 h
    have h := o_f hc23 h
    have h := o_f hc24 h
    have h := o_f hc25 h
    have h := o_f hc26 h
    have h := o_f hc27 h
    have h := o_f hc28 h
    have h := o_f hc29 h
    have h := o_f hc30 h
    have h := o_f hc31 h
    have h := o_f hc32 h
    have h := o_f hc33 h
    have h := o_f hc34 h
    have h := o_f hc35 h
    have h := o_f hc36 h
    have h := o_f hc37 h
    have h := o_f hc38 h
    have h := o_f hc39 h
    have h := o_f hc40 h
    have h := o_f hc41 h
    have h := o_f hc42 h
    have h := o_f hc43 h
    have h := o_f hc44 h
    have h := o_f hc45 h
    have h := o_f hc46 h
    have h := o_f hc47 h
    have h := o_f hc48 h
    have h := o_f hc49 h
    have h := o_f hc50 h
    have h := o_t hc51 h
    exact G_subK (M_order_419_ok hJm h) ⟨rfl, ⟨rfl, trivial⟩⟩
  · have h := o_f hc1 h
    have h := o_f hc2 h
    have h := o_f hc3 h
    have h := o_f hc4 h
    have h := o_f hc5 h
    have h := o_f hc6 h
    have h := o_f hc7 h
    have h := o_f hc8 h
    have h := o_f hc9 h
    have h := o_f hc10 h
    have h := o_f hc11 h
    have h := o_f hc12 h
    have h := o_f hc13 h
    have h := o_f hc14 h
    have h := o_f hc15 h
    have h := o_f hc16 h
    have h := o_f hc17 h
    have h := o_f hc18 h
    have h := o_f hc19 h
    have h := o_f hc20 h
    have h := o_f hc21 h
    have h := o_f hc22 h
    have h := o_f hc23 h
    have h := o_f hc24 h
    have h := o_f hc25 h
    have h := o_f hc26 h
    have h := o_f hc27 h
    have h := o_f hc28 h
    have h := o_f hc29 h
    have h := o_f hc30 h
    have h := o_f hc31 h
    have h := o_f hc32 h
    have h := o_f hc33 h
    have h := o_f hc34 h
    have h := o_f hc35 h
    have h := o_f hc36 h
    have h := o_f hc37 h
    have h := o_f hc38 h
    have h := o_f hc39 h
    have h := o_f hc40 h
    have h := o_f hc41 h
    have h := o_f hc42 h
    have h := o_f hc43 h
    have h := o_f hc44 h
    have h := o_f hc45 h
    have h := o_f hc46 h
    have h := o_f hc47 h
    have h := o_f hc48 h
    have h := o_f hc49 h
    have h := o_f hc50 h
    have h := o_f hc51 h
    have h := o_t hc52 h
    exact G_subK (M_order_419_ok hJm h) ⟨rfl, ⟨rfl, trivial⟩⟩
  · have h := o_f hc1 h
    have h := o_f hc2 h
    have h := o_f hc3 h
    have h := o_f hc4 h
    have h := o_f hc5 h
    have h := o_f hc6 h
    have h := o_f hc7 h
    have h := o_f hc8 h
    have h := o_f hc9 h
    have h := o_f hc10 h
    have h := o_f hc11 h
    have h := o_f hc12 h
    have h := o_f hc13 h
    have h := o_f hc14 h
    have h := o_f hc15 h
    have h := o_f hc16 h
    have h := o_f hc17 h
    have h := o_f hc18 h
    have h := o_f hc19 h
    have h := o_f hc20 h
    have h := o_f hc21 h
    have h := o_f hc22 h
    have h := o_f hc23 h
    have h := o_f hc24 h
    have h := o_f hc25 h
    have h := o_f hc26 h
    have h := o_f hc27 h
    have h := o_f hc28 h
    have h := o_f hc29 h
    have h := o_f hc30 h
    have h := o_f hc31 h
    have h := o_f hc32 h
    have h := o_f hc33 h
    have h := o_f hc34 h
    have h := o_f hc35 h
    have h := o_f hc36 h
    have h := o_f hc37 h
    have h := o_f hc38 h
    have h := o_f hc39 h
    have h := o_f hc40 h
    have h := o_f hc41 h
    have h := o_f hc42 h
    have h := o_f hc43 h
    have h := o_f hc44 h
    have h := o_f hc45 h
    have h := o_f hc46 h
    have h := o_f hc47 h
    have h := o_f hc48 h
    have h := o_f hc49 h
    have h := o_f hc50 h
    have h := o_f hc51 h
    have h := o_f hc52 h
    have h := o_t hc53 h
    exact G_subK (M_order_419_ok hJm h) ⟨rfl, ⟨rfl, trivial⟩⟩
  · have h := o_f hc1 h
    have h := o_f hc2 h
    have h := o_f hc3 h
    have h := o_f hc4 h
    have h := o_f hc5 h
    have h := o_f hc6 h
    have h := o_f hc7 h
    have h := o_f hc8 h
    have h := o_f hc9 h
    have h := o_f hc10 h
    have h := o_f hc11 h
    have h := o_f hc12 h
    have h := o_f hc13 h
    have h := o_f hc14 h
    have h := o_f hc15 h
    have h := o_f hc16 h
    have h := o_f hc17 h
    have h := o_f hc18 h
    have h := o_f hc19 h
    have h := o_f hc20 h
    have h := o_f hc21 h
    have h := o_f hc22 h
    have h := o_f hc23 h
    have h := o_f hc24 h
    have h := o_f hc25 h
    have h := o_f hc26 h
    have h := o_f hc27 h
    have h := o_f hc28 h
    have h := o_f hc29 h
    have h := o_f hc30 h
    have h := o_f hc31 h
    have h := o_f hc32 h
    have h := o_f hc33 h
    have h := o_f hc34 h
    have h := o_f hc35 h
    have h := o_f hc36 h
    have h := o_f hc37 h
    have h := o_f hc38 h
    have h := o_f hc39 h
    have h := o_f hc40 h
    have h := o_f hc41 h
    have h := o_f hc42 h
    have h := o_f hc43 h
    have h := o_f hc44 h
    have h := o_f hc45 h
    have h := o_f hc46 h
    have h := o_f hc47 h
    have h := o_f hc48 h
    have h := o_f hc49 h
    have h := o_f hc50 h
    have h := o_f hc51 h
    have h := o_f hc52 h
    have h := o_f hc53 h
    have h := o_t hc54 h
    exact G_subK (M_order_419_ok hJm h) ⟨rfl, ⟨rfl, trivial⟩⟩
  · have h := o_f hc1 h
    have h := o_f hc2 h
    have h := o_f hc3 h
    have h := o_f hc4 h
    have h := o_f hc5 h
    have h := o_f hc6 h
    have h := o_f hc7 h
    have h := o_f hc8 h
    have h := o_f hc9 h
    have h := o_f hc10 h
    have h := o_f hc11 h
    have h := o_f hc12 h
    have h := o_f hc13 h
    have h := o_f hc14 h
    have h := o_f hc15 h
    have h := o_f hc16 h
    have h := o_f hc17 h
    have h := o_f hc18 h
    have h := o_f hc19 h
    have h := o_f hc20 h
    have h := o_f hc21 h
    have h := o_f hc22 h
    have h := o_f hc23 h
    have h := o_f hc24 h
    have h := o_f hc25 h
    have h := o_f hc26 h
    have h := o_f hc27 h
    have h := o_f hc28 h
    have h := o_f hc29 h
    have h := o_f hc30 h
    have h := o_f hc31 h
    have h := o_f hc32 h
    have h := o_f hc33 h
    have h := o_f hc34 h
    have h := o_f hc35 h
    have h := o_f hc36 h
    have h := o_f hc37 h
    have h := o_f hc38 h
    have h := o_f hc39 h
    have h := o_f hc40 h
    have h := o_f hc41 h
    have h := o_f hc42 h
    have h := o_f hc43 h
    have h := o_f hc44 h
    have h := o_f hc45 h
    have h := o_f hc46 h
    have h := o_f hc47 h
    have h := o_f hc48 h
    have h := o_f hc49 h
    have h := o_f hc50 h
    have h := o_f hc51 h
    have h := o_f hc52 h
    have h := o_f hc53 h
    have h := o_f hc54 h
    have h := o_t hc55 h
    exact G_subK (M_order_419_ok hJm h) ⟨rfl, ⟨rfl, trivial⟩⟩
  · have h := o_f hc1 h
    have h := o_f hc2 h
    have h := o_f hc3 h
    have h := o_f hc4 h
    have h := o_f hc5 h
    have h := o_f hc6 h
    have h := o_f hc7 h
    have h := o_f hc8 h
    have h := o_f hc9 h
    have h := o_f hc10 h
    have h := o_f hc11 h
    have h := o_f hc12 h
    have h := o_f hc13 h
    have h := o_f hc14 h
    have h := o_f hc15 h
    have h := o_f hc16 h
    have h := o_f hc17 h
    have h := o_f hc18 h
    have h := o_f hc19 h
    have h := o_f hc20 h
    have h := o_f hc21 h
    have h := o_f hc22 h
    have h := o_f hc23 h
    have h := o_f hc24 h
    have h := o_f hc25 h
    have h := o_f hc26 h
    have h := o_f hc27 h
    have h := o_f hc28 h
    have h := o_f hc29 h
    have h := o_f hc30 h
    have h := o_f hc31 h
    have h := o_f hc32 h
    have h := o_f hc33 h
    have h := o_f hc34 h
    have h := o_f hc35 h
    have h := o_f hc36 h
    have h := o_f hc37 h
    have h := o_f hc38 h
    have h := o_f hc39 h
    have h := o_f hc40 h
    have h := o_f hc41 h
    have h := o_f hc42 h
    have h := o_f hc43 h
    have h := o_f hc44 h
    have h := o_f hc45 h
    have h := o_f hc46 h
    have h := o_f hc47 h
    have h := o_f hc48 h
    have h := o_f hc49 h
    have h := o_f hc50 h
    have h := o_f hc51 h
    have h := o_f hc52 h
    have h := o_f hc53 h
    have h := o_f hc54 h
    have h := o_f hc55 h
    have h := o_t hc56 h
    exact G_subK (M_order_419_ok hJm h) ⟨rfl, ⟨rfl, trivial⟩⟩
  · have h := o_f hc1 h
    have h := o_f hc2 h
    have h := o_f hc3 h
    have h := o_f hc4 h
    have h := o_f hc5 h
    have h := o_f hc6 h
    have h := o_f hc7 h
    have h := o_f hc8 h
    have h := o_f hc9 h
    have h := o_f hc10 h
    have h := o_f hc11 h
    have h := o_f hc12 h
    have h := o_f hc13 h
    have h := o_f hc14 h
    have h := o_f hc15 h
    have h := o_f hc16 h
    have h := o_f hc17 h
    have h := o_f hc18 h
    have h := o_f hc19 h
    have h := o_f hc20 h
    have h := o_f hc21 h
    have h := o_f hc22 h
    have h := o_f hc23 h
    have h := o_f hc24 h
    have h := o_f hc25 h
    have h := o_f hc26 h
    have h := o_f hc27 h
    have h := o_f hc28 h
    have h := o_f hc29 h
    have h := o_f hc30 h
    have h := o_f hc31 h
    have h := o_f hc32 h
    have h := o_f hc33 h
    have h := o_f hc34 h
    have h := o_f hc35 h
    have h := o_f hc36 h
    have h := o_f hc37 h
    have h := o_f hc38 h
    have h := o_f hc39 h
    have h := o_f hc40 h
    have h := o_f hc41 h
    have h := o_f hc42 h
    have h := o_f hc43 h
    have h := o_f hc44 h
    have h := o_f hc45 h
    have h := o_f hc46 h
    have h := o_f hc47 h
    have h := o_f hc48 h
    have h := o_f hc49 h
    have h := o_f hc50 h
    have h := o_f hc51 h
    have h := o_f hc52 h
    have h := o_f hc53 h
    have h := o_f hc54 h
    have h := o_f hc55 h
    have h := o_f hc56 h
    have h := o_t hc57 h
    exact G_subK (M_order_419_ok hJm h) ⟨rfl, ⟨rfl, trivial⟩⟩
  · have h := o_f hc1 h
    have h := o_f hc2 h
    have h := o_f hc3 h
    have h := o_f hc4 h
    have h := o_f hc5 h
    have h := o_f hc6 h
    have h := o_f hc7 h
    have h := o_f hc8 h
    have h := o_f hc9 h
    have h := o_f hc10 h
    have h := o_f hc11 h
    have h := o_f hc12 h
    have h := o_f hc13 h
    have h := o_f hc14 h
    have h := o_f hc15 h
    have h := o_f hc16 h
    have h := o_f hc17 h
    have h := o_f hc18 h
    have h := o_f hc19 h
    have h := o_f hc20 h
    have h := o_f hc21 h
    have h := o_f hc22 h
    have h := o_f hc23 h
    have h := o_f hc24 h
    have h := o_f hc25 h
    have h := o_f hc26 h
    have h := o_f hc27 h
    have h := o_f hc28 h
    have h := o_f hc29 h
    have h := o_f hc30 h
    have h := o_f hc31 h
    have h := o_f hc32 h
    have h := o_f hc33 h
    have h := o_f hc34 h
    have h := o_f hc35 h
    have h := o_f hc36 h
    have h := o_f hc37 h
    have h := o_f hc38 h
    have h := o_f hc39 h
    have h := o_f hc40 h
    have h := o_f hc41 h
    have h := o_f hc42 h
    have h := o_f hc43 h
    have h := o_f hc44 h
    have h := o_f hc45 h
    have h := o_f hc46 h
    have h := o_f hc47 h
    have h := o_f hc48 h
    have h := o_f hc49 h
    have h := o_f hc50 h
    have h := o_f hc51 h
    have h := o_f hc52 h
    have h := o_f hc53 h
    have h := o_f hc54 h
    have h := o_f hc55 h
    have h := o_f hc56 h
    have h := o_f hc57 h
    have h := o_t hc58 h
    exact G_subK (M_order_419_ok hJm h) ⟨rfl, ⟨rfl, trivial⟩⟩
  · have h := o_f hc1 h
    have h := o_f hc2 h
    have h := o_f hc3 h
    have h := o_f hc4 h
    have h := o_f hc5 h
    have h := o_f hc6 h
    have h := o_f hc7 h
    have h := o_f hc8 h
    have h := o_f hc9 h
    have h := o_f hc10 h
    have h := o_f hc11 h
    have h := o_f hc12 h
    have h := o_f hc13 h
    have h := o_f hc14 h
    have h := o_f hc15 h
    have h := o_f hc16 h
    have h := o_f hc17 h
    have h := o_f hc18 h
    have h := o_f hc19 h
    have h := o_f hc20 h
    have h := o_f hc21 h
    have h := o_f hc22 h
    have h := o_f hc23 h
    have h := o_f hc24 h
    have h := o_f hc25 h
    have h := o_f hc26 h
    have h := o_f hc27 h
    have h := o_f hc28 h
    have h := o_f hc29 h
    have h := o_f hc30 h
    have h := o_f hc31 h
    have h := o_f hc32 h
    have h := o_f hc33 h
    have h := o_f hc34 h
    have h := o_f hc35 h
    have h := o_f hc36 h
    have h := o_f hc37 h
    have h := o_f hc38 h
    have h := o_f hc39 h
    have h := o_f hc40 h
    have h := o_f hc41 h
    have h := o_f hc42 h
    have h := o_f hc43 h
    have h := o_f hc44 h
    have h := o_f hc45 h
    have h := o_f hc46 h
    have h := o_f hc47 h
    have h := o_f hc48 h
    have h := o_f hc49 h
    have h := o_f hc50 h
    have h := o_f hc51 h
    have h := o_f hc52 h
    have h := o_f hc53 h
    have h := o_f hc54 h
    have h := o_f hc55 h
    have h := o_f hc56 h
    have h := o_f hc57 h
    have h := o_f hc58 h
    have h := o_t hc59 h
    exact G_subK (M_order_419_ok hJm h) ⟨rfl, ⟨rfl, trivial⟩⟩
  · have h := o_f hc1 h
    have h := o_f hc2 h
    have h := o_f hc3 h
    have h := o_f hc4 h
    have h := o_f hc5 h
    have h := o_f hc6 h
    have h := o_f hc7 h
    have h := o_f hc8 h
    have h := o_f hc9 h
    have h := o_f hc10 h
    have h := o_f hc11 h
    have h := o_f hc12 h
    have h := o_f hc13 h
    have h := o_f hc14 h
    have h := o_f hc15 h
    have h := o_f hc16 h
    have h := o_f hc17 h
    have h := o_f hc18 h
    have h := o_f hc19 h
    have h := o_f hc20 h
    have h := o_f hc21 h
    have h := o_f hc22 h
    have h := o_f hc23 h
    have h := o_f hc24 h
    have h := o_f hc25 h
    have h := o_f hc26 h
    have h := o_f hc27 h
    have h := o_f hc28 h
    have h := o_f hc29 h
    have h := o_f hc30 h
    have h := o_f hc31 h
    have h := o_f hc32 h
    have h := o_f hc33 h
    have h := o_f hc34 h
    have h := o_f hc35 h
    have h := o_f hc36 h
    have h := o_f hc37 h
    have h := o_f hc38 h
    have h := o_f hc39 h
    have h := o_f hc40 h
    have h := o_f hc41 h
    have h := o_f hc42 h
    have h := o_f hc43 h
    have h := o_f hc44 h
    have h := o_f hc45 h
    have h := o_f hc46 h
    have h := o_f hc47 h
    have h := o_f hc48 h
    have h := o_f hc49 h
    have h := o_f hc50 h
    have h := o_f hc51 h
    have h := o_f hc52 h
    have h := o_f hc53 h
    have h := o_f hc54 h
    have h := o_f hc55 h
    have h := o_f hc56 h
    have h := o_f hc57 h
    have h := o_f hc58 h
    have h := o_f hc59 h
    have h := o_t hc60 h
    refine G_aload_n (g_da dt_M_order 2 rfl) rfl rfl ?_
    refine G_getR (g_da dt_M_order 3 rfl) sh_49 fl_15_16 rfl ?_
    refine G_aload_n (g_da dt_M_order 4 rfl) rfl rfl ?_
    refine H_getI (g_da dt_M_order 5 rfl) sh_49 fl_15_145 rfl (hJm 49 rfl) ?_
    refine G_iconst (g_da dt_M_order 6 rfl) ?_
    refine G_isub (g_da dt_M_order 7 rfl) ?_
    refine G_aload_n (g_da dt_M_order 8 rfl) rfl rfl ?_
    refine G_getR (g_da dt_M_order 9 rfl) sh_49 fl_15_16 rfl ?_
    refine G_aload_n (g_da dt_M_order 10 rfl) rfl rfl ?_
    refine H_getI (g_da dt_M_order 11 rfl) sh_49 fl_15_145 rfl (hJm 49 rfl) ?_
    refine G_iconst (g_da dt_M_order 12 rfl) ?_
    refine G_isub (g_da dt_M_order 13 rfl) ?_
    obtain ⟨hb100, h⟩ := o_g h
    refine H_iaload (g_da dt_M_order 14 rfl) sh_52 (hJm 52 rfl) rfl hb100 rfl ?_
    refine G_ineg (g_da dt_M_order 15 rfl) ?_
    obtain ⟨hb101, h⟩ := o_g h
    refine H_iastore (g_da dt_M_order 16 rfl) sh_52 (hJm 52 rfl) rfl hb101 rfl (fun s102 e103 => ?_)
    have h := o_l h s102 e103
    refine G_goto (g_da dt_M_order 17 rfl) rfl ?_
    exact G_return (g_da dt_M_order 89 rfl) rfl rfl (g_nz rfl) (q_g h)
  · have h := o_f hc1 h
    have h := o_f hc2 h
    have h := o_f hc3 h
    have h := o_f hc4 h
    have h := o_f hc5 h
    have h := o_f hc6 h
    have h := o_f hc7 h
    have h := o_f hc8 h
    have h := o_f hc9 h
    have h := o_f hc10 h
    have h := o_f hc11 h
    have h := o_f hc12 h
    have h := o_f hc13 h
    have h := o_f hc14 h
    have h := o_f hc15 h
    have h := o_f hc16 h
    have h := o_f hc17 h
    have h := o_f hc18 h
    have h := o_f hc19 h
    have h := o_f hc20 h
    have h := o_f hc21 h
    have h := o_f hc22 h
    have h := o_f hc23 h
    have h := o_f hc24 h
    have h := o_f hc25 h
    have h := o_f hc26 h
    have h := o_f hc27 h
    have h := o_f hc28 h
    have h := o_f hc29 h
    have h := o_f hc30 h
    have h := o_f hc31 h
    have h := o_f hc32 h
    have h := o_f hc33 h
    have h := o_f hc34 h
    have h := o_f hc35 h
    have h := o_f hc36 h
    have h := o_f hc37 h
    have h := o_f hc38 h
    have h := o_f hc39 h
    have h := o_f hc40 h
    have h := o_f hc41 h
    have h := o_f hc42 h
    have h := o_f hc43 h
    have h := o_f hc44 h
    have h := o_f hc45 h
    have h := o_f hc46 h
    have h := o_f hc47 h
    have h := o_f hc48 h
    have h := o_f hc49 h
    have h := o_f hc50 h
    have h := o_f hc51 h
    have h := o_f hc52 h
    have h := o_f hc53 h
    have h := o_f hc54 h
    have h := o_f hc55 h
    have h := o_f hc56 h
    have h := o_f hc57 h
    have h := o_f hc58 h
    have h := o_f hc59 h
    have h := o_f hc60 h
    exact G_subK (M_order_419_ok hJm h) ⟨rfl, ⟨rfl, trivial⟩⟩
