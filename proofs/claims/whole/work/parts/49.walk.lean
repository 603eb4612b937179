set_option maxHeartbeats 4000000 in
set_option maxRecDepth 100000 in
theorem M_tick_32_ok {J : gS → gS} (hJm : g_jm J) {z0 : Int} {s0 : gS} {k32 : Int → Int → gS → gA} (hk32 : ∀ (l1 l2 : Int) (s : gS), k32 l1 l2 s = some (z0, s0) → G M_M_tick (QE g_S J z0 s0) (g_S, 0, 0) (J s) 32 [some (.ref 49), some (gi l1), some (gi l2)] [])  {l1 l2 : Int} {s : gS} (h : M_tick_32 k32 l1 l2 s = some (z0, s0)) : G M_M_tick (QE g_S J z0 s0) (g_S, 0, 0) (J s) 32 [some (.ref 49), some (gi l1), some (gi l2)] [] := by
  unfold M_tick_32 at h
  refine G_iload_n (g_da dt_M_tick 18 rfl) rfl rfl ?_
  refine G_iload_n (g_da dt_M_tick 19 rfl) rfl rfl ?_
  refine G_icmp_ge (g_da dt_M_tick 20 rfl) rfl rfl rfl (fun hc5 => ?_) (fun hc5 => ?_)
  · have h := o_t hc5 h
    refine G_aload_n (g_da dt_M_tick 25 rfl) rfl rfl ?_
    obtain ⟨r6, s7, hc8, h⟩ := o_b h
    refine H_cVE (M_stateOf_ok hJm hc8) (g_da dt_M_tick 26 rfl) lk_15_372 mv_M_stateOf rfl sh_49 rfl rfl rfl rfl rfl rfl ?_
    exact G_ireturn (g_da dt_M_tick 27 rfl) rfl rfl rfl (g_nz rfl) (q_e h)
  · have h := o_f hc5 h
    refine G_aload_n (g_da dt_M_tick 21 rfl) rfl rfl ?_
    obtain ⟨r9, s10, hc11, h⟩ := o_b h
    refine H_cVG (M_tickOnce_ok hJm hc11) (g_da dt_M_tick 22 rfl) lk_15_369 mv_M_tickOnce rfl sh_49 rfl rfl rfl rfl rfl rfl ?_
    refine G_iinc (lv' := [_, _, _]) (g_da dt_M_tick 23 rfl) rfl (Nat.le_of_ble_eq_true rfl) rfl rfl ?_
    refine G_goto (g_da dt_M_tick 24 rfl) rfl ?_
    exact G_subK (hk32 _ _ _ h) ⟨rfl, ⟨rfl, ⟨rfl, trivial⟩⟩⟩
set_option maxHeartbeats 4000000 in
set_option maxRecDepth 100000 in
theorem M_tick_32L_ok {J : gS → gS} (hJm : g_jm J) {z0 : Int} {s0 : gS} : ∀ (n : Nat) {l1 l2 : Int} {s : gS}, M_tick_32L n l1 l2 s = some (z0, s0) → G M_M_tick (QE g_S J z0 s0) (g_S, 0, 0) (J s) 32 [some (.ref 49), some (gi l1), some (gi l2)] [] := by
  intro n
  induction n with
  | zero => intro _ _ _ h; cases h
  | succ n ih => intro _ _ _ h; exact M_tick_32_ok hJm (fun _ _ _ h => ih h) h
set_option maxHeartbeats 4000000 in
set_option maxRecDepth 100000 in
theorem M_tick_18_ok {J : gS → gS} (hJm : g_jm J) {z0 : Int} {s0 : gS}  {l1 t1 : Int} {s : gS} (h : M_tick_18 l1 t1 s = some (z0, s0)) : G M_M_tick (QE g_S J z0 s0) (g_S, 0, 0) (J s) 18 [some (.ref 49), some (gi l1), none] [gi t1, .ref 49] := by
  unfold M_tick_18 at h
  refine H_putI (g_da dt_M_tick 10 rfl) sh_49 fp_15_83 rfl (hJm 49 rfl) (fun s2 e3 => ?_)
  have h := o_l h s2 e3
  refine G_aload_n (g_da dt_M_tick 11 rfl) rfl rfl ?_
  refine H_getI (g_da dt_M_tick 12 rfl) sh_49 fl_15_83 rfl (hJm 49 rfl) ?_
  refine G_if_eq (g_da dt_M_tick 13 rfl) rfl rfl  (fun hc4 => ?_) (fun hc4 => ?_)
  · have h := o_t hc4 h
    refine G_iconst (g_da dt_M_tick 16 rfl) ?_
    refine G_istore_n (lv' := [_, _, _]) (g_da dt_M_tick 17 rfl) rfl (Nat.le_of_ble_eq_true rfl) rfl rfl ?_
    exact G_subK (M_tick_32L_ok hJm gFu h) ⟨rfl, ⟨rfl, ⟨rfl, trivial⟩⟩⟩
  · have h := o_f hc4 h
    refine G_iconst (g_da dt_M_tick 14 rfl) ?_
    exact G_ireturn (g_da dt_M_tick 15 rfl) rfl rfl rfl (g_nz rfl) (q_e h)
set_option maxHeartbeats 4000000 in
set_option maxRecDepth 100000 in
theorem M_tick_13_ok {J : gS → gS} (hJm : g_jm J) {z0 : Int} {s0 : gS}  {l1 : Int} {s : gS} (h : M_tick_13 l1 s = some (z0, s0)) : G M_M_tick (QE g_S J z0 s0) (g_S, 0, 0) (J s) 13 [some (.ref 49), some (gi l1), none] [.ref 49] := by
  unfold M_tick_13 at h
  refine G_iconst (g_da dt_M_tick 7 rfl) ?_
  refine G_goto (g_da dt_M_tick 8 rfl) rfl ?_
  exact G_subK (M_tick_18_ok hJm h) ⟨rfl, ⟨rfl, trivial⟩⟩
set_option maxHeartbeats 4000000 in
set_option maxRecDepth 100000 in
theorem M_tick_ok {J : gS → gS} (hJm : g_jm J) {z0 : Int} {s0 : gS} {a1 : Int} {s : gS} (h : M_tick a1 s = some (z0, s0)) : Ct M_M_tick g_S [.ref 49, gi a1] (J s) (QE g_S J z0 s0) := by
  refine Ct_of [some (.ref 49), some (gi a1), none] (plainFor_of_name (by decide)) rfl (Nat.le_of_ble_eq_true rfl) rfl (by decide) q_rE ?_
  unfold M_tick at h
  refine G_aload_n (g_da dt_M_tick 0 rfl) rfl rfl ?_
  refine G_iload_n (g_da dt_M_tick 1 rfl) rfl rfl ?_
  refine G_iconst (g_da dt_M_tick 2 rfl) ?_
  refine G_icmp_lt (g_da dt_M_tick 3 rfl) rfl rfl w_1 (fun hc1 => ?_) (fun hc1 => ?_)
  · have h := o_t hc1 h
    exact G_subK (M_tick_13_ok hJm h) ⟨rfl, ⟨rfl, trivial⟩⟩
  · have h := o_f hc1 h
    refine G_iload_n (g_da dt_M_tick 4 rfl) rfl rfl ?_
    refine G_sipush (g_da dt_M_tick 5 rfl) s16w_1000 ?_
    refine G_icmp_le (g_da dt_M_tick 6 rfl) rfl rfl w_1000 (fun hc12 => ?_) (fun hc12 => ?_)
    · have h := o_t hc12 h
      refine G_iconst (g_da dt_M_tick 9 rfl) ?_
      exact G_subK (M_tick_18_ok hJm h) ⟨rfl, ⟨rfl, trivial⟩⟩
    · have h := o_f hc12 h
      exact G_subK (M_tick_13_ok hJm h) ⟨rfl, ⟨rfl, trivial⟩⟩
set_option maxHeartbeats 4000000 in
set_option maxRecDepth 100000 in
theorem M_type_33_ok {J : gS → gS} (hJm : g_jm J) {z0 : Int} {s0 : gS} {k33 : Int → Int → Int → gS → gA} {k78 : Int → Int → gS → gA} (hk33 : ∀ (l1 l3 l4 : Int) (s : gS), k33 l1 l3 l4 s = some (z0, s0) → G M_M_type (QE g_S J z0 s0) (g_S, 0, 0) (J s) 33 [some (.ref 49), some (gl l1), none, some (gi l3), some (gi l4), none, none] []) (hk78 : ∀ (l1 l3 : Int) (s : gS), k78 l1 l3 s = some (z0, s0) → G M_M_type (QE g_S J z0 s0) (g_S, 0, 0) (J s) 78 [some (.ref 49), some (gl l1), none, some (gi l3), none, none, none] [])  {l1 l3 l4 : Int} {s : gS} (h : M_type_33 k33 k78 l1 l3 l4 s = some (z0, s0)) : G M_M_type (QE g_S J z0 s0) (g_S, 0, 0) (J s) 33 [some (.ref 49), some (gl l1), none, some (gi l3), some (gi l4), none, none] [] := by
  unfold M_type_33 at h
  refine G_iload (g_da dt_M_type 19 rfl) rfl ?_
  refine G_iload_n (g_da dt_M_type 20 rfl) rfl rfl ?_
  refine G_icmp_ge (g_da dt_M_type 21 rfl) rfl rfl rfl (fun hc6 => ?_) (fun hc6 => ?_)
  · have h := o_t hc6 h
    exact G_subK (hk78 _ _ _ h) ⟨rfl, ⟨rfl, ⟨rfl, trivial⟩⟩⟩
  · have h := o_f hc6 h
    refine G_lload_n (g_da dt_M_type 22 rfl) rfl rfl ?_
    refine G_bipush (g_da dt_M_type 23 rfl) b8w_8 ?_
    refine G_iload (g_da dt_M_type 24 rfl) rfl ?_
    refine G_imul (g_da dt_M_type 25 rfl) ?_
    refine G_lshr (g_da dt_M_type 26 rfl) ?_
    refine G_ldc2 (z := 255) (g_da dt_M_type 27 rfl) cn_15_90 rfl ?_
    refine G_land (g_da dt_M_type 28 rfl) ?_
    refine H_topl (fun v7 e8 => ?_)
    have h := o_l h v7 e8
    refine G_lstore (lv' := [_, _, none, _, _, _, none]) (g_da dt_M_type 29 rfl) (Nat.le_of_ble_eq_true rfl) rfl rfl ?_
    refine G_lload (g_da dt_M_type 30 rfl) rfl ?_
    refine G_ldc2 (z := 32) (g_da dt_M_type 31 rfl) cn_15_92 rfl ?_
    refine G_lcmp (g_da dt_M_type 32 rfl) ?_
    refine G_if_lt (g_da dt_M_type 33 rfl) rfl rfl  (fun hc9 => ?_) (fun hc9 => ?_)
    · have h := o_t hc9 h
      refine G_iconst (g_da dt_M_type 38 rfl) ?_
      exact G_ireturn (g_da dt_M_type 39 rfl) rfl (g_bool (Or.inl w_0)).1 rfl (g_nz rfl) (q_e h)
    · have h := o_f hc9 h
      refine G_lload (g_da dt_M_type 34 rfl) rfl ?_
      refine G_ldc2 (z := 126) (g_da dt_M_type 35 rfl) cn_15_94 rfl ?_
      refine G_lcmp (g_da dt_M_type 36 rfl) ?_
      refine G_if_le (g_da dt_M_type 37 rfl) rfl rfl  (fun hc10 => ?_) (fun hc10 => ?_)
      · have h := o_t hc10 h
        refine G_iinc (lv' := [_, _, none, _, _, _, none]) (g_da dt_M_type 40 rfl) rfl (Nat.le_of_ble_eq_true rfl) rfl rfl ?_
        refine G_goto (g_da dt_M_type 41 rfl) rfl ?_
        exact G_subK (hk33 _ _ _ _ h) ⟨rfl, ⟨rfl, ⟨rfl, ⟨rfl, trivial⟩⟩⟩⟩
      · have h := o_f hc10 h
        refine G_iconst (g_da dt_M_type 38 rfl) ?_
        exact G_ireturn (g_da dt_M_type 39 rfl) rfl (g_bool (Or.inl w_0)).1 rfl (g_nz rfl) (q_e h)
set_option maxHeartbeats 4000000 in
set_option maxRecDepth 100000 in
theorem M_type_33L_ok {J : gS → gS} (hJm : g_jm J) {z0 : Int} {s0 : gS} {k78 : Int → Int → gS → gA} (hk78 : ∀ (l1 l3 : Int) (s : gS), k78 l1 l3 s = some (z0, s0) → G M_M_type (QE g_S J z0 s0) (g_S, 0, 0) (J s) 78 [some (.ref 49), some (gl l1), none, some (gi l3), none, none, none] []) : ∀ (n : Nat) {l1 l3 l4 : Int} {s : gS}, M_type_33L k78 n l1 l3 l4 s = some (z0, s0) → G M_M_type (QE g_S J z0 s0) (g_S, 0, 0) (J s) 33 [some (.ref 49), some (gl l1), none, some (gi l3), some (gi l4), none, none] [] := by
  intro n
  induction n with
  | zero => intro _ _ _ _ h; cases h
  | succ n ih => intro _ _ _ _ h; exact M_type_33_ok hJm (fun _ _ _ _ h => ih h) hk78 h
set_option maxHeartbeats 4000000 in
set_option maxRecDepth 100000 in
theorem M_type_83_ok {J : gS → gS} (hJm : g_jm J) {z0 : Int} {s0 : gS} {k83 : Int → Int → gS → gA} (hk83 : ∀ (l1 l4 : Int) (s : gS), k83 l1 l4 s = some (z0, s0) → G M_M_type (QE g_S J z0 s0) (g_S, 0, 0) (J s) 83 [some (.ref 49), some (gl l1), none, none, some (gi l4), none, none] [])  {l1 l4 : Int} {s : gS} (h : M_type_83 k83 l1 l4 s = some (z0, s0)) : G M_M_type (QE g_S J z0 s0) (g_S, 0, 0) (J s) 83 [some (.ref 49), some (gl l1), none, none, some (gi l4), none, none] [] := by
  unfold M_type_83 at h
  refine G_iload (g_da dt_M_type 46 rfl) rfl ?_
  refine G_if_lt (g_da dt_M_type 47 rfl) rfl rfl  (fun hc13 => ?_) (fun hc13 => ?_)
  · have h := o_t hc13 h
    refine G_iconst (g_da dt_M_type 69 rfl) ?_
    exact G_ireturn (g_da dt_M_type 70 rfl) rfl (g_bool (Or.inr w_1)).1 rfl (g_nz rfl) (q_e h)
  · have h := o_f hc13 h
    refine G_aload_n (g_da dt_M_type 48 rfl) rfl rfl ?_
    refine G_getR (g_da dt_M_type 49 rfl) sh_49 fl_15_7 rfl ?_
    refine G_aload_n (g_da dt_M_type 50 rfl) rfl rfl ?_
    refine H_getI (g_da dt_M_type 51 rfl) sh_49 fl_15_87 rfl (hJm 49 rfl) ?_
    refine G_lload_n (g_da dt_M_type 52 rfl) rfl rfl ?_
    refine G_bipush (g_da dt_M_type 53 rfl) b8w_8 ?_
    refine G_iload (g_da dt_M_type 54 rfl) rfl ?_
    refine G_imul (g_da dt_M_type 55 rfl) ?_
    refine G_lshr (g_da dt_M_type 56 rfl) ?_
    refine G_ldc2 (z := 255) (g_da dt_M_type 57 rfl) cn_15_90 rfl ?_
    refine G_land (g_da dt_M_type 58 rfl) ?_
    refine G_l2i (g_da dt_M_type 59 rfl) ?_
    obtain ⟨hb14, h⟩ := o_g h
    refine H_iastore (g_da dt_M_type 60 rfl) sh_50 (hJm 50 rfl) rfl hb14 rfl (fun s15 e16 => ?_)
    have h := o_l h s15 e16
    refine G_aload_n (g_da dt_M_type 61 rfl) rfl rfl ?_
    refine G_dup (g_da dt_M_type 62 rfl) rfl ?_
    refine H_getI (g_da dt_M_type 63 rfl) sh_49 fl_15_87 rfl (hJm 49 rfl) ?_
    refine G_iconst (g_da dt_M_type 64 rfl) ?_
    refine G_iadd (g_da dt_M_type 65 rfl) ?_
    refine H_putI (g_da dt_M_type 66 rfl) sh_49 fp_15_87 rfl (hJm 49 rfl) (fun s17 e18 => ?_)
    have h := o_l h s17 e18
    refine G_iinc (lv' := [_, _, none, none, _, none, none]) (g_da dt_M_type 67 rfl) rfl (Nat.le_of_ble_eq_true rfl) rfl rfl ?_
    refine G_goto (g_da dt_M_type 68 rfl) rfl ?_
    exact G_subK (hk83 _ _ _ h) ⟨rfl, ⟨rfl, ⟨rfl, trivial⟩⟩⟩
set_option maxHeartbeats 4000000 in
set_option maxRecDepth 100000 in
theorem M_type_83L_ok {J : gS → gS} (hJm : g_jm J) {z0 : Int} {s0 : gS} : ∀ (n : Nat) {l1 l4 : Int} {s : gS}, M_type_83L n l1 l4 s = some (z0, s0) → G M_M_type (QE g_S J z0 s0) (g_S, 0, 0) (J s) 83 [some (.ref 49), some (gl l1), none, none, some (gi l4), none, none] [] := by
  intro n
  induction n with
  | zero => intro _ _ _ h; cases h
  | succ n ih => intro _ _ _ h; exact M_type_83_ok hJm (fun _ _ _ h => ih h) h
set_option maxHeartbeats 4000000 in
set_option maxRecDepth 100000 in
theorem M_type_78_ok {J : gS → gS} (hJm : g_jm J) {z0 : Int} {s0 : gS}  {l1 l3 : Int} {s : gS} (h : M_type_78 l1 l3 s = some (z0, s0)) : G M_M_type (QE g_S J z0 s0) (g_S, 0, 0) (J s) 78 [some (.ref 49), some (gl l1), none, some (gi l3), none, none, none] [] := by
  unfold M_type_78 at h
  refine G_iload_n (g_da dt_M_type 42 rfl) rfl rfl ?_
  refine G_iconst (g_da dt_M_type 43 rfl) ?_
  refine G_isub (g_da dt_M_type 44 rfl) ?_
  refine H_topi (fun v11 e12 => ?_)
  have h := o_l h v11 e12
  refine G_istore (lv' := [_, _, none, _, _, none, none]) (g_da dt_M_type 45 rfl) (Nat.le_of_ble_eq_true rfl) rfl rfl ?_
  exact G_subK (M_type_83L_ok hJm gFu h) ⟨rfl, ⟨rfl, ⟨rfl, trivial⟩⟩⟩
set_option maxHeartbeats 4000000 in
set_option maxRecDepth 100000 in
theorem M_type_ok {J : gS → gS} (hJm : g_jm J) {z0 : Int} {s0 : gS} {a1 a3 : Int} {s : gS} (h : M_type a1 a3 s = some (z0, s0)) : Ct M_M_type g_S [.ref 49, gl a1, gi a3] (J s) (QE g_S J z0 s0) := by
  refine Ct_of [some (.ref 49), some (gl a1), none, some (gi a3), none, none, none] (plainFor_of_name (by decide)) rfl (Nat.le_of_ble_eq_true rfl) rfl (by decide) q_rE ?_
  unfold M_type at h
  refine G_aload_n (g_da dt_M_type 0 rfl) rfl rfl ?_
  refine G_iconst (g_da dt_M_type 1 rfl) ?_
  refine H_putI (g_da dt_M_type 2 rfl) sh_49 fp_15_83 rfl (hJm 49 rfl) (fun s1 e2 => ?_)
  have h := o_l h s1 e2
  refine G_iload_n (g_da dt_M_type 3 rfl) rfl rfl ?_
  refine G_iconst (g_da dt_M_type 4 rfl) ?_
  refine G_icmp_lt (g_da dt_M_type 5 rfl) rfl rfl w_1 (fun hc3 => ?_) (fun hc3 => ?_)
  · have h := o_t hc3 h
    refine G_iconst (g_da dt_M_type 15 rfl) ?_
    exact G_ireturn (g_da dt_M_type 16 rfl) rfl (g_bool (Or.inl w_0)).1 rfl (g_nz rfl) (q_e h)
  · have h := o_f hc3 h
    refine G_iload_n (g_da dt_M_type 6 rfl) rfl rfl ?_
    refine G_bipush (g_da dt_M_type 7 rfl) b8w_8 ?_
    refine G_icmp_gt (g_da dt_M_type 8 rfl) rfl rfl w_8 (fun hc4 => ?_) (fun hc4 => ?_)
    · have h := o_t hc4 h
      refine G_iconst (g_da dt_M_type 15 rfl) ?_
      exact G_ireturn (g_da dt_M_type 16 rfl) rfl (g_bool (Or.inl w_0)).1 rfl (g_nz rfl) (q_e h)
    · have h := o_f hc4 h
      refine G_aload_n (g_da dt_M_type 9 rfl) rfl rfl ?_
      refine H_getI (g_da dt_M_type 10 rfl) sh_49 fl_15_87 rfl (hJm 49 rfl) ?_
      refine G_iload_n (g_da dt_M_type 11 rfl) rfl rfl ?_
      refine G_iadd (g_da dt_M_type 12 rfl) ?_
      refine G_sipush (g_da dt_M_type 13 rfl) s16w_300 ?_
      refine G_icmp_le (g_da dt_M_type 14 rfl) rfl rfl w_300 (fun hc5 => ?_) (fun hc5 => ?_)
      · have h := o_t hc5 h
        refine G_iconst (g_da dt_M_type 17 rfl) ?_
        refine G_istore (lv' := [_, _, none, _, _, none, none]) (g_da dt_M_type 18 rfl) (Nat.le_of_ble_eq_true rfl) rfl rfl ?_
        exact G_subK (M_type_33L_ok hJm (fun _ _ _ h => M_type_78_ok hJm h) gFu h) ⟨rfl, ⟨rfl, ⟨rfl, ⟨rfl, trivial⟩⟩⟩⟩
      · have h := o_f hc5 h
        refine G_iconst (g_da dt_M_type 15 rfl) ?_
        exact G_ireturn (g_da dt_M_type 16 rfl) rfl (g_bool (Or.inl w_0)).1 rfl (g_nz rfl) (q_e h)
set_option maxHeartbeats 4000000 in
set_option maxRecDepth 100000 in
theorem M_value_53_ok {J : gS → gS} (hJm : g_jm J) {z0 : Int} {s0 : gS}  {l1 t0 : Int} {s : gS} (h : M_value_53 l1 t0 s = some (z0, s0)) : G M_M_value (QE g_S J z0 s0) (g_S, 0, 0) (J s) 53 [some (.ref 49), some (gi l1)] [gi t0] := by
  unfold M_value_53 at h
  refine G_aload_n (g_da dt_M_value 29 rfl) rfl rfl ?_
  refine G_getR (g_da dt_M_value 30 rfl) sh_49 fl_15_16 rfl ?_
  refine G_aload_n (g_da dt_M_value 31 rfl) rfl rfl ?_
  refine H_getI (g_da dt_M_value 32 rfl) sh_49 fl_15_145 rfl (hJm 49 rfl) ?_
  refine G_iconst (g_da dt_M_value 33 rfl) ?_
  refine G_isub (g_da dt_M_value 34 rfl) ?_
  refine G_iload_n (g_da dt_M_value 35 rfl) rfl rfl ?_
  refine G_isub (g_da dt_M_value 36 rfl) ?_
  obtain ⟨hb7, h⟩ := o_g h
  refine H_iaload (g_da dt_M_value 37 rfl) sh_52 (hJm 52 rfl) rfl hb7 rfl ?_
  refine G_iadd (g_da dt_M_value 38 rfl) ?_
  exact G_ireturn (g_da dt_M_value 39 rfl) rfl rfl rfl (g_nz rfl) (q_e h)
set_option maxHeartbeats 4000000 in
set_option maxRecDepth 100000 in
theorem M_value_18_ok {J : gS → gS} (hJm : g_jm J) {z0 : Int} {s0 : gS}  {l1 t1 : Int} {s : gS} (h : M_value_18 l1 t1 s = some (z0, s0)) : G M_M_value (QE g_S J z0 s0) (g_S, 0, 0) (J s) 18 [some (.ref 49), some (gi l1)] [gi t1, .ref 49] := by
  unfold M_value_18 at h
  refine H_putI (g_da dt_M_value 10 rfl) sh_49 fp_15_83 rfl (hJm 49 rfl) (fun s2 e3 => ?_)
  have h := o_l h s2 e3
  refine G_aload_n (g_da dt_M_value 11 rfl) rfl rfl ?_
  refine H_getI (g_da dt_M_value 12 rfl) sh_49 fl_15_83 rfl (hJm 49 rfl) ?_
  refine G_if_eq (g_da dt_M_value 13 rfl) rfl rfl  (fun hc4 => ?_) (fun hc4 => ?_)
  · have h := o_t hc4 h
    refine G_aload_n (g_da dt_M_value 16 rfl) rfl rfl ?_
    refine G_getR (g_da dt_M_value 17 rfl) sh_49 fl_15_22 rfl ?_
    refine G_aload_n (g_da dt_M_value 18 rfl) rfl rfl ?_
    refine H_getI (g_da dt_M_value 19 rfl) sh_49 fl_15_145 rfl (hJm 49 rfl) ?_
    refine G_iconst (g_da dt_M_value 20 rfl) ?_
    refine G_isub (g_da dt_M_value 21 rfl) ?_
    refine G_iload_n (g_da dt_M_value 22 rfl) rfl rfl ?_
    refine G_isub (g_da dt_M_value 23 rfl) ?_
    obtain ⟨hb5, h⟩ := o_g h
    refine H_zaload (g_da dt_M_value 24 rfl) sh_54 (hJm 54 rfl) rfl hb5 rfl ?_
    refine G_if_eq (g_da dt_M_value 25 rfl) rfl rfl  (fun hc6 => ?_) (fun hc6 => ?_)
    · have h := o_t hc6 h
      refine G_iconst (g_da dt_M_value 28 rfl) ?_
      exact G_subK (M_value_53_ok hJm h) ⟨rfl, ⟨rfl, trivial⟩⟩
    · have h := o_f hc6 h
      refine G_ldc_w (z := 2000000) (g_da dt_M_value 26 rfl) cn_15_301 rfl ?_
      refine G_goto (g_da dt_M_value 27 rfl) rfl ?_
      exact G_subK (M_value_53_ok hJm h) ⟨rfl, ⟨rfl, trivial⟩⟩
  · have h := o_f hc4 h
    refine G_iconst (g_da dt_M_value 14 rfl) ?_
    exact G_ireturn (g_da dt_M_value 15 rfl) rfl rfl rfl (g_nz rfl) (q_e h)
set_option maxHeartbeats 4000000 in
set_option maxRecDepth 100000 in
theorem M_value_13_ok {J : gS → gS} (hJm : g_jm J) {z0 : Int} {s0 : gS}  {l1 : Int} {s : gS} (h : M_value_13 l1 s = some (z0, s0)) : G M_M_value (QE g_S J z0 s0) (g_S, 0, 0) (J s) 13 [some (.ref 49), some (gi l1)] [.ref 49] := by
  unfold M_value_13 at h
  refine G_iconst (g_da dt_M_value 7 rfl) ?_
  refine G_goto (g_da dt_M_value 8 rfl) rfl ?_
  exact G_subK (M_value_18_ok hJm h) ⟨rfl, ⟨rfl, trivial⟩⟩
set_option maxHeartbeats 4000000 in
set_option maxRecDepth 100000 in
theorem M_value_ok {J : gS → gS} (hJm : g_jm J) {z0 : Int} {s0 : gS} {a1 : Int} {s : gS} (h : M_value a1 s = some (z0, s0)) : Ct M_M_value g_S [.ref 49, gi a1] (J s) (QE g_S J z0 s0) := by
  refine Ct_of [some (.ref 49), some (gi a1)] (plainFor_of_name (by decide)) rfl (Nat.le_of_ble_eq_true rfl) rfl (by decide) q_rE ?_
  unfold M_value at h
  refine G_aload_n (g_da dt_M_value 0 rfl) rfl rfl ?_
  refine G_iload_n (g_da dt_M_value 1 rfl) rfl rfl ?_
  refine G_if_lt (g_da dt_M_value 2 rfl) rfl rfl  (fun hc1 => ?_) (fun hc1 => ?_)
  · have h := o_t hc1 h
    exact G_subK (M_value_13_ok hJm h) ⟨rfl, ⟨rfl, trivial⟩⟩
  · have h := o_f hc1 h
    refine G_iload_n (g_da dt_M_value 3 rfl) rfl rfl ?_
    refine G_aload_n (g_da dt_M_value 4 rfl) rfl rfl ?_
    refine H_getI (g_da dt_M_value 5 rfl) sh_49 fl_15_145 rfl (hJm 49 rfl) ?_
    refine G_icmp_lt (g_da dt_M_value 6 rfl) rfl rfl rfl (fun hc8 => ?_) (fun hc8 => ?_)
    · have h := o_t hc8 h
      refine G_iconst (g_da dt_M_value 9 rfl) ?_
      exact G_subK (M_value_18_ok hJm h) ⟨rfl, ⟨rfl, trivial⟩⟩
    · have h := o_f hc8 h
      exact G_subK (M_value_13_ok hJm h) ⟨rfl, ⟨rfl, trivial⟩⟩
set_option maxHeartbeats 4000000 in
set_option maxRecDepth 100000 in
theorem M_variable_ok {J : gS → gS} (hJm : g_jm J) {z0 : Int} {s0 : gS} {a1 : Int} {s : gS} (h : M_variable a1 s = some (z0, s0)) : Ct M_M_variable g_S [.ref 49, gi a1] (J s) (QE g_S J z0 s0) := by
  refine Ct_of [some (.ref 49), some (gi a1)] (plainFor_of_name (by decide)) rfl (Nat.le_of_ble_eq_true rfl) rfl (by decide) q_rE ?_
  unfold M_variable at h
  refine G_aload_n (g_da dt_M_variable 0 rfl) rfl rfl ?_
  refine G_iconst (g_da dt_M_variable 1 rfl) ?_
  refine H_putI (g_da dt_M_variable 2 rfl) sh_49 fp_15_83 rfl (hJm 49 rfl) (fun s1 e2 => ?_)
  have h := o_l h s1 e2
  refine G_iload_n (g_da dt_M_variable 3 rfl) rfl rfl ?_
  refine G_if_lt (g_da dt_M_variable 4 rfl) rfl rfl  (fun hc3 => ?_) (fun hc3 => ?_)
  · have h := o_t hc3 h
    refine G_iconst (g_da dt_M_variable 8 rfl) ?_
    refine G_goto (g_da dt_M_variable 9 rfl) rfl ?_
    exact G_ireturn (g_da dt_M_variable 14 rfl) rfl rfl rfl (g_nz rfl) (q_e h)
  · have h := o_f hc3 h
    refine G_iload_n (g_da dt_M_variable 5 rfl) rfl rfl ?_
    refine G_bipush (g_da dt_M_variable 6 rfl) b8w_25 ?_
    refine G_icmp_le (g_da dt_M_variable 7 rfl) rfl rfl w_25 (fun hc4 => ?_) (fun hc4 => ?_)
    · have h := o_t hc4 h
      refine G_aload_n (g_da dt_M_variable 10 rfl) rfl rfl ?_
      refine G_getR (g_da dt_M_variable 11 rfl) sh_49 fl_15_19 rfl ?_
      refine G_iload_n (g_da dt_M_variable 12 rfl) rfl rfl ?_
      obtain ⟨hb5, h⟩ := o_g h
      refine H_iaload (g_da dt_M_variable 13 rfl) sh_53 (hJm 53 rfl) rfl hb5 rfl ?_
      exact G_ireturn (g_da dt_M_variable 14 rfl) rfl rfl rfl (g_nz rfl) (q_e h)
    · have h := o_f hc4 h
      refine G_iconst (g_da dt_M_variable 8 rfl) ?_
      refine G_goto (g_da dt_M_variable 9 rfl) rfl ?_
      exact G_ireturn (g_da dt_M_variable 14 rfl) rfl rfl rfl (g_nz rfl) (q_e h)
set_option maxHeartbeats 4000000 in
set_option maxRecDepth 100000 in
theorem Arrays_fill_c_6_ok {J : gS → gS} (hJc : g_jc J) {z0 : Int} {s0 : gS} {k6 : Int → Int → Int → gS → gA} (hk6 : ∀ (l1 l3 l4 : Int) (s : gS), k6 l1 l3 l4 s = some (z0, s0) → G M_Arrays_fill (QG Y_53 J z0 s0) (Y_53, 0, 0) (J s) 6 [some (.ref 27), some (gl l1), none, some (gi l3), some (gi l4)] [])  {l1 l3 l4 : Int} {s : gS} (h : Arrays_fill_c_6 k6 l1 l3 l4 s = some (z0, s0)) : G M_Arrays_fill (QG Y_53 J z0 s0) (Y_53, 0, 0) (J s) 6 [some (.ref 27), some (gl l1), none, some (gi l3), some (gi l4)] [] := by
  unfold Arrays_fill_c_6 at h
  refine G_iload_n (g_da dt_Arrays_fill 5 rfl) rfl rfl ?_
  refine G_iload (g_da dt_Arrays_fill 6 rfl) rfl ?_
  refine G_icmp_ge (g_da dt_Arrays_fill 7 rfl) rfl rfl rfl (fun hc1 => ?_) (fun hc1 => ?_)
  · have h := o_t hc1 h
    exact G_return (g_da dt_Arrays_fill 14 rfl) rfl rfl (g_nz rfl) (q_g h)
  · have h := o_f hc1 h
    refine G_aload_n (g_da dt_Arrays_fill 8 rfl) rfl rfl ?_
    refine G_iload_n (g_da dt_Arrays_fill 9 rfl) rfl rfl ?_
    refine G_lload_n (g_da dt_Arrays_fill 10 rfl) rfl rfl ?_
    obtain ⟨hb2, h⟩ := o_g h
    refine H_lastore (g_da dt_Arrays_fill 11 rfl) (show Y_53[27]? = some (.inl (3, 240)) by decide +kernel) (hJc 27 rfl) rfl hb2 rfl (fun s3 e4 => ?_)
    have h := o_l h s3 e4
    refine G_iinc (lv' := [_, _, none, _, _]) (g_da dt_Arrays_fill 12 rfl) rfl (Nat.le_of_ble_eq_true rfl) rfl rfl ?_
    refine G_goto (g_da dt_Arrays_fill 13 rfl) rfl ?_
    exact G_subK (hk6 _ _ _ _ h) ⟨rfl, ⟨rfl, ⟨rfl, ⟨rfl, trivial⟩⟩⟩⟩
set_option maxHeartbeats 4000000 in
set_option maxRecDepth 100000 in
theorem Arrays_fill_c_6L_ok {J : gS → gS} (hJc : g_jc J) {z0 : Int} {s0 : gS} : ∀ (n : Nat) {l1 l3 l4 : Int} {s : gS}, Arrays_fill_c_6L n l1 l3 l4 s = some (z0, s0) → G M_Arrays_fill (QG Y_53 J z0 s0) (Y_53, 0, 0) (J s) 6 [some (.ref 27), some (gl l1), none, some (gi l3), some (gi l4)] [] := by
  intro n
  induction n with
  | zero => intro _ _ _ _ h; cases h
  | succ n ih => intro _ _ _ _ h; exact Arrays_fill_c_6_ok hJc (fun _ _ _ _ h => ih h) h
set_option maxHeartbeats 4000000 in
set_option maxRecDepth 100000 in
theorem Arrays_fill_c_ok {J : gS → gS} (hJc : g_jc J) {z0 : Int} {s0 : gS} {a1 : Int} {s : gS} (h : Arrays_fill_c a1 s = some (z0, s0)) : Ct M_Arrays_fill Y_53 [.ref 27, gl a1] (J s) (QG Y_53 J z0 s0) := by
  refine Ct_of [some (.ref 27), some (gl a1), none, none, none] (plainFor_of_name (by decide)) rfl (Nat.le_of_ble_eq_true rfl) rfl (by decide) q_rG ?_
  unfold Arrays_fill_c at h
  refine G_iconst (g_da dt_Arrays_fill 0 rfl) ?_
  refine G_istore_n (lv' := [_, _, none, _, none]) (g_da dt_Arrays_fill 1 rfl) rfl (Nat.le_of_ble_eq_true rfl) rfl rfl ?_
  refine G_aload_n (g_da dt_Arrays_fill 2 rfl) rfl rfl ?_
  refine G_alen (z := 240) (g_da dt_Arrays_fill 3 rfl) (show Y_53[27]? = some (.inl (3, 240)) by decide +kernel) (by decide) rfl ?_
  refine G_istore (lv' := [_, _, none, _, _]) (g_da dt_Arrays_fill 4 rfl) (Nat.le_of_ble_eq_true rfl) rfl rfl ?_
  exact G_subK (Arrays_fill_c_6L_ok hJc gFu h) ⟨rfl, ⟨rfl, ⟨rfl, ⟨rfl, trivial⟩⟩⟩⟩
