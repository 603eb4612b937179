set_option maxHeartbeats 4000000 in
set_option maxRecDepth 100000 in
theorem M_place_ok {J : gS → gS} (hJm : g_jm J) {z0 : Int} {s0 : gS} {a1 a2 a3 : Int} {s : gS} (h : M_place a1 a2 a3 s = some (z0, s0)) : Ct M_M_place g_S [.ref 49, gi a1, gi a2, gi a3] (J s) (QG g_S J z0 s0) := by
  refine Ct_of [some (.ref 49), some (gi a1), some (gi a2), some (gi a3)] (plainFor_of_name (by decide)) rfl (Nat.le_of_ble_eq_true rfl) rfl (by decide) q_rG ?_
  unfold M_place at h
  refine G_aload_n (g_da dt_M_place 0 rfl) rfl rfl ?_
  refine G_getR (g_da dt_M_place 1 rfl) sh_49 fl_15_38 rfl ?_
  refine G_aload_n (g_da dt_M_place 2 rfl) rfl rfl ?_
  refine H_getI (g_da dt_M_place 3 rfl) sh_49 fl_15_220 rfl (hJm 49 rfl) ?_
  refine G_iload_n (g_da dt_M_place 4 rfl) rfl rfl ?_
  obtain ⟨hb1, h⟩ := o_g h
  refine H_iastore (g_da dt_M_place 5 rfl) sh_59 (hJm 59 rfl) rfl hb1 rfl (fun s2 e3 => ?_)
  have h := o_l h s2 e3
  refine G_aload_n (g_da dt_M_place 6 rfl) rfl rfl ?_
  refine G_getR (g_da dt_M_place 7 rfl) sh_49 fl_15_41 rfl ?_
  refine G_aload_n (g_da dt_M_place 8 rfl) rfl rfl ?_
  refine H_getI (g_da dt_M_place 9 rfl) sh_49 fl_15_220 rfl (hJm 49 rfl) ?_
  refine G_iload_n (g_da dt_M_place 10 rfl) rfl rfl ?_
  obtain ⟨hb4, h⟩ := o_g h
  refine H_iastore (g_da dt_M_place 11 rfl) sh_60 (hJm 60 rfl) rfl hb4 rfl (fun s5 e6 => ?_)
  have h := o_l h s5 e6
  refine G_aload_n (g_da dt_M_place 12 rfl) rfl rfl ?_
  refine G_getR (g_da dt_M_place 13 rfl) sh_49 fl_15_44 rfl ?_
  refine G_aload_n (g_da dt_M_place 14 rfl) rfl rfl ?_
  refine H_getI (g_da dt_M_place 15 rfl) sh_49 fl_15_220 rfl (hJm 49 rfl) ?_
  refine G_iload_n (g_da dt_M_place 16 rfl) rfl rfl ?_
  obtain ⟨hb7, h⟩ := o_g h
  refine H_zastore (g_da dt_M_place 17 rfl) sh_61 (hJm 61 rfl) rfl hb7 rfl (fun s8 e9 => ?_)
  have h := o_l h s8 e9
  refine G_aload_n (g_da dt_M_place 18 rfl) rfl rfl ?_
  refine G_dup (g_da dt_M_place 19 rfl) rfl ?_
  refine H_getI (g_da dt_M_place 20 rfl) sh_49 fl_15_220 rfl (hJm 49 rfl) ?_
  refine G_iconst (g_da dt_M_place 21 rfl) ?_
  refine G_iadd (g_da dt_M_place 22 rfl) ?_
  refine H_putI (g_da dt_M_place 23 rfl) sh_49 fp_15_220 rfl (hJm 49 rfl) (fun s10 e11 => ?_)
  have h := o_l h s10 e11
  refine G_aload_n (g_da dt_M_place 24 rfl) rfl rfl ?_
  refine G_iload_n (g_da dt_M_place 25 rfl) rfl rfl ?_
  refine H_putI (g_da dt_M_place 26 rfl) sh_49 fp_15_262 rfl (hJm 49 rfl) (fun s12 e13 => ?_)
  have h := o_l h s12 e13
  refine G_aload_n (g_da dt_M_place 27 rfl) rfl rfl ?_
  refine G_iload_n (g_da dt_M_place 28 rfl) rfl rfl ?_
  refine H_putI (g_da dt_M_place 29 rfl) sh_49 fp_15_268 rfl (hJm 49 rfl) (fun s14 e15 => ?_)
  have h := o_l h s14 e15
  refine G_aload_n (g_da dt_M_place 30 rfl) rfl rfl ?_
  refine G_iconst (g_da dt_M_place 31 rfl) ?_
  refine H_putZ (g_da dt_M_place 32 rfl) sh_49 fp_15_217 rfl (hJm 49 rfl) (Or.inr w_1) (fun s16 e17 => ?_)
  have h := o_l h s16 e17
  refine G_iload_n (g_da dt_M_place 33 rfl) rfl rfl ?_
  refine G_if_ne (g_da dt_M_place 34 rfl) rfl rfl  (fun hc18 => ?_) (fun hc18 => ?_)
  · have h := o_f hc18 h
    refine G_aload_n (g_da dt_M_place 36 rfl) rfl rfl ?_
    refine G_iload_n (g_da dt_M_place 37 rfl) rfl rfl ?_
    refine H_putI (g_da dt_M_place 38 rfl) sh_49 fp_15_259 rfl (hJm 49 rfl) (fun s19 e20 => ?_)
    have h := o_l h s19 e20
    refine G_aload_n (g_da dt_M_place 39 rfl) rfl rfl ?_
    refine G_iload_n (g_da dt_M_place 40 rfl) rfl rfl ?_
    refine H_putI (g_da dt_M_place 41 rfl) sh_49 fp_15_265 rfl (hJm 49 rfl) (fun s21 e22 => ?_)
    have h := o_l h s21 e22
    refine G_aload_n (g_da dt_M_place 42 rfl) rfl rfl ?_
    refine G_iconst (g_da dt_M_place 43 rfl) ?_
    refine H_putZ (g_da dt_M_place 44 rfl) sh_49 fp_15_203 rfl (hJm 49 rfl) (Or.inl w_0) (fun s23 e24 => ?_)
    have h := o_l h s23 e24
    exact G_return (g_da dt_M_place 45 rfl) rfl rfl (g_nz rfl) (q_g h)
  · have h := o_t hc18 h
    exact G_return (g_da dt_M_place 35 rfl) rfl rfl (g_nz rfl) (q_g h)
set_option maxHeartbeats 4000000 in
set_option maxRecDepth 100000 in
theorem M_number_ok {J : gS → gS} (hJm : g_jm J) {z0 : Int} {s0 : gS} {a1 : Int} {s : gS} (h : M_number a1 s = some (z0, s0)) : Ct M_M_number g_S [.ref 49, gi a1] (J s) (QE g_S J z0 s0) := by
  refine Ct_of [some (.ref 49), some (gi a1)] (plainFor_of_name (by decide)) rfl (Nat.le_of_ble_eq_true rfl) rfl (by decide) q_rE ?_
  unfold M_number at h
  refine G_aload_n (g_da dt_M_number 0 rfl) rfl rfl ?_
  refine G_getR (g_da dt_M_number 1 rfl) sh_49 fl_15_16 rfl ?_
  refine G_aload_n (g_da dt_M_number 2 rfl) rfl rfl ?_
  refine H_getI (g_da dt_M_number 3 rfl) sh_49 fl_15_145 rfl (hJm 49 rfl) ?_
  refine G_iconst (g_da dt_M_number 4 rfl) ?_
  refine G_isub (g_da dt_M_number 5 rfl) ?_
  refine G_iload_n (g_da dt_M_number 6 rfl) rfl rfl ?_
  refine G_isub (g_da dt_M_number 7 rfl) ?_
  obtain ⟨hb1, h⟩ := o_g h
  refine H_iaload (g_da dt_M_number 8 rfl) sh_52 (hJm 52 rfl) rfl hb1 rfl ?_
  exact G_ireturn (g_da dt_M_number 9 rfl) rfl rfl rfl (g_nz rfl) (q_e h)
set_option maxHeartbeats 4000000 in
set_option maxRecDepth 100000 in
theorem M_draw_154_ok {J : gS → gS} (hJm : g_jm J) {z0 : Int} {s0 : gS}  {l2 : Int} {s : gS} (h : M_draw_154 l2 s = some (z0, s0)) : G M_M_draw (QG g_S J z0 s0) (g_S, 0, 0) (J s) 154 [some (.ref 49), none, some (gi l2), none, none, none] [] := by
  unfold M_draw_154 at h
  refine G_aload_n (g_da dt_M_draw 84 rfl) rfl rfl ?_
  refine G_dup (g_da dt_M_draw 85 rfl) rfl ?_
  refine H_getI (g_da dt_M_draw 86 rfl) sh_49 fl_15_145 rfl (hJm 49 rfl) ?_
  refine G_iload_n (g_da dt_M_draw 87 rfl) rfl rfl ?_
  refine G_isub (g_da dt_M_draw 88 rfl) ?_
  refine H_putI (g_da dt_M_draw 89 rfl) sh_49 fp_15_145 rfl (hJm 49 rfl) (fun s22 e23 => ?_)
  have h := o_l h s22 e23
  exact G_return (g_da dt_M_draw 90 rfl) rfl rfl (g_nz rfl) (q_g h)
set_option maxHeartbeats 4000000 in
set_option maxRecDepth 100000 in
theorem M_draw_151_ok {J : gS → gS} (hJm : g_jm J) {z0 : Int} {s0 : gS}  {l2 t1 t2 t3 : Int} {s : gS} (h : M_draw_151 l2 t1 t2 t3 s = some (z0, s0)) : G M_M_draw (QG g_S J z0 s0) (g_S, 0, 0) (J s) 151 [some (.ref 49), none, some (gi l2), none, none, none] [gi t3, gi t2, gi t1, .ref 49] := by
  unfold M_draw_151 at h
  obtain ⟨r19, s20, hc21, h⟩ := o_b h
  refine H_cVG (M_place_ok hJm hc21) (g_da dt_M_draw 83 rfl) lk_15_281 mv_M_place rfl sh_49 rfl rfl rfl rfl rfl rfl ?_
  exact G_subK (M_draw_154_ok hJm h) ⟨rfl, ⟨rfl, trivial⟩⟩
set_option maxHeartbeats 4000000 in
set_option maxRecDepth 100000 in
theorem M_draw_51_ok {J : gS → gS} (hJm : g_jm J) {z0 : Int} {s0 : gS} {k51 : Int → Int → Int → Int → gS → gA} {k116 : Int → gS → gA} (hk51 : ∀ (l2 l3 l4 l5 : Int) (s : gS), k51 l2 l3 l4 l5 s = some (z0, s0) → G M_M_draw (QG g_S J z0 s0) (g_S, 0, 0) (J s) 51 [some (.ref 49), none, some (gi l2), some (gi l3), some (gi l4), some (gi l5)] []) (hk116 : ∀ (l2 : Int) (s : gS), k116 l2 s = some (z0, s0) → G M_M_draw (QG g_S J z0 s0) (g_S, 0, 0) (J s) 116 [some (.ref 49), none, some (gi l2), none, none, none] [])  {l2 l3 l4 l5 : Int} {s : gS} (h : M_draw_51 k51 k116 l2 l3 l4 l5 s = some (z0, s0)) : G M_M_draw (QG g_S J z0 s0) (g_S, 0, 0) (J s) 51 [some (.ref 49), none, some (gi l2), some (gi l3), some (gi l4), some (gi l5)] [] := by
  unfold M_draw_51 at h
  refine G_iload (g_da dt_M_draw 27 rfl) rfl ?_
  refine G_bipush (g_da dt_M_draw 28 rfl) b8w_9 ?_
  refine G_icmp_ge (g_da dt_M_draw 29 rfl) rfl rfl w_9 (fun hc28 => ?_) (fun hc28 => ?_)
  · have h := o_t hc28 h
    exact G_subK (hk116 _ _ h) ⟨rfl, ⟨rfl, trivial⟩⟩
  · have h := o_f hc28 h
    refine G_aload_n (g_da dt_M_draw 30 rfl) rfl rfl ?_
    refine G_aload_n (g_da dt_M_draw 31 rfl) rfl rfl ?_
    refine G_iload (g_da dt_M_draw 32 rfl) rfl ?_
    refine G_iload_n (g_da dt_M_draw 33 rfl) rfl rfl ?_
    refine G_aload_n (g_da dt_M_draw 34 rfl) rfl rfl ?_
    refine G_iconst (g_da dt_M_draw 35 rfl) ?_
    obtain ⟨r29, s30, hc31, h⟩ := o_b h
    refine H_cVE (M_number_ok hJm hc31) (g_da dt_M_draw 36 rfl) lk_15_185 mv_M_number rfl sh_49 rfl rfl rfl rfl rfl rfl ?_
    refine G_aload_n (g_da dt_M_draw 37 rfl) rfl rfl ?_
    refine G_iconst (g_da dt_M_draw 38 rfl) ?_
    obtain ⟨r32, s33, hc34, h⟩ := o_b h
    refine H_cVE (M_number_ok hJm hc34) (g_da dt_M_draw 39 rfl) lk_15_185 mv_M_number rfl sh_49 rfl rfl rfl rfl rfl rfl ?_
    refine G_aload_n (g_da dt_M_draw 40 rfl) rfl rfl ?_
    refine G_iconst (g_da dt_M_draw 41 rfl) ?_
    obtain ⟨r35, s36, hc37, h⟩ := o_b h
    refine H_cVE (M_number_ok hJm hc37) (g_da dt_M_draw 42 rfl) lk_15_185 mv_M_number rfl sh_49 rfl rfl rfl rfl rfl rfl ?_
    refine G_iconst (g_da dt_M_draw 43 rfl) ?_
    obtain ⟨r38, s39, hc40, h⟩ := o_b h
    refine H_cVE (M_along_ok hJm hc40) (g_da dt_M_draw 44 rfl) lk_15_285 mv_M_along rfl sh_49 rfl rfl rfl rfl rfl rfl ?_
    refine G_aload_n (g_da dt_M_draw 45 rfl) rfl rfl ?_
    refine G_iload (g_da dt_M_draw 46 rfl) rfl ?_
    refine G_iload (g_da dt_M_draw 47 rfl) rfl ?_
    refine G_aload_n (g_da dt_M_draw 48 rfl) rfl rfl ?_
    refine G_iconst (g_da dt_M_draw 49 rfl) ?_
    obtain ⟨r41, s42, hc43, h⟩ := o_b h
    refine H_cVE (M_number_ok hJm hc43) (g_da dt_M_draw 50 rfl) lk_15_185 mv_M_number rfl sh_49 rfl rfl rfl rfl rfl rfl ?_
    refine G_aload_n (g_da dt_M_draw 51 rfl) rfl rfl ?_
    refine G_iconst (g_da dt_M_draw 52 rfl) ?_
    obtain ⟨r44, s45, hc46, h⟩ := o_b h
    refine H_cVE (M_number_ok hJm hc46) (g_da dt_M_draw 53 rfl) lk_15_185 mv_M_number rfl sh_49 rfl rfl rfl rfl rfl rfl ?_
    refine G_aload_n (g_da dt_M_draw 54 rfl) rfl rfl ?_
    refine G_iconst (g_da dt_M_draw 55 rfl) ?_
    obtain ⟨r47, s48, hc49, h⟩ := o_b h
    refine H_cVE (M_number_ok hJm hc49) (g_da dt_M_draw 56 rfl) lk_15_185 mv_M_number rfl sh_49 rfl rfl rfl rfl rfl rfl ?_
    refine G_iconst (g_da dt_M_draw 57 rfl) ?_
    obtain ⟨r50, s51, hc52, h⟩ := o_b h
    refine H_cVE (M_along_ok hJm hc52) (g_da dt_M_draw 58 rfl) lk_15_285 mv_M_along rfl sh_49 rfl rfl rfl rfl rfl rfl ?_
    refine G_iconst (g_da dt_M_draw 59 rfl) ?_
    obtain ⟨r53, s54, hc55, h⟩ := o_b h
    refine H_cVG (M_place_ok hJm hc55) (g_da dt_M_draw 60 rfl) lk_15_281 mv_M_place rfl sh_49 rfl rfl rfl rfl rfl rfl ?_
    refine G_iinc (lv' := [_, none, _, _, _, _]) (g_da dt_M_draw 61 rfl) rfl (Nat.le_of_ble_eq_true rfl) rfl rfl ?_
    refine G_goto (g_da dt_M_draw 62 rfl) rfl ?_
    exact G_subK (hk51 _ _ _ _ _ h) ⟨rfl, ⟨rfl, ⟨rfl, ⟨rfl, ⟨rfl, trivial⟩⟩⟩⟩⟩
set_option maxHeartbeats 4000000 in
set_option maxRecDepth 100000 in
theorem M_draw_51L_ok {J : gS → gS} (hJm : g_jm J) {z0 : Int} {s0 : gS} {k116 : Int → gS → gA} (hk116 : ∀ (l2 : Int) (s : gS), k116 l2 s = some (z0, s0) → G M_M_draw (QG g_S J z0 s0) (g_S, 0, 0) (J s) 116 [some (.ref 49), none, some (gi l2), none, none, none] []) : ∀ (n : Nat) {l2 l3 l4 l5 : Int} {s : gS}, M_draw_51L k116 n l2 l3 l4 l5 s = some (z0, s0) → G M_M_draw (QG g_S J z0 s0) (g_S, 0, 0) (J s) 51 [some (.ref 49), none, some (gi l2), some (gi l3), some (gi l4), some (gi l5)] [] := by
  intro n
  induction n with
  | zero => intro _ _ _ _ _ h; cases h
  | succ n ih => intro _ _ _ _ _ h; exact M_draw_51_ok hJm (fun _ _ _ _ _ h => ih h) hk116 h
set_option maxHeartbeats 4000000 in
set_option maxRecDepth 100000 in
theorem M_draw_116_ok {J : gS → gS} (hJm : g_jm J) {z0 : Int} {s0 : gS}  {l2 : Int} {s : gS} (h : M_draw_116 l2 s = some (z0, s0)) : G M_M_draw (QG g_S J z0 s0) (g_S, 0, 0) (J s) 116 [some (.ref 49), none, some (gi l2), none, none, none] [] := by
  unfold M_draw_116 at h
  refine G_goto (g_da dt_M_draw 63 rfl) rfl ?_
  exact G_subK (M_draw_154_ok hJm h) ⟨rfl, ⟨rfl, trivial⟩⟩
set_option maxHeartbeats 4000000 in
set_option maxRecDepth 100000 in
theorem M_draw_31_ok {J : gS → gS} (hJm : g_jm J) {z0 : Int} {s0 : gS}  {l1 l2 : Int} {s : gS} (h : M_draw_31 l1 l2 s = some (z0, s0)) : G M_M_draw (QG g_S J z0 s0) (g_S, 0, 0) (J s) 31 [some (.ref 49), some (gi l1), some (gi l2), none, none, none] [] := by
  unfold M_draw_31 at h
  refine G_iload_n (g_da dt_M_draw 16 rfl) rfl rfl ?_
  refine G_bipush (g_da dt_M_draw 17 rfl) b8w_67 ?_
  refine G_icmp_ne (g_da dt_M_draw 18 rfl) rfl rfl w_67 (fun hc5 => ?_) (fun hc5 => ?_)
  · have h := o_f hc5 h
    refine G_aload_n (g_da dt_M_draw 64 rfl) rfl rfl ?_
    refine G_aload_n (g_da dt_M_draw 65 rfl) rfl rfl ?_
    refine G_aload_n (g_da dt_M_draw 66 rfl) rfl rfl ?_
    refine G_iconst (g_da dt_M_draw 67 rfl) ?_
    obtain ⟨r6, s7, hc8, h⟩ := o_b h
    refine H_cVE (M_number_ok hJm hc8) (g_da dt_M_draw 68 rfl) lk_15_185 mv_M_number rfl sh_49 rfl rfl rfl rfl rfl rfl ?_
    obtain ⟨r9, s10, hc11, h⟩ := o_b h
    refine H_cVF (M_xOf_ok hJm hc11) (g_da dt_M_draw 69 rfl) lk_15_188 mv_M_xOf rfl sh_49 rfl rfl rfl rfl rfl rfl ?_
    refine G_l2i (g_da dt_M_draw 70 rfl) ?_
    refine G_aload_n (g_da dt_M_draw 71 rfl) rfl rfl ?_
    refine G_aload_n (g_da dt_M_draw 72 rfl) rfl rfl ?_
    refine G_iconst (g_da dt_M_draw 73 rfl) ?_
    obtain ⟨r12, s13, hc14, h⟩ := o_b h
    refine H_cVE (M_number_ok hJm hc14) (g_da dt_M_draw 74 rfl) lk_15_185 mv_M_number rfl sh_49 rfl rfl rfl rfl rfl rfl ?_
    obtain ⟨r15, s16, hc17, h⟩ := o_b h
    refine H_cVF (M_yOf_ok hJm hc17) (g_da dt_M_draw 75 rfl) lk_15_197 mv_M_yOf rfl sh_49 rfl rfl rfl rfl rfl rfl ?_
    refine G_l2i (g_da dt_M_draw 76 rfl) ?_
    refine G_iload_n (g_da dt_M_draw 77 rfl) rfl rfl ?_
    refine G_bipush (g_da dt_M_draw 78 rfl) b8w_77 ?_
    refine G_icmp_ne (g_da dt_M_draw 79 rfl) rfl rfl w_77 (fun hc18 => ?_) (fun hc18 => ?_)
    · have h := o_f hc18 h
      refine G_iconst (g_da dt_M_draw 82 rfl) ?_
      exact G_subK (M_draw_151_ok hJm h) ⟨rfl, ⟨rfl, trivial⟩⟩
    · have h := o_t hc18 h
      refine G_iconst (g_da dt_M_draw 80 rfl) ?_
      refine G_goto (g_da dt_M_draw 81 rfl) rfl ?_
      exact G_subK (M_draw_151_ok hJm h) ⟨rfl, ⟨rfl, trivial⟩⟩
  · have h := o_t hc5 h
    refine G_aload_n (g_da dt_M_draw 19 rfl) rfl rfl ?_
    refine H_getI (g_da dt_M_draw 20 rfl) sh_49 fl_15_262 rfl (hJm 49 rfl) ?_
    refine H_topi (fun v24 e25 => ?_)
    have h := o_l h v24 e25
    refine G_istore_n (lv' := [_, _, _, _, none, none]) (g_da dt_M_draw 21 rfl) rfl (Nat.le_of_ble_eq_true rfl) rfl rfl ?_
    refine G_aload_n (g_da dt_M_draw 22 rfl) rfl rfl ?_
    refine H_getI (g_da dt_M_draw 23 rfl) sh_49 fl_15_268 rfl (hJm 49 rfl) ?_
    refine H_topi (fun v26 e27 => ?_)
    have h := o_l h v26 e27
    refine G_istore (lv' := [_, _, _, _, _, none]) (g_da dt_M_draw 24 rfl) (Nat.le_of_ble_eq_true rfl) rfl rfl ?_
    refine G_iconst (g_da dt_M_draw 25 rfl) ?_
    refine G_istore (lv' := [_, _, _, _, _, _]) (g_da dt_M_draw 26 rfl) (Nat.le_of_ble_eq_true rfl) rfl rfl ?_
    exact G_subK (M_draw_51L_ok hJm (fun _ _ h => M_draw_116_ok hJm h) gFu h) ⟨rfl, ⟨rfl, ⟨rfl, ⟨rfl, ⟨rfl, trivial⟩⟩⟩⟩⟩
set_option maxHeartbeats 4000000 in
set_option maxRecDepth 100000 in
theorem M_draw_ok {J : gS → gS} (hJm : g_jm J) {z0 : Int} {s0 : gS} {a1 : Int} {s : gS} (h : M_draw a1 s = some (z0, s0)) : Ct M_M_draw g_S [.ref 49, gi a1] (J s) (QG g_S J z0 s0) := by
  refine Ct_of [some (.ref 49), some (gi a1), none, none, none, none] (plainFor_of_name (by decide)) rfl (Nat.le_of_ble_eq_true rfl) rfl (by decide) q_rG ?_
  unfold M_draw at h
  refine G_iload_n (g_da dt_M_draw 0 rfl) rfl rfl ?_
  obtain ⟨r1, s2, hc3, h⟩ := o_b h
  refine H_cSE (M_needs_ok hc3) (g_da dt_M_draw 1 rfl) lk_15_103 ms_M_needs rfl rfl rfl rfl rfl rfl ?_
  refine G_istore_n (lv' := [_, _, _, none, none, none]) (g_da dt_M_draw 2 rfl) rfl (Nat.le_of_ble_eq_true rfl) rfl rfl ?_
  refine G_iload_n (g_da dt_M_draw 3 rfl) rfl rfl ?_
  refine G_bipush (g_da dt_M_draw 4 rfl) b8w_77 ?_
  refine G_icmp_eq (g_da dt_M_draw 5 rfl) rfl rfl w_77 (fun hc4 => ?_) (fun hc4 => ?_)
  · have h := o_t hc4 h
    exact G_subK (M_draw_31_ok hJm h) ⟨rfl, ⟨rfl, ⟨rfl, trivial⟩⟩⟩
  · have h := o_f hc4 h
    refine G_aload_n (g_da dt_M_draw 6 rfl) rfl rfl ?_
    refine H_getI (g_da dt_M_draw 7 rfl) sh_49 fl_15_203 rfl (hJm 49 rfl) ?_
    refine G_if_eq (g_da dt_M_draw 8 rfl) rfl rfl  (fun hc56 => ?_) (fun hc56 => ?_)
    · have h := o_t hc56 h
      exact G_subK (M_draw_31_ok hJm h) ⟨rfl, ⟨rfl, ⟨rfl, trivial⟩⟩⟩
    · have h := o_f hc56 h
      refine G_aload_n (g_da dt_M_draw 9 rfl) rfl rfl ?_
      refine G_aload_n (g_da dt_M_draw 10 rfl) rfl rfl ?_
      refine H_getI (g_da dt_M_draw 11 rfl) sh_49 fl_15_262 rfl (hJm 49 rfl) ?_
      refine G_aload_n (g_da dt_M_draw 12 rfl) rfl rfl ?_
      refine H_getI (g_da dt_M_draw 13 rfl) sh_49 fl_15_268 rfl (hJm 49 rfl) ?_
      refine G_iconst (g_da dt_M_draw 14 rfl) ?_
      obtain ⟨r57, s58, hc59, h⟩ := o_b h
      refine H_cVG (M_place_ok hJm hc59) (g_da dt_M_draw 15 rfl) lk_15_281 mv_M_place rfl sh_49 rfl rfl rfl rfl rfl rfl ?_
      exact G_subK (M_draw_31_ok hJm h) ⟨rfl, ⟨rfl, ⟨rfl, trivial⟩⟩⟩
set_option maxHeartbeats 4000000 in
set_option maxRecDepth 100000 in
theorem M_empty_ok {J : gS → gS} (hJm : g_jm J) {z0 : Int} {s0 : gS} {a1 : Int} {s : gS} (h : M_empty a1 s = some (z0, s0)) : Ct M_M_empty g_S [.ref 49, gi a1] (J s) (QG g_S J z0 s0) := by
  refine Ct_of [some (.ref 49), some (gi a1)] (plainFor_of_name (by decide)) rfl (Nat.le_of_ble_eq_true rfl) rfl (by decide) q_rG ?_
  unfold M_empty at h
  refine G_aload_n (g_da dt_M_empty 0 rfl) rfl rfl ?_
  refine G_getR (g_da dt_M_empty 1 rfl) sh_49 fl_15_62 rfl ?_
  refine G_iload_n (g_da dt_M_empty 2 rfl) rfl rfl ?_
  refine G_iconst (g_da dt_M_empty 3 rfl) ?_
  obtain ⟨hb1, h⟩ := o_g h
  refine H_iastore (g_da dt_M_empty 4 rfl) sh_67 (hJm 67 rfl) rfl hb1 rfl (fun s2 e3 => ?_)
  have h := o_l h s2 e3
  refine G_aload_n (g_da dt_M_empty 5 rfl) rfl rfl ?_
  refine G_getR (g_da dt_M_empty 6 rfl) sh_49 fl_15_65 rfl ?_
  refine G_iload_n (g_da dt_M_empty 7 rfl) rfl rfl ?_
  refine G_iconst (g_da dt_M_empty 8 rfl) ?_
  obtain ⟨hb4, h⟩ := o_g h
  refine H_iastore (g_da dt_M_empty 9 rfl) sh_68 (hJm 68 rfl) rfl hb4 rfl (fun s5 e6 => ?_)
  have h := o_l h s5 e6
  refine G_aload_n (g_da dt_M_empty 10 rfl) rfl rfl ?_
  refine G_getR (g_da dt_M_empty 11 rfl) sh_49 fl_15_68 rfl ?_
  refine G_iload_n (g_da dt_M_empty 12 rfl) rfl rfl ?_
  refine G_iconst (g_da dt_M_empty 13 rfl) ?_
  obtain ⟨hb7, h⟩ := o_g h
  refine H_iastore (g_da dt_M_empty 14 rfl) sh_69 (hJm 69 rfl) rfl hb7 rfl (fun s8 e9 => ?_)
  have h := o_l h s8 e9
  exact G_return (g_da dt_M_empty 15 rfl) rfl rfl (g_nz rfl) (q_g h)
set_option maxHeartbeats 4000000 in
set_option maxRecDepth 100000 in
theorem M_endJob_56_ok {J : gS → gS} (hJm : g_jm J) {z0 : Int} {s0 : gS} {k56 : Int → gS → gA} (hk56 : ∀ (l3 : Int) (s : gS), k56 l3 s = some (z0, s0) → G M_M_endJob (QG g_S J z0 s0) (g_S, 0, 0) (J s) 56 [some (.ref 49), none, none, some (gi l3)] [])  {l3 : Int} {s : gS} (h : M_endJob_56 k56 l3 s = some (z0, s0)) : G M_M_endJob (QG g_S J z0 s0) (g_S, 0, 0) (J s) 56 [some (.ref 49), none, none, some (gi l3)] [] := by
  unfold M_endJob_56 at h
  refine G_iload_n (g_da dt_M_endJob 32 rfl) rfl rfl ?_
  refine G_bipush (g_da dt_M_endJob 33 rfl) b8w_40 ?_
  refine G_icmp_ge (g_da dt_M_endJob 34 rfl) rfl rfl w_40 (fun hc11 => ?_) (fun hc11 => ?_)
  · have h := o_t hc11 h
    exact G_return (g_da dt_M_endJob 42 rfl) rfl rfl (g_nz rfl) (q_g h)
  · have h := o_f hc11 h
    refine G_aload_n (g_da dt_M_endJob 35 rfl) rfl rfl ?_
    refine G_getR (g_da dt_M_endJob 36 rfl) sh_49 fl_15_80 rfl ?_
    refine G_iload_n (g_da dt_M_endJob 37 rfl) rfl rfl ?_
    refine G_iconst (g_da dt_M_endJob 38 rfl) ?_
    obtain ⟨hb12, h⟩ := o_g h
    refine H_zastore (g_da dt_M_endJob 39 rfl) sh_73 (hJm 73 rfl) rfl hb12 rfl (fun s13 e14 => ?_)
    have h := o_l h s13 e14
    refine G_iinc (lv' := [_, none, none, _]) (g_da dt_M_endJob 40 rfl) rfl (Nat.le_of_ble_eq_true rfl) rfl rfl ?_
    refine G_goto (g_da dt_M_endJob 41 rfl) rfl ?_
    exact G_subK (hk56 _ _ h) ⟨rfl, ⟨rfl, trivial⟩⟩
set_option maxHeartbeats 4000000 in
set_option maxRecDepth 100000 in
theorem M_endJob_56L_ok {J : gS → gS} (hJm : g_jm J) {z0 : Int} {s0 : gS} : ∀ (n : Nat) {l3 : Int} {s : gS}, M_endJob_56L n l3 s = some (z0, s0) → G M_M_endJob (QG g_S J z0 s0) (g_S, 0, 0) (J s) 56 [some (.ref 49), none, none, some (gi l3)] [] := by
  intro n
  induction n with
  | zero => intro _ _ h; cases h
  | succ n ih => intro _ _ h; exact M_endJob_56_ok hJm (fun _ _ h => ih h) h
set_option maxHeartbeats 4000000 in
set_option maxRecDepth 100000 in
theorem M_endJob_50_ok {J : gS → gS} (hJm : g_jm J) {z0 : Int} {s0 : gS}  {t1 t2 : Int} {s : gS} (h : M_endJob_50 t1 t2 s = some (z0, s0)) : G M_M_endJob (QG g_S J z0 s0) (g_S, 0, 0) (J s) 50 [some (.ref 49), none, none, none] [gi t2, gi t1, .ref 49] := by
  unfold M_endJob_50 at h
  refine G_imul (g_da dt_M_endJob 28 rfl) ?_
  refine H_putI (g_da dt_M_endJob 29 rfl) sh_49 fp_15_113 rfl (hJm 49 rfl) (fun s9 e10 => ?_)
  have h := o_l h s9 e10
  refine G_iconst (g_da dt_M_endJob 30 rfl) ?_
  refine G_istore_n (lv' := [_, none, none, _]) (g_da dt_M_endJob 31 rfl) rfl (Nat.le_of_ble_eq_true rfl) rfl rfl ?_
  exact G_subK (M_endJob_56L_ok hJm gFu h) ⟨rfl, ⟨rfl, trivial⟩⟩
set_option maxHeartbeats 4000000 in
set_option maxRecDepth 100000 in
theorem M_endJob_20_ok {J : gS → gS} (hJm : g_jm J) {z0 : Int} {s0 : gS}  {t1 : Int} {s : gS} (h : M_endJob_20 t1 s = some (z0, s0)) : G M_M_endJob (QG g_S J z0 s0) (g_S, 0, 0) (J s) 20 [some (.ref 49), none, none, none] [gi t1, .ref 49] := by
  unfold M_endJob_20 at h
  refine H_putI (g_da dt_M_endJob 12 rfl) sh_49 fp_15_136 rfl (hJm 49 rfl) (fun s6 e7 => ?_)
  have h := o_l h s6 e7
  refine G_aload_n (g_da dt_M_endJob 13 rfl) rfl rfl ?_
  refine G_aload_n (g_da dt_M_endJob 14 rfl) rfl rfl ?_
  refine H_getI (g_da dt_M_endJob 15 rfl) sh_49 fl_15_123 rfl (hJm 49 rfl) ?_
  refine G_aload_n (g_da dt_M_endJob 16 rfl) rfl rfl ?_
  refine H_getI (g_da dt_M_endJob 17 rfl) sh_49 fl_15_126 rfl (hJm 49 rfl) ?_
  refine G_if_eq (g_da dt_M_endJob 18 rfl) rfl rfl  (fun hc8 => ?_) (fun hc8 => ?_)
  · have h := o_t hc8 h
    refine G_aload_n (g_da dt_M_endJob 26 rfl) rfl rfl ?_
    refine H_getI (g_da dt_M_endJob 27 rfl) sh_49 fl_15_139 rfl (hJm 49 rfl) ?_
    exact G_subK (M_endJob_50_ok hJm h) ⟨rfl, trivial⟩
  · have h := o_f hc8 h
    refine G_aload_n (g_da dt_M_endJob 19 rfl) rfl rfl ?_
    refine H_getI (g_da dt_M_endJob 20 rfl) sh_49 fl_15_139 rfl (hJm 49 rfl) ?_
    refine G_iconst (g_da dt_M_endJob 21 rfl) ?_
    refine G_iadd (g_da dt_M_endJob 22 rfl) ?_
    refine G_iconst (g_da dt_M_endJob 23 rfl) ?_
    refine G_idiv (g_da dt_M_endJob 24 rfl) (by rw [w_2]; decide) ?_
    refine G_goto (g_da dt_M_endJob 25 rfl) rfl ?_
    exact G_subK (M_endJob_50_ok hJm h) ⟨rfl, trivial⟩
set_option maxHeartbeats 4000000 in
set_option maxRecDepth 100000 in
theorem M_endJob_ok {J : gS → gS} (hJm : g_jm J) {z0 : Int} {s0 : gS} {a1 a2 : Int} {s : gS} (h : M_endJob a1 a2 s = some (z0, s0)) : Ct M_M_endJob g_S [.ref 49, gi a1, gi a2] (J s) (QG g_S J z0 s0) := by
  refine Ct_of [some (.ref 49), some (gi a1), some (gi a2), none] (plainFor_of_name (by decide)) rfl (Nat.le_of_ble_eq_true rfl) rfl (by decide) q_rG ?_
  unfold M_endJob at h
  refine G_aload_n (g_da dt_M_endJob 0 rfl) rfl rfl ?_
  refine G_iconst (g_da dt_M_endJob 1 rfl) ?_
  refine H_putI (g_da dt_M_endJob 2 rfl) sh_49 fp_15_107 rfl (hJm 49 rfl) (fun s1 e2 => ?_)
  have h := o_l h s1 e2
  refine G_aload_n (g_da dt_M_endJob 3 rfl) rfl rfl ?_
  refine G_iload_n (g_da dt_M_endJob 4 rfl) rfl rfl ?_
  refine H_putI (g_da dt_M_endJob 5 rfl) sh_49 fp_15_133 rfl (hJm 49 rfl) (fun s3 e4 => ?_)
  have h := o_l h s3 e4
  refine G_aload_n (g_da dt_M_endJob 6 rfl) rfl rfl ?_
  refine G_iload_n (g_da dt_M_endJob 7 rfl) rfl rfl ?_
  refine G_if_ne (g_da dt_M_endJob 8 rfl) rfl rfl  (fun hc5 => ?_) (fun hc5 => ?_)
  · have h := o_f hc5 h
    refine G_iload_n (g_da dt_M_endJob 11 rfl) rfl rfl ?_
    exact G_subK (M_endJob_20_ok hJm h) ⟨rfl, trivial⟩
  · have h := o_t hc5 h
    refine G_iconst (g_da dt_M_endJob 9 rfl) ?_
    refine G_goto (g_da dt_M_endJob 10 rfl) rfl ?_
    exact G_subK (M_endJob_20_ok hJm h) ⟨rfl, trivial⟩
set_option maxHeartbeats 4000000 in
set_option maxRecDepth 100000 in
theorem M_enter_ok {J : gS → gS} (hJm : g_jm J) {z0 : Int} {s0 : gS} {a1 a2 a3 : Int} {s : gS} (h : M_enter a1 a2 a3 s = some (z0, s0)) : Ct M_M_enter g_S [.ref 49, gi a1, gi a2, gi a3] (J s) (QG g_S J z0 s0) := by
  refine Ct_of [some (.ref 49), some (gi a1), some (gi a2), some (gi a3)] (plainFor_of_name (by decide)) rfl (Nat.le_of_ble_eq_true rfl) rfl (by decide) q_rG ?_
  unfold M_enter at h
  refine G_aload_n (g_da dt_M_enter 0 rfl) rfl rfl ?_
  refine G_getR (g_da dt_M_enter 1 rfl) sh_49 fl_15_26 rfl ?_
  refine G_aload_n (g_da dt_M_enter 2 rfl) rfl rfl ?_
  refine H_getI (g_da dt_M_enter 3 rfl) sh_49 fl_15_157 rfl (hJm 49 rfl) ?_
  refine G_iload_n (g_da dt_M_enter 4 rfl) rfl rfl ?_
  obtain ⟨hb1, h⟩ := o_g h
  refine H_iastore (g_da dt_M_enter 5 rfl) sh_55 (hJm 55 rfl) rfl hb1 rfl (fun s2 e3 => ?_)
  have h := o_l h s2 e3
  refine G_aload_n (g_da dt_M_enter 6 rfl) rfl rfl ?_
  refine G_getR (g_da dt_M_enter 7 rfl) sh_49 fl_15_32 rfl ?_
  refine G_aload_n (g_da dt_M_enter 8 rfl) rfl rfl ?_
  refine H_getI (g_da dt_M_enter 9 rfl) sh_49 fl_15_157 rfl (hJm 49 rfl) ?_
  refine G_iload_n (g_da dt_M_enter 10 rfl) rfl rfl ?_
  obtain ⟨hb4, h⟩ := o_g h
  refine H_iastore (g_da dt_M_enter 11 rfl) sh_57 (hJm 57 rfl) rfl hb4 rfl (fun s5 e6 => ?_)
  have h := o_l h s5 e6
  refine G_aload_n (g_da dt_M_enter 12 rfl) rfl rfl ?_
  refine G_getR (g_da dt_M_enter 13 rfl) sh_49 fl_15_29 rfl ?_
  refine G_aload_n (g_da dt_M_enter 14 rfl) rfl rfl ?_
  refine H_getI (g_da dt_M_enter 15 rfl) sh_49 fl_15_157 rfl (hJm 49 rfl) ?_
  refine G_iload_n (g_da dt_M_enter 16 rfl) rfl rfl ?_
  obtain ⟨hb7, h⟩ := o_g h
  refine H_iastore (g_da dt_M_enter 17 rfl) sh_56 (hJm 56 rfl) rfl hb7 rfl (fun s8 e9 => ?_)
  have h := o_l h s8 e9
  refine G_aload_n (g_da dt_M_enter 18 rfl) rfl rfl ?_
  refine G_getR (g_da dt_M_enter 19 rfl) sh_49 fl_15_35 rfl ?_
  refine G_aload_n (g_da dt_M_enter 20 rfl) rfl rfl ?_
  refine H_getI (g_da dt_M_enter 21 rfl) sh_49 fl_15_157 rfl (hJm 49 rfl) ?_
  refine G_iload_n (g_da dt_M_enter 22 rfl) rfl rfl ?_
  obtain ⟨hb10, h⟩ := o_g h
  refine H_iastore (g_da dt_M_enter 23 rfl) sh_58 (hJm 58 rfl) rfl hb10 rfl (fun s11 e12 => ?_)
  have h := o_l h s11 e12
  refine G_aload_n (g_da dt_M_enter 24 rfl) rfl rfl ?_
  refine G_dup (g_da dt_M_enter 25 rfl) rfl ?_
  refine H_getI (g_da dt_M_enter 26 rfl) sh_49 fl_15_157 rfl (hJm 49 rfl) ?_
  refine G_iconst (g_da dt_M_enter 27 rfl) ?_
  refine G_iadd (g_da dt_M_enter 28 rfl) ?_
  refine H_putI (g_da dt_M_enter 29 rfl) sh_49 fp_15_157 rfl (hJm 49 rfl) (fun s13 e14 => ?_)
  have h := o_l h s13 e14
  exact G_return (g_da dt_M_enter 30 rfl) rfl rfl (g_nz rfl) (q_g h)
set_option maxHeartbeats 4000000 in
set_option maxRecDepth 100000 in
theorem M_isKind_61_ok {J : gS → gS} (hJm : g_jm J) {z0 : Int} {s0 : gS} {k22 : Int → Int → Int → gS → gA} (hk22 : ∀ (l1 l2 l3 : Int) (s : gS), k22 l1 l2 l3 s = some (z0, s0) → G M_M_isKind (QE g_S J z0 s0) (g_S, 0, 0) (J s) 22 [some (.ref 49), some (gi l1), some (gi l2), some (gi l3), none] [])  {l1 l2 l3 t0 : Int} {s : gS} (h : M_isKind_61 k22 l1 l2 l3 t0 s = some (z0, s0)) : G M_M_isKind (QE g_S J z0 s0) (g_S, 0, 0) (J s) 61 [some (.ref 49), some (gi l1), some (gi l2), some (gi l3), none] [gi t0] := by
  unfold M_isKind_61 at h
  refine G_istore (lv' := [_, _, _, _, _]) (g_da dt_M_isKind 34 rfl) (Nat.le_of_ble_eq_true rfl) rfl rfl ?_
  refine G_aload_n (g_da dt_M_isKind 35 rfl) rfl rfl ?_
  refine G_getR (g_da dt_M_isKind 36 rfl) sh_49 fl_15_22 rfl ?_
  refine G_aload_n (g_da dt_M_isKind 37 rfl) rfl rfl ?_
  refine H_getI (g_da dt_M_isKind 38 rfl) sh_49 fl_15_145 rfl (hJm 49 rfl) ?_
  refine G_iconst (g_da dt_M_isKind 39 rfl) ?_
  refine G_isub (g_da dt_M_isKind 40 rfl) ?_
  refine G_iload_n (g_da dt_M_isKind 41 rfl) rfl rfl ?_
  refine G_isub (g_da dt_M_isKind 42 rfl) ?_
  obtain ⟨hb7, h⟩ := o_g h
  refine H_zaload (g_da dt_M_isKind 43 rfl) sh_54 (hJm 54 rfl) rfl hb7 rfl ?_
  refine G_iload (g_da dt_M_isKind 44 rfl) rfl ?_
  refine G_icmp_eq (g_da dt_M_isKind 45 rfl) rfl rfl rfl (fun hc8 => ?_) (fun hc8 => ?_)
  · have h := o_t hc8 h
    refine G_iinc (lv' := [_, _, _, _, _]) (g_da dt_M_isKind 48 rfl) rfl (Nat.le_of_ble_eq_true rfl) rfl rfl ?_
    refine G_goto (g_da dt_M_isKind 49 rfl) rfl ?_
    exact G_subK (hk22 _ _ _ _ h) ⟨rfl, ⟨rfl, ⟨rfl, ⟨rfl, trivial⟩⟩⟩⟩
  · have h := o_f hc8 h
    refine G_iconst (g_da dt_M_isKind 46 rfl) ?_
    exact G_ireturn (g_da dt_M_isKind 47 rfl) rfl (g_bool (Or.inl w_0)).1 rfl (g_nz rfl) (q_e h)
set_option maxHeartbeats 4000000 in
set_option maxRecDepth 100000 in
theorem M_isKind_60_ok {J : gS → gS} (hJm : g_jm J) {z0 : Int} {s0 : gS} {k22 : Int → Int → Int → gS → gA} (hk22 : ∀ (l1 l2 l3 : Int) (s : gS), k22 l1 l2 l3 s = some (z0, s0) → G M_M_isKind (QE g_S J z0 s0) (g_S, 0, 0) (J s) 22 [some (.ref 49), some (gi l1), some (gi l2), some (gi l3), none] [])  {l1 l2 l3 : Int} {s : gS} (h : M_isKind_60 k22 l1 l2 l3 s = some (z0, s0)) : G M_M_isKind (QE g_S J z0 s0) (g_S, 0, 0) (J s) 60 [some (.ref 49), some (gi l1), some (gi l2), some (gi l3), none] [] := by
  unfold M_isKind_60 at h
  refine G_iconst (g_da dt_M_isKind 33 rfl) ?_
  exact G_subK (M_isKind_61_ok hJm hk22 h) ⟨rfl, ⟨rfl, ⟨rfl, ⟨rfl, trivial⟩⟩⟩⟩
set_option maxHeartbeats 4000000 in
set_option maxRecDepth 100000 in
theorem M_isKind_22_ok {J : gS → gS} (hJm : g_jm J) {z0 : Int} {s0 : gS} {k22 : Int → Int → Int → gS → gA} (hk22 : ∀ (l1 l2 l3 : Int) (s : gS), k22 l1 l2 l3 s = some (z0, s0) → G M_M_isKind (QE g_S J z0 s0) (g_S, 0, 0) (J s) 22 [some (.ref 49), some (gi l1), some (gi l2), some (gi l3), none] [])  {l1 l2 l3 : Int} {s : gS} (h : M_isKind_22 k22 l1 l2 l3 s = some (z0, s0)) : G M_M_isKind (QE g_S J z0 s0) (g_S, 0, 0) (J s) 22 [some (.ref 49), some (gi l1), some (gi l2), some (gi l3), none] [] := by
  unfold M_isKind_22 at h
  refine G_iload_n (g_da dt_M_isKind 13 rfl) rfl rfl ?_
  refine G_iload_n (g_da dt_M_isKind 14 rfl) rfl rfl ?_
  refine G_icmp_ge (g_da dt_M_isKind 15 rfl) rfl rfl rfl (fun hc4 => ?_) (fun hc4 => ?_)
  · have h := o_t hc4 h
    refine G_iconst (g_da dt_M_isKind 50 rfl) ?_
    exact G_ireturn (g_da dt_M_isKind 51 rfl) rfl (g_bool (Or.inr w_1)).1 rfl (g_nz rfl) (q_e h)
  · have h := o_f hc4 h
    refine G_iload_n (g_da dt_M_isKind 16 rfl) rfl rfl ?_
    refine G_bipush (g_da dt_M_isKind 17 rfl) b8w_63 ?_
    refine G_icmp_ne (g_da dt_M_isKind 18 rfl) rfl rfl w_63 (fun hc5 => ?_) (fun hc5 => ?_)
    · have h := o_f hc5 h
      refine G_iload_n (g_da dt_M_isKind 26 rfl) rfl rfl ?_
      refine G_bipush (g_da dt_M_isKind 27 rfl) b8w_82 ?_
      refine G_icmp_ne (g_da dt_M_isKind 28 rfl) rfl rfl w_82 (fun hc6 => ?_) (fun hc6 => ?_)
      · have h := o_f hc6 h
        exact G_subK (M_isKind_60_ok hJm hk22 h) ⟨rfl, ⟨rfl, ⟨rfl, ⟨rfl, trivial⟩⟩⟩⟩
      · have h := o_t hc6 h
        refine G_iload_n (g_da dt_M_isKind 29 rfl) rfl rfl ?_
        refine G_if_ne (g_da dt_M_isKind 30 rfl) rfl rfl  (fun hc9 => ?_) (fun hc9 => ?_)
        · have h := o_f hc9 h
          exact G_subK (M_isKind_60_ok hJm hk22 h) ⟨rfl, ⟨rfl, ⟨rfl, ⟨rfl, trivial⟩⟩⟩⟩
        · have h := o_t hc9 h
          refine G_iconst (g_da dt_M_isKind 31 rfl) ?_
          refine G_goto (g_da dt_M_isKind 32 rfl) rfl ?_
          exact G_subK (M_isKind_61_ok hJm hk22 h) ⟨rfl, ⟨rfl, ⟨rfl, ⟨rfl, trivial⟩⟩⟩⟩
    · have h := o_t hc5 h
      refine G_iload_n (g_da dt_M_isKind 19 rfl) rfl rfl ?_
      refine G_iconst (g_da dt_M_isKind 20 rfl) ?_
      refine G_icmp_ge (g_da dt_M_isKind 21 rfl) rfl rfl w_2 (fun hc10 => ?_) (fun hc10 => ?_)
      · have h := o_t hc10 h
        refine G_iconst (g_da dt_M_isKind 24 rfl) ?_
        refine G_goto (g_da dt_M_isKind 25 rfl) rfl ?_
        exact G_subK (M_isKind_61_ok hJm hk22 h) ⟨rfl, ⟨rfl, ⟨rfl, ⟨rfl, trivial⟩⟩⟩⟩
      · have h := o_f hc10 h
        refine G_iconst (g_da dt_M_isKind 22 rfl) ?_
        refine G_goto (g_da dt_M_isKind 23 rfl) rfl ?_
        exact G_subK (M_isKind_61_ok hJm hk22 h) ⟨rfl, ⟨rfl, ⟨rfl, ⟨rfl, trivial⟩⟩⟩⟩
set_option maxHeartbeats 4000000 in
set_option maxRecDepth 100000 in
theorem M_isKind_22L_ok {J : gS → gS} (hJm : g_jm J) {z0 : Int} {s0 : gS} : ∀ (n : Nat) {l1 l2 l3 : Int} {s : gS}, M_isKind_22L n l1 l2 l3 s = some (z0, s0) → G M_M_isKind (QE g_S J z0 s0) (g_S, 0, 0) (J s) 22 [some (.ref 49), some (gi l1), some (gi l2), some (gi l3), none] [] := by
  intro n
  induction n with
  | zero => intro _ _ _ _ h; cases h
  | succ n ih => intro _ _ _ _ h; exact M_isKind_22_ok hJm (fun _ _ _ _ h => ih h) h
set_option maxHeartbeats 4000000 in
set_option maxRecDepth 100000 in
theorem M_isKind_ok {J : gS → gS} (hJm : g_jm J) {z0 : Int} {s0 : gS} {a1 a2 : Int} {s : gS} (h : M_isKind a1 a2 s = some (z0, s0)) : Ct M_M_isKind g_S [.ref 49, gi a1, gi a2] (J s) (QE g_S J z0 s0) := by
  refine Ct_of [some (.ref 49), some (gi a1), some (gi a2), none, none] (plainFor_of_name (by decide)) rfl (Nat.le_of_ble_eq_true rfl) rfl (by decide) q_rE ?_
  unfold M_isKind at h
  refine G_iload_n (g_da dt_M_isKind 0 rfl) rfl rfl ?_
  refine G_bipush (g_da dt_M_isKind 1 rfl) b8w_68 ?_
  refine G_icmp_eq (g_da dt_M_isKind 2 rfl) rfl rfl w_68 (fun hc1 => ?_) (fun hc1 => ?_)
  · have h := o_t hc1 h
    refine G_iconst (g_da dt_M_isKind 9 rfl) ?_
    exact G_ireturn (g_da dt_M_isKind 10 rfl) rfl (g_bool (Or.inr w_1)).1 rfl (g_nz rfl) (q_e h)
  · have h := o_f hc1 h
    refine G_iload_n (g_da dt_M_isKind 3 rfl) rfl rfl ?_
    refine G_bipush (g_da dt_M_isKind 4 rfl) b8w_88 ?_
    refine G_icmp_eq (g_da dt_M_isKind 5 rfl) rfl rfl w_88 (fun hc2 => ?_) (fun hc2 => ?_)
    · have h := o_t hc2 h
      refine G_iconst (g_da dt_M_isKind 9 rfl) ?_
      exact G_ireturn (g_da dt_M_isKind 10 rfl) rfl (g_bool (Or.inr w_1)).1 rfl (g_nz rfl) (q_e h)
    · have h := o_f hc2 h
      refine G_iload_n (g_da dt_M_isKind 6 rfl) rfl rfl ?_
      refine G_bipush (g_da dt_M_isKind 7 rfl) b8w_79 ?_
      refine G_icmp_ne (g_da dt_M_isKind 8 rfl) rfl rfl w_79 (fun hc3 => ?_) (fun hc3 => ?_)
      · have h := o_f hc3 h
        refine G_iconst (g_da dt_M_isKind 11 rfl) ?_
        refine G_istore_n (lv' := [_, _, _, _, none]) (g_da dt_M_isKind 12 rfl) rfl (Nat.le_of_ble_eq_true rfl) rfl rfl ?_
        exact G_subK (M_isKind_22L_ok hJm gFu h) ⟨rfl, ⟨rfl, ⟨rfl, ⟨rfl, trivial⟩⟩⟩⟩
      · have h := o_t hc3 h
        refine G_iconst (g_da dt_M_isKind 9 rfl) ?_
        exact G_ireturn (g_da dt_M_isKind 10 rfl) rfl (g_bool (Or.inr w_1)).1 rfl (g_nz rfl) (q_e h)
set_option maxHeartbeats 4000000 in
set_option maxRecDepth 100000 in
theorem M_quotient_ok {J : gS → gS} (hJm : g_jm J) {z0 : Int} {s0 : gS} {s : gS} (h : M_quotient s = some (z0, s0)) : Ct M_M_quotient g_S [.ref 49] (J s) (QE g_S J z0 s0) := by
  refine Ct_of [some (.ref 49)] (plainFor_of_name (by decide)) rfl (Nat.le_of_ble_eq_true rfl) rfl (by decide) q_rE ?_
  unfold M_quotient at h
  refine G_aload_n (g_da dt_M_quotient 0 rfl) rfl rfl ?_
  refine G_iconst (g_da dt_M_quotient 1 rfl) ?_
  obtain ⟨r1, s2, hc3, h⟩ := o_b h
  refine H_cVE (M_number_ok hJm hc3) (g_da dt_M_quotient 2 rfl) lk_15_185 mv_M_number rfl sh_49 rfl rfl rfl rfl rfl rfl ?_
  refine G_if_ne (g_da dt_M_quotient 3 rfl) rfl rfl  (fun hc4 => ?_) (fun hc4 => ?_)
  · have h := o_f hc4 h
    refine G_aload_n (g_da dt_M_quotient 6 rfl) rfl rfl ?_
    refine G_iconst (g_da dt_M_quotient 7 rfl) ?_
    obtain ⟨r5, s6, hc7, h⟩ := o_b h
    refine H_cVE (M_number_ok hJm hc7) (g_da dt_M_quotient 8 rfl) lk_15_185 mv_M_number rfl sh_49 rfl rfl rfl rfl rfl rfl ?_
    refine G_aload_n (g_da dt_M_quotient 9 rfl) rfl rfl ?_
    refine G_iconst (g_da dt_M_quotient 10 rfl) ?_
    obtain ⟨r8, s9, hc10, h⟩ := o_b h
    refine H_cVE (M_number_ok hJm hc10) (g_da dt_M_quotient 11 rfl) lk_15_185 mv_M_number rfl sh_49 rfl rfl rfl rfl rfl rfl ?_
    obtain ⟨hz11, h⟩ := o_g h
    refine G_idiv (g_da dt_M_quotient 12 rfl) hz11 ?_
    exact G_ireturn (g_da dt_M_quotient 13 rfl) rfl rfl rfl (g_nz rfl) (q_e h)
  · have h := o_t hc4 h
    refine G_iconst (g_da dt_M_quotient 4 rfl) ?_
    refine G_goto (g_da dt_M_quotient 5 rfl) rfl ?_
    exact G_ireturn (g_da dt_M_quotient 13 rfl) rfl rfl rfl (g_nz rfl) (q_e h)
set_option maxHeartbeats 4000000 in
set_option maxRecDepth 100000 in
theorem M_result_ok {J : gS → gS} (hJm : g_jm J) {z0 : Int} {s0 : gS} {a1 : Int} {s : gS} (h : M_result a1 s = some (z0, s0)) : Ct M_M_result g_S [.ref 49, gi a1] (J s) (QF g_S J z0 s0) := by
  refine Ct_of [some (.ref 49), some (gi a1), none, none, none, none] (plainFor_of_name (by decide)) rfl (Nat.le_of_ble_eq_true rfl) rfl (by decide) q_rF ?_
  unfold M_result at h
  refine G_aload_n (g_da dt_M_result 0 rfl) rfl rfl ?_
  refine G_iconst (g_da dt_M_result 1 rfl) ?_
  obtain ⟨r1, s2, hc3, h⟩ := o_b h
  refine H_cVE (M_number_ok hJm hc3) (g_da dt_M_result 2 rfl) lk_15_185 mv_M_number rfl sh_49 rfl rfl rfl rfl rfl rfl ?_
  refine G_i2l (g_da dt_M_result 3 rfl) ?_
  refine H_topl (fun v4 e5 => ?_)
  have h := o_l h v4 e5
  refine G_lstore_n (lv' := [_, _, _, none, none, none]) (g_da dt_M_result 4 rfl) rfl (Nat.le_of_ble_eq_true rfl) rfl rfl ?_
  refine G_aload_n (g_da dt_M_result 5 rfl) rfl rfl ?_
  refine G_iconst (g_da dt_M_result 6 rfl) ?_
  obtain ⟨r6, s7, hc8, h⟩ := o_b h
  refine H_cVE (M_number_ok hJm hc8) (g_da dt_M_result 7 rfl) lk_15_185 mv_M_number rfl sh_49 rfl rfl rfl rfl rfl rfl ?_
  refine G_i2l (g_da dt_M_result 8 rfl) ?_
  refine H_topl (fun v9 e10 => ?_)
  have h := o_l h v9 e10
  refine G_lstore (lv' := [_, _, _, none, _, none]) (g_da dt_M_result 9 rfl) (Nat.le_of_ble_eq_true rfl) rfl rfl ?_
  refine G_iload_n (g_da dt_M_result 10 rfl) rfl rfl ?_
  refine G_bipush (g_da dt_M_result 11 rfl) b8w_43 ?_
  refine G_icmp_ne (g_da dt_M_result 12 rfl) rfl rfl w_43 (fun hc11 => ?_) (fun hc11 => ?_)
  · have h := o_f hc11 h
    refine G_iload_n (g_da dt_M_result 17 rfl) rfl rfl ?_
    refine G_bipush (g_da dt_M_result 18 rfl) b8w_45 ?_
    refine G_icmp_ne (g_da dt_M_result 19 rfl) rfl rfl w_45 (fun hc12 => ?_) (fun hc12 => ?_)
    · have h := o_f hc12 h
      refine G_iload_n (g_da dt_M_result 24 rfl) rfl rfl ?_
      refine G_bipush (g_da dt_M_result 25 rfl) b8w_42 ?_
      refine G_icmp_ne (g_da dt_M_result 26 rfl) rfl rfl w_42 (fun hc13 => ?_) (fun hc13 => ?_)
      · have h := o_f hc13 h
        refine G_iload_n (g_da dt_M_result 31 rfl) rfl rfl ?_
        refine G_bipush (g_da dt_M_result 32 rfl) b8w_47 ?_
        refine G_icmp_ne (g_da dt_M_result 33 rfl) rfl rfl w_47 (fun hc14 => ?_) (fun hc14 => ?_)
        · have h := o_f hc14 h
          refine G_lconst (z := 0) (g_da dt_M_result 38 rfl) rfl ?_
          exact G_lreturn (g_da dt_M_result 39 rfl) rfl rfl (g_nz rfl) (q_f h)
        · have h := o_t hc14 h
          refine G_aload_n (g_da dt_M_result 34 rfl) rfl rfl ?_
          obtain ⟨r15, s16, hc17, h⟩ := o_b h
          refine H_cVE (M_quotient_ok hJm hc17) (g_da dt_M_result 35 rfl) lk_15_200 mv_M_quotient rfl sh_49 rfl rfl rfl rfl rfl rfl ?_
          refine G_i2l (g_da dt_M_result 36 rfl) ?_
          refine G_goto (g_da dt_M_result 37 rfl) rfl ?_
          exact G_lreturn (g_da dt_M_result 39 rfl) rfl rfl (g_nz rfl) (q_f h)
      · have h := o_t hc13 h
        refine G_lload_n (g_da dt_M_result 27 rfl) rfl rfl ?_
        refine G_lload (g_da dt_M_result 28 rfl) rfl ?_
        refine G_lmul (g_da dt_M_result 29 rfl) ?_
        refine G_goto (g_da dt_M_result 30 rfl) rfl ?_
        exact G_lreturn (g_da dt_M_result 39 rfl) rfl rfl (g_nz rfl) (q_f h)
    · have h := o_t hc12 h
      refine G_lload_n (g_da dt_M_result 20 rfl) rfl rfl ?_
      refine G_lload (g_da dt_M_result 21 rfl) rfl ?_
      refine G_lsub (g_da dt_M_result 22 rfl) ?_
      refine G_goto (g_da dt_M_result 23 rfl) rfl ?_
      exact G_lreturn (g_da dt_M_result 39 rfl) rfl rfl (g_nz rfl) (q_f h)
  · have h := o_t hc11 h
    refine G_lload_n (g_da dt_M_result 13 rfl) rfl rfl ?_
    refine G_lload (g_da dt_M_result 14 rfl) rfl ?_
    refine G_ladd (g_da dt_M_result 15 rfl) ?_
    refine G_goto (g_da dt_M_result 16 rfl) rfl ?_
    exact G_lreturn (g_da dt_M_result 39 rfl) rfl rfl (g_nz rfl) (q_f h)
set_option maxHeartbeats 4000000 in
set_option maxRecDepth 100000 in
theorem M_isFar_ok {J : gS → gS} {z0 : Int} {s0 : gS} {a0 a2 : Int} {s : gS} (h : M_isFar a0 a2 s = some (z0, s0)) : Ct M_M_isFar g_S [gl a0, gi a2] (J s) (QE g_S J z0 s0) := by
  refine Ct_of [some (gl a0), none, some (gi a2)] (plainFor_of_name (by decide)) rfl (Nat.le_of_ble_eq_true rfl) rfl (by decide) q_rE ?_
  unfold M_isFar at h
  refine G_lload_n (g_da dt_M_isFar 0 rfl) rfl rfl ?_
  refine G_iload_n (g_da dt_M_isFar 1 rfl) rfl rfl ?_
  refine G_i2l (g_da dt_M_isFar 2 rfl) ?_
  refine G_lcmp (g_da dt_M_isFar 3 rfl) ?_
  refine G_if_gt (g_da dt_M_isFar 4 rfl) rfl rfl  (fun hc1 => ?_) (fun hc1 => ?_)
  · have h := o_t hc1 h
    refine G_iconst (g_da dt_M_isFar 11 rfl) ?_
    refine G_goto (g_da dt_M_isFar 12 rfl) rfl ?_
    exact G_ireturn (g_da dt_M_isFar 14 rfl) rfl (g_bool (Or.inr w_1)).1 rfl (g_nz rfl) (q_e h)
  · have h := o_f hc1 h
    refine G_lload_n (g_da dt_M_isFar 5 rfl) rfl rfl ?_
    refine G_iload_n (g_da dt_M_isFar 6 rfl) rfl rfl ?_
    refine G_ineg (g_da dt_M_isFar 7 rfl) ?_
    refine G_i2l (g_da dt_M_isFar 8 rfl) ?_
    refine G_lcmp (g_da dt_M_isFar 9 rfl) ?_
    refine G_if_ge (g_da dt_M_isFar 10 rfl) rfl rfl  (fun hc2 => ?_) (fun hc2 => ?_)
    · have h := o_t hc2 h
      refine G_iconst (g_da dt_M_isFar 13 rfl) ?_
      exact G_ireturn (g_da dt_M_isFar 14 rfl) rfl (g_bool (Or.inl w_0)).1 rfl (g_nz rfl) (q_e h)
    · have h := o_f hc2 h
      refine G_iconst (g_da dt_M_isFar 11 rfl) ?_
      refine G_goto (g_da dt_M_isFar 12 rfl) rfl ?_
      exact G_ireturn (g_da dt_M_isFar 14 rfl) rfl (g_bool (Or.inr w_1)).1 rfl (g_nz rfl) (q_e h)
set_option maxHeartbeats 4000000 in
set_option maxRecDepth 100000 in
theorem M_isNear_54_ok {J : gS → gS} (hJm : g_jm J) {z0 : Int} {s0 : gS} {k4 : Int → Int → Int → gS → gA} (hk4 : ∀ (l1 l2 l3 : Int) (s : gS), k4 l1 l2 l3 s = some (z0, s0) → G M_M_isNear (QE g_S J z0 s0) (g_S, 0, 0) (J s) 4 [some (.ref 49), some (gi l1), some (gi l2), some (gi l3)] [])  {l1 l3 t0 : Int} {s : gS} (h : M_isNear_54 k4 l1 l3 t0 s = some (z0, s0)) : G M_M_isNear (QE g_S J z0 s0) (g_S, 0, 0) (J s) 54 [some (.ref 49), some (gi l1), none, some (gi l3)] [gi t0] := by
  unfold M_isNear_54 at h
  refine G_istore_n (lv' := [_, _, _, _]) (g_da dt_M_isNear 30 rfl) rfl (Nat.le_of_ble_eq_true rfl) rfl rfl ?_
  refine G_iinc (lv' := [_, _, _, _]) (g_da dt_M_isNear 31 rfl) rfl (Nat.le_of_ble_eq_true rfl) rfl rfl ?_
  refine G_goto (g_da dt_M_isNear 32 rfl) rfl ?_
  exact G_subK (hk4 _ _ _ _ h) ⟨rfl, ⟨rfl, ⟨rfl, ⟨rfl, trivial⟩⟩⟩⟩
set_option maxHeartbeats 4000000 in
set_option maxRecDepth 100000 in
theorem M_isNear_53_ok {J : gS → gS} (hJm : g_jm J) {z0 : Int} {s0 : gS} {k4 : Int → Int → Int → gS → gA} (hk4 : ∀ (l1 l2 l3 : Int) (s : gS), k4 l1 l2 l3 s = some (z0, s0) → G M_M_isNear (QE g_S J z0 s0) (g_S, 0, 0) (J s) 4 [some (.ref 49), some (gi l1), some (gi l2), some (gi l3)] [])  {l1 l3 : Int} {s : gS} (h : M_isNear_53 k4 l1 l3 s = some (z0, s0)) : G M_M_isNear (QE g_S J z0 s0) (g_S, 0, 0) (J s) 53 [some (.ref 49), some (gi l1), none, some (gi l3)] [] := by
  unfold M_isNear_53 at h
  refine G_iconst (g_da dt_M_isNear 29 rfl) ?_
  exact G_subK (M_isNear_54_ok hJm hk4 h) ⟨rfl, ⟨rfl, ⟨rfl, trivial⟩⟩⟩
set_option maxHeartbeats 4000000 in
set_option maxRecDepth 100000 in
theorem M_isNear_4_ok {J : gS → gS} (hJm : g_jm J) {z0 : Int} {s0 : gS} {k4 : Int → Int → Int → gS → gA} (hk4 : ∀ (l1 l2 l3 : Int) (s : gS), k4 l1 l2 l3 s = some (z0, s0) → G M_M_isNear (QE g_S J z0 s0) (g_S, 0, 0) (J s) 4 [some (.ref 49), some (gi l1), some (gi l2), some (gi l3)] [])  {l1 l2 l3 : Int} {s : gS} (h : M_isNear_4 k4 l1 l2 l3 s = some (z0, s0)) : G M_M_isNear (QE g_S J z0 s0) (g_S, 0, 0) (J s) 4 [some (.ref 49), some (gi l1), some (gi l2), some (gi l3)] [] := by
  unfold M_isNear_4 at h
  refine G_iload_n (g_da dt_M_isNear 4 rfl) rfl rfl ?_
  refine G_iload_n (g_da dt_M_isNear 5 rfl) rfl rfl ?_
  refine G_icmp_ge (g_da dt_M_isNear 6 rfl) rfl rfl rfl (fun hc1 => ?_) (fun hc1 => ?_)
  · have h := o_t hc1 h
    refine G_iload_n (g_da dt_M_isNear 33 rfl) rfl rfl ?_
    obtain ⟨hz2, h⟩ := o_g h
    exact G_ireturn (g_da dt_M_isNear 34 rfl) rfl (g_bool hz2).1 rfl (g_nz rfl) (q_e h)
  · have h := o_f hc1 h
    refine G_iload_n (g_da dt_M_isNear 7 rfl) rfl rfl ?_
    refine G_if_eq (g_da dt_M_isNear 8 rfl) rfl rfl  (fun hc3 => ?_) (fun hc3 => ?_)
    · have h := o_t hc3 h
      exact G_subK (M_isNear_53_ok hJm hk4 h) ⟨rfl, ⟨rfl, ⟨rfl, trivial⟩⟩⟩
    · have h := o_f hc3 h
      refine G_aload_n (g_da dt_M_isNear 9 rfl) rfl rfl ?_
      refine G_aload_n (g_da dt_M_isNear 10 rfl) rfl rfl ?_
      refine G_iload_n (g_da dt_M_isNear 11 rfl) rfl rfl ?_
      refine G_iconst (g_da dt_M_isNear 12 rfl) ?_
      refine G_iadd (g_da dt_M_isNear 13 rfl) ?_
      obtain ⟨r4, s5, hc6, h⟩ := o_b h
      refine H_cVE (M_number_ok hJm hc6) (g_da dt_M_isNear 14 rfl) lk_15_185 mv_M_number rfl sh_49 rfl rfl rfl rfl rfl rfl ?_
      obtain ⟨r7, s8, hc9, h⟩ := o_b h
      refine H_cVF (M_xOf_ok hJm hc9) (g_da dt_M_isNear 15 rfl) lk_15_188 mv_M_xOf rfl sh_49 rfl rfl rfl rfl rfl rfl ?_
      refine G_ldc (z := 100000) (g_da dt_M_isNear 16 rfl) cn_15_192 rfl ?_
      obtain ⟨r10, s11, hc12, h⟩ := o_b h
      refine H_cSE (M_isFar_ok hc12) (g_da dt_M_isNear 17 rfl) lk_15_193 ms_M_isFar rfl rfl rfl rfl rfl rfl ?_
      refine G_if_ne (g_da dt_M_isNear 18 rfl) rfl rfl  (fun hc13 => ?_) (fun hc13 => ?_)
      · have h := o_f hc13 h
        exact G_subK (M_isNear_53_ok hJm hk4 h) ⟨rfl, ⟨rfl, ⟨rfl, trivial⟩⟩⟩
      · have h := o_t hc13 h
        refine G_aload_n (g_da dt_M_isNear 19 rfl) rfl rfl ?_
        refine G_aload_n (g_da dt_M_isNear 20 rfl) rfl rfl ?_
        refine G_iload_n (g_da dt_M_isNear 21 rfl) rfl rfl ?_
        obtain ⟨r14, s15, hc16, h⟩ := o_b h
        refine H_cVE (M_number_ok hJm hc16) (g_da dt_M_isNear 22 rfl) lk_15_185 mv_M_number rfl sh_49 rfl rfl rfl rfl rfl rfl ?_
        obtain ⟨r17, s18, hc19, h⟩ := o_b h
        refine H_cVF (M_yOf_ok hJm hc19) (g_da dt_M_isNear 23 rfl) lk_15_197 mv_M_yOf rfl sh_49 rfl rfl rfl rfl rfl rfl ?_
        refine G_ldc (z := 100000) (g_da dt_M_isNear 24 rfl) cn_15_192 rfl ?_
        obtain ⟨r20, s21, hc22, h⟩ := o_b h
        refine H_cSE (M_isFar_ok hc22) (g_da dt_M_isNear 25 rfl) lk_15_193 ms_M_isFar rfl rfl rfl rfl rfl rfl ?_
        refine G_if_ne (g_da dt_M_isNear 26 rfl) rfl rfl  (fun hc23 => ?_) (fun hc23 => ?_)
        · have h := o_f hc23 h
          exact G_subK (M_isNear_53_ok hJm hk4 h) ⟨rfl, ⟨rfl, ⟨rfl, trivial⟩⟩⟩
        · have h := o_t hc23 h
          refine G_iconst (g_da dt_M_isNear 27 rfl) ?_
          refine G_goto (g_da dt_M_isNear 28 rfl) rfl ?_
          exact G_subK (M_isNear_54_ok hJm hk4 h) ⟨rfl, ⟨rfl, ⟨rfl, trivial⟩⟩⟩
set_option maxHeartbeats 4000000 in
set_option maxRecDepth 100000 in
theorem M_isNear_4L_ok {J : gS → gS} (hJm : g_jm J) {z0 : Int} {s0 : gS} : ∀ (n : Nat) {l1 l2 l3 : Int} {s : gS}, M_isNear_4L n l1 l2 l3 s = some (z0, s0) → G M_M_isNear (QE g_S J z0 s0) (g_S, 0, 0) (J s) 4 [some (.ref 49), some (gi l1), some (gi l2), some (gi l3)] [] := by
  intro n
  induction n with
  | zero => intro _ _ _ _ h; cases h
  | succ n ih => intro _ _ _ _ h; exact M_isNear_4_ok hJm (fun _ _ _ _ h => ih h) h
set_option maxHeartbeats 4000000 in
set_option maxRecDepth 100000 in
theorem M_isNear_ok {J : gS → gS} (hJm : g_jm J) {z0 : Int} {s0 : gS} {a1 : Int} {s : gS} (h : M_isNear a1 s = some (z0, s0)) : Ct M_M_isNear g_S [.ref 49, gi a1] (J s) (QE g_S J z0 s0) := by
  refine Ct_of [some (.ref 49), some (gi a1), none, none] (plainFor_of_name (by decide)) rfl (Nat.le_of_ble_eq_true rfl) rfl (by decide) q_rE ?_
  unfold M_isNear at h
  refine G_iconst (g_da dt_M_isNear 0 rfl) ?_
  refine G_istore_n (lv' := [_, _, _, none]) (g_da dt_M_isNear 1 rfl) rfl (Nat.le_of_ble_eq_true rfl) rfl rfl ?_
  refine G_iconst (g_da dt_M_isNear 2 rfl) ?_
  refine G_istore_n (lv' := [_, _, _, _]) (g_da dt_M_isNear 3 rfl) rfl (Nat.le_of_ble_eq_true rfl) rfl rfl ?_
  exact G_subK (M_isNear_4L_ok hJm gFu h) ⟨rfl, ⟨rfl, ⟨rfl, ⟨rfl, trivial⟩⟩⟩⟩
set_option maxHeartbeats 4000000 in
set_option maxRecDepth 100000 in
theorem M_placesFor_ok {J : gS → gS} (hJm : g_jm J) {z0 : Int} {s0 : gS} {a1 : Int} {s : gS} (h : M_placesFor a1 s = some (z0, s0)) : Ct M_M_placesFor g_S [.ref 49, gi a1] (J s) (QE g_S J z0 s0) := by
  refine Ct_of [some (.ref 49), some (gi a1)] (plainFor_of_name (by decide)) rfl (Nat.le_of_ble_eq_true rfl) rfl (by decide) q_rE ?_
  unfold M_placesFor at h
  refine G_iload_n (g_da dt_M_placesFor 0 rfl) rfl rfl ?_
  refine G_aload_n (g_da dt_M_placesFor 1 rfl) rfl rfl ?_
  refine H_getI (g_da dt_M_placesFor 2 rfl) sh_49 fl_15_203 rfl (hJm 49 rfl) ?_
  refine G_if_eq (g_da dt_M_placesFor 3 rfl) rfl rfl  (fun hc1 => ?_) (fun hc1 => ?_)
  · have h := o_t hc1 h
    refine G_iconst (g_da dt_M_placesFor 6 rfl) ?_
    refine G_iadd (g_da dt_M_placesFor 7 rfl) ?_
    exact G_ireturn (g_da dt_M_placesFor 8 rfl) rfl rfl rfl (g_nz rfl) (q_e h)
  · have h := o_f hc1 h
    refine G_iconst (g_da dt_M_placesFor 4 rfl) ?_
    refine G_goto (g_da dt_M_placesFor 5 rfl) rfl ?_
    refine G_iadd (g_da dt_M_placesFor 7 rfl) ?_
    exact G_ireturn (g_da dt_M_placesFor 8 rfl) rfl rfl rfl (g_nz rfl) (q_e h)
set_option maxHeartbeats 4000000 in
set_option maxRecDepth 100000 in
theorem M_isRepeated_2_ok {J : gS → gS} (hJm : g_jm J) {z0 : Int} {s0 : gS} {k2 : Int → gS → gA} (hk2 : ∀ (l1 : Int) (s : gS), k2 l1 s = some (z0, s0) → G M_M_isRepeated (QE g_S J z0 s0) (g_S, 0, 0) (J s) 2 [some (.ref 49), some (gi l1)] [])  {l1 : Int} {s : gS} (h : M_isRepeated_2 k2 l1 s = some (z0, s0)) : G M_M_isRepeated (QE g_S J z0 s0) (g_S, 0, 0) (J s) 2 [some (.ref 49), some (gi l1)] [] := by
  unfold M_isRepeated_2 at h
  refine G_iload_n (g_da dt_M_isRepeated 2 rfl) rfl rfl ?_
  refine G_aload_n (g_da dt_M_isRepeated 3 rfl) rfl rfl ?_
  refine H_getI (g_da dt_M_isRepeated 4 rfl) sh_49 fl_15_157 rfl (hJm 49 rfl) ?_
  refine G_icmp_ge (g_da dt_M_isRepeated 5 rfl) rfl rfl rfl (fun hc1 => ?_) (fun hc1 => ?_)
  · have h := o_t hc1 h
    refine G_iconst (g_da dt_M_isRepeated 16 rfl) ?_
    exact G_ireturn (g_da dt_M_isRepeated 17 rfl) rfl (g_bool (Or.inl w_0)).1 rfl (g_nz rfl) (q_e h)
  · have h := o_f hc1 h
    refine G_aload_n (g_da dt_M_isRepeated 6 rfl) rfl rfl ?_
    refine G_getR (g_da dt_M_isRepeated 7 rfl) sh_49 fl_15_35 rfl ?_
    refine G_iload_n (g_da dt_M_isRepeated 8 rfl) rfl rfl ?_
    obtain ⟨hb2, h⟩ := o_g h
    refine H_iaload (g_da dt_M_isRepeated 9 rfl) sh_58 (hJm 58 rfl) rfl hb2 rfl ?_
    refine G_iconst (g_da dt_M_isRepeated 10 rfl) ?_
    refine G_icmp_eq (g_da dt_M_isRepeated 11 rfl) rfl rfl w_m1 (fun hc3 => ?_) (fun hc3 => ?_)
    · have h := o_t hc3 h
      refine G_iinc (lv' := [_, _]) (g_da dt_M_isRepeated 14 rfl) rfl (Nat.le_of_ble_eq_true rfl) rfl rfl ?_
      refine G_goto (g_da dt_M_isRepeated 15 rfl) rfl ?_
      exact G_subK (hk2 _ _ h) ⟨rfl, ⟨rfl, trivial⟩⟩
    · have h := o_f hc3 h
      refine G_iconst (g_da dt_M_isRepeated 12 rfl) ?_
      exact G_ireturn (g_da dt_M_isRepeated 13 rfl) rfl (g_bool (Or.inr w_1)).1 rfl (g_nz rfl) (q_e h)
set_option maxHeartbeats 4000000 in
set_option maxRecDepth 100000 in
theorem M_isRepeated_2L_ok {J : gS → gS} (hJm : g_jm J) {z0 : Int} {s0 : gS} : ∀ (n : Nat) {l1 : Int} {s : gS}, M_isRepeated_2L n l1 s = some (z0, s0) → G M_M_isRepeated (QE g_S J z0 s0) (g_S, 0, 0) (J s) 2 [some (.ref 49), some (gi l1)] [] := by
  intro n
  induction n with
  | zero => intro _ _ h; cases h
  | succ n ih => intro _ _ h; exact M_isRepeated_2_ok hJm (fun _ _ h => ih h) h
set_option maxHeartbeats 4000000 in
set_option maxRecDepth 100000 in
theorem M_isRepeated_ok {J : gS → gS} (hJm : g_jm J) {z0 : Int} {s0 : gS} {s : gS} (h : M_isRepeated s = some (z0, s0)) : Ct M_M_isRepeated g_S [.ref 49] (J s) (QE g_S J z0 s0) := by
  refine Ct_of [some (.ref 49), none] (plainFor_of_name (by decide)) rfl (Nat.le_of_ble_eq_true rfl) rfl (by decide) q_rE ?_
  unfold M_isRepeated at h
  refine G_iconst (g_da dt_M_isRepeated 0 rfl) ?_
  refine G_istore_n (lv' := [_, _]) (g_da dt_M_isRepeated 1 rfl) rfl (Nat.le_of_ble_eq_true rfl) rfl rfl ?_
  exact G_subK (M_isRepeated_2L_ok hJm gFu h) ⟨rfl, ⟨rfl, trivial⟩⟩
set_option maxHeartbeats 4000000 in
set_option maxRecDepth 100000 in
theorem M_errorOf_403_ok {J : gS → gS} (hJm : g_jm J) {z0 : Int} {s0 : gS}  {t0 t2 : Int} {s : gS} (h : M_errorOf_403 t0 t2 s = some (z0, s0)) : G M_M_errorOf (QE g_S J z0 s0) (g_S, 0, 0) (J s) 403 [none, none, none, none] [gi t2, .ref 49, gi t0] := by
  unfold M_errorOf_403 at h
  obtain ⟨r43, s44, hc45, h⟩ := o_b h
  refine H_cVE (M_look_ok hJm hc45) (g_da dt_M_errorOf 209 rfl) lk_15_226 mv_M_look rfl sh_49 rfl rfl rfl rfl rfl rfl ?_
  refine G_iadd (g_da dt_M_errorOf 210 rfl) ?_
  refine G_sipush (g_da dt_M_errorOf 211 rfl) s16w_250 ?_
  refine G_icmp_le (g_da dt_M_errorOf 212 rfl) rfl rfl w_250 (fun hc46 => ?_) (fun hc46 => ?_)
  · have h := o_t hc46 h
    refine G_iconst (g_da dt_M_errorOf 215 rfl) ?_
    exact G_ireturn (g_da dt_M_errorOf 216 rfl) rfl rfl rfl (g_nz rfl) (q_e h)
  · have h := o_f hc46 h
    refine G_bipush (g_da dt_M_errorOf 213 rfl) b8w_8 ?_
    refine G_goto (g_da dt_M_errorOf 214 rfl) rfl ?_
    exact G_ireturn (g_da dt_M_errorOf 216 rfl) rfl rfl rfl (g_nz rfl) (q_e h)
set_option maxHeartbeats 4000000 in
set_option maxRecDepth 100000 in
theorem M_errorOf_387_ok {J : gS → gS} (hJm : g_jm J) {z0 : Int} {s0 : gS}  {l1 : Int} {s : gS} (h : M_errorOf_387 l1 s = some (z0, s0)) : G M_M_errorOf (QE g_S J z0 s0) (g_S, 0, 0) (J s) 387 [some (.ref 49), some (gi l1), none, none] [] := by
  unfold M_errorOf_387 at h
  refine G_aload_n (g_da dt_M_errorOf 200 rfl) rfl rfl ?_
  refine H_getI (g_da dt_M_errorOf 201 rfl) sh_49 fl_15_151 rfl (hJm 49 rfl) ?_
  refine G_aload_n (g_da dt_M_errorOf 202 rfl) rfl rfl ?_
  refine G_iload_n (g_da dt_M_errorOf 203 rfl) rfl rfl ?_
  refine G_bipush (g_da dt_M_errorOf 204 rfl) b8w_70 ?_
  refine G_icmp_ne (g_da dt_M_errorOf 205 rfl) rfl rfl w_70 (fun hc42 => ?_) (fun hc42 => ?_)
  · have h := o_f hc42 h
    refine G_iconst (g_da dt_M_errorOf 208 rfl) ?_
    exact G_subK (M_errorOf_403_ok hJm h) trivial
  · have h := o_t hc42 h
    refine G_iconst (g_da dt_M_errorOf 206 rfl) ?_
    refine G_goto (g_da dt_M_errorOf 207 rfl) rfl ?_
    exact G_subK (M_errorOf_403_ok hJm h) trivial
set_option maxHeartbeats 4000000 in
set_option maxRecDepth 100000 in
theorem M_errorOf_468_ok {J : gS → gS} (hJm : g_jm J) {z0 : Int} {s0 : gS}  {l1 : Int} {s : gS} (h : M_errorOf_468 l1 s = some (z0, s0)) : G M_M_errorOf (QE g_S J z0 s0) (g_S, 0, 0) (J s) 468 [some (.ref 49), some (gi l1), none, none] [] := by
  unfold M_errorOf_468 at h
  refine G_iload_n (g_da dt_M_errorOf 241 rfl) rfl rfl ?_
  refine G_bipush (g_da dt_M_errorOf 242 rfl) b8w_81 ?_
  refine G_icmp_ne (g_da dt_M_errorOf 243 rfl) rfl rfl w_81 (fun hc51 => ?_) (fun hc51 => ?_)
  · have h := o_f hc51 h
    refine G_iconst (g_da dt_M_errorOf 249 rfl) ?_
    exact G_ireturn (g_da dt_M_errorOf 250 rfl) rfl rfl rfl (g_nz rfl) (q_e h)
  · have h := o_t hc51 h
    refine G_aload_n (g_da dt_M_errorOf 244 rfl) rfl rfl ?_
    obtain ⟨r52, s53, hc54, h⟩ := o_b h
    refine H_cVE (M_isRepeated_ok hJm hc54) (g_da dt_M_errorOf 245 rfl) lk_15_230 mv_M_isRepeated rfl sh_49 rfl rfl rfl rfl rfl rfl ?_
    refine G_if_ne (g_da dt_M_errorOf 246 rfl) rfl rfl  (fun hc55 => ?_) (fun hc55 => ?_)
    · have h := o_f hc55 h
      refine G_iconst (g_da dt_M_errorOf 249 rfl) ?_
      exact G_ireturn (g_da dt_M_errorOf 250 rfl) rfl rfl rfl (g_nz rfl) (q_e h)
    · have h := o_t hc55 h
      refine G_bipush (g_da dt_M_errorOf 247 rfl) b8w_11 ?_
      refine G_goto (g_da dt_M_errorOf 248 rfl) rfl ?_
      exact G_ireturn (g_da dt_M_errorOf 250 rfl) rfl rfl rfl (g_nz rfl) (q_e h)
set_option maxHeartbeats 4000000 in
set_option maxRecDepth 100000 in
theorem M_errorOf_452_ok {J : gS → gS} (hJm : g_jm J) {z0 : Int} {s0 : gS}  {l1 : Int} {s : gS} (h : M_errorOf_452 l1 s = some (z0, s0)) : G M_M_errorOf (QE g_S J z0 s0) (g_S, 0, 0) (J s) 452 [some (.ref 49), some (gi l1), none, none] [] := by
  unfold M_errorOf_452 at h
  refine G_iload_n (g_da dt_M_errorOf 233 rfl) rfl rfl ?_
  refine G_bipush (g_da dt_M_errorOf 234 rfl) b8w_86 ?_
  refine G_icmp_ne (g_da dt_M_errorOf 235 rfl) rfl rfl w_86 (fun hc50 => ?_) (fun hc50 => ?_)
  · have h := o_f hc50 h
    exact G_subK (M_errorOf_468_ok hJm h) ⟨rfl, ⟨rfl, trivial⟩⟩
  · have h := o_t hc50 h
    refine G_aload_n (g_da dt_M_errorOf 236 rfl) rfl rfl ?_
    refine H_getI (g_da dt_M_errorOf 237 rfl) sh_49 fl_15_148 rfl (hJm 49 rfl) ?_
    refine G_if_ne (g_da dt_M_errorOf 238 rfl) rfl rfl  (fun hc56 => ?_) (fun hc56 => ?_)
    · have h := o_f hc56 h
      exact G_subK (M_errorOf_468_ok hJm h) ⟨rfl, ⟨rfl, trivial⟩⟩
    · have h := o_t hc56 h
      refine G_bipush (g_da dt_M_errorOf 239 rfl) b8w_10 ?_
      exact G_ireturn (g_da dt_M_errorOf 240 rfl) rfl rfl rfl (g_nz rfl) (q_e h)
set_option maxHeartbeats 4000000 in
set_option maxRecDepth 100000 in
theorem M_errorOf_438_ok {J : gS → gS} (hJm : g_jm J) {z0 : Int} {s0 : gS}  {l1 : Int} {s : gS} (h : M_errorOf_438 l1 s = some (z0, s0)) : G M_M_errorOf (QE g_S J z0 s0) (g_S, 0, 0) (J s) 438 [some (.ref 49), some (gi l1), none, none] [] := by
  unfold M_errorOf_438 at h
  refine G_iload_n (g_da dt_M_errorOf 226 rfl) rfl rfl ?_
  refine G_bipush (g_da dt_M_errorOf 227 rfl) b8w_85 ?_
  refine G_icmp_ne (g_da dt_M_errorOf 228 rfl) rfl rfl w_85 (fun hc49 => ?_) (fun hc49 => ?_)
  · have h := o_f hc49 h
    exact G_subK (M_errorOf_452_ok hJm h) ⟨rfl, ⟨rfl, trivial⟩⟩
  · have h := o_t hc49 h
    refine G_aload_n (g_da dt_M_errorOf 229 rfl) rfl rfl ?_
    refine H_getI (g_da dt_M_errorOf 230 rfl) sh_49 fl_15_148 rfl (hJm 49 rfl) ?_
    refine G_iconst (g_da dt_M_errorOf 231 rfl) ?_
    refine G_icmp_eq (g_da dt_M_errorOf 232 rfl) rfl rfl w_4 (fun hc57 => ?_) (fun hc57 => ?_)
    · have h := o_t hc57 h
      refine G_bipush (g_da dt_M_errorOf 239 rfl) b8w_10 ?_
      exact G_ireturn (g_da dt_M_errorOf 240 rfl) rfl rfl rfl (g_nz rfl) (q_e h)
    · have h := o_f hc57 h
      exact G_subK (M_errorOf_452_ok hJm h) ⟨rfl, ⟨rfl, trivial⟩⟩
set_option maxHeartbeats 4000000 in
set_option maxRecDepth 100000 in
theorem M_errorOf_375_ok {J : gS → gS} (hJm : g_jm J) {z0 : Int} {s0 : gS}  {l1 : Int} {s : gS} (h : M_errorOf_375 l1 s = some (z0, s0)) : G M_M_errorOf (QE g_S J z0 s0) (g_S, 0, 0) (J s) 375 [some (.ref 49), some (gi l1), none, none] [] := by
  unfold M_errorOf_375 at h
  refine G_iload_n (g_da dt_M_errorOf 194 rfl) rfl rfl ?_
  refine G_bipush (g_da dt_M_errorOf 195 rfl) b8w_70 ?_
  refine G_icmp_eq (g_da dt_M_errorOf 196 rfl) rfl rfl w_70 (fun hc41 => ?_) (fun hc41 => ?_)
  · have h := o_t hc41 h
    exact G_subK (M_errorOf_387_ok hJm h) ⟨rfl, ⟨rfl, trivial⟩⟩
  · have h := o_f hc41 h
    refine G_iload_n (g_da dt_M_errorOf 197 rfl) rfl rfl ?_
    refine G_bipush (g_da dt_M_errorOf 198 rfl) b8w_69 ?_
    refine G_icmp_ne (g_da dt_M_errorOf 199 rfl) rfl rfl w_69 (fun hc47 => ?_) (fun hc47 => ?_)
    · have h := o_f hc47 h
      refine G_iload_n (g_da dt_M_errorOf 217 rfl) rfl rfl ?_
      refine G_bipush (g_da dt_M_errorOf 218 rfl) b8w_80 ?_
      refine G_icmp_ne (g_da dt_M_errorOf 219 rfl) rfl rfl w_80 (fun hc48 => ?_) (fun hc48 => ?_)
      · have h := o_f hc48 h
        exact G_subK (M_errorOf_438_ok hJm h) ⟨rfl, ⟨rfl, trivial⟩⟩
      · have h := o_t hc48 h
        refine G_aload_n (g_da dt_M_errorOf 220 rfl) rfl rfl ?_
        refine H_getI (g_da dt_M_errorOf 221 rfl) sh_49 fl_15_139 rfl (hJm 49 rfl) ?_
        refine G_bipush (g_da dt_M_errorOf 222 rfl) b8w_8 ?_
        refine G_icmp_ne (g_da dt_M_errorOf 223 rfl) rfl rfl w_8 (fun hc58 => ?_) (fun hc58 => ?_)
        · have h := o_f hc58 h
          exact G_subK (M_errorOf_438_ok hJm h) ⟨rfl, ⟨rfl, trivial⟩⟩
        · have h := o_t hc58 h
          refine G_bipush (g_da dt_M_errorOf 224 rfl) b8w_9 ?_
          exact G_ireturn (g_da dt_M_errorOf 225 rfl) rfl rfl rfl (g_nz rfl) (q_e h)
    · have h := o_t hc47 h
      exact G_subK (M_errorOf_387_ok hJm h) ⟨rfl, ⟨rfl, trivial⟩⟩
set_option maxHeartbeats 4000000 in
set_option maxRecDepth 100000 in
theorem M_errorOf_349_ok {J : gS → gS} (hJm : g_jm J) {z0 : Int} {s0 : gS}  {l1 : Int} {s : gS} (h : M_errorOf_349 l1 s = some (z0, s0)) : G M_M_errorOf (QE g_S J z0 s0) (g_S, 0, 0) (J s) 349 [some (.ref 49), some (gi l1), none, none] [] := by
  unfold M_errorOf_349 at h
  refine G_iload_n (g_da dt_M_errorOf 181 rfl) rfl rfl ?_
  refine G_bipush (g_da dt_M_errorOf 182 rfl) b8w_67 ?_
  refine G_icmp_ne (g_da dt_M_errorOf 183 rfl) rfl rfl w_67 (fun hc40 => ?_) (fun hc40 => ?_)
  · have h := o_f hc40 h
    exact G_subK (M_errorOf_375_ok hJm h) ⟨rfl, ⟨rfl, trivial⟩⟩
  · have h := o_t hc40 h
    refine G_aload_n (g_da dt_M_errorOf 184 rfl) rfl rfl ?_
    refine H_getI (g_da dt_M_errorOf 185 rfl) sh_49 fl_15_220 rfl (hJm 49 rfl) ?_
    refine G_aload_n (g_da dt_M_errorOf 186 rfl) rfl rfl ?_
    refine G_bipush (g_da dt_M_errorOf 187 rfl) b8w_8 ?_
    obtain ⟨r59, s60, hc61, h⟩ := o_b h
    refine H_cVE (M_placesFor_ok hJm hc61) (g_da dt_M_errorOf 188 rfl) lk_15_223 mv_M_placesFor rfl sh_49 rfl rfl rfl rfl rfl rfl ?_
    refine G_iadd (g_da dt_M_errorOf 189 rfl) ?_
    refine G_sipush (g_da dt_M_errorOf 190 rfl) s16w_200 ?_
    refine G_icmp_le (g_da dt_M_errorOf 191 rfl) rfl rfl w_200 (fun hc62 => ?_) (fun hc62 => ?_)
    · have h := o_t hc62 h
      exact G_subK (M_errorOf_375_ok hJm h) ⟨rfl, ⟨rfl, trivial⟩⟩
    · have h := o_f hc62 h
      refine G_bipush (g_da dt_M_errorOf 192 rfl) b8w_7 ?_
      exact G_ireturn (g_da dt_M_errorOf 193 rfl) rfl rfl rfl (g_nz rfl) (q_e h)
set_option maxHeartbeats 4000000 in
set_option maxRecDepth 100000 in
theorem M_errorOf_327_ok {J : gS → gS} (hJm : g_jm J) {z0 : Int} {s0 : gS}  {l1 : Int} {s : gS} (h : M_errorOf_327 l1 s = some (z0, s0)) : G M_M_errorOf (QE g_S J z0 s0) (g_S, 0, 0) (J s) 327 [some (.ref 49), some (gi l1), none, none] [] := by
  unfold M_errorOf_327 at h
  refine G_iload_n (g_da dt_M_errorOf 170 rfl) rfl rfl ?_
  refine G_bipush (g_da dt_M_errorOf 171 rfl) b8w_76 ?_
  refine G_icmp_ne (g_da dt_M_errorOf 172 rfl) rfl rfl w_76 (fun hc39 => ?_) (fun hc39 => ?_)
  · have h := o_f hc39 h
    exact G_subK (M_errorOf_349_ok hJm h) ⟨rfl, ⟨rfl, trivial⟩⟩
  · have h := o_t hc39 h
    refine G_aload_n (g_da dt_M_errorOf 173 rfl) rfl rfl ?_
    refine H_getI (g_da dt_M_errorOf 174 rfl) sh_49 fl_15_220 rfl (hJm 49 rfl) ?_
    refine G_aload_n (g_da dt_M_errorOf 175 rfl) rfl rfl ?_
    refine G_iconst (g_da dt_M_errorOf 176 rfl) ?_
    obtain ⟨r63, s64, hc65, h⟩ := o_b h
    refine H_cVE (M_placesFor_ok hJm hc65) (g_da dt_M_errorOf 177 rfl) lk_15_223 mv_M_placesFor rfl sh_49 rfl rfl rfl rfl rfl rfl ?_
    refine G_iadd (g_da dt_M_errorOf 178 rfl) ?_
    refine G_sipush (g_da dt_M_errorOf 179 rfl) s16w_200 ?_
    refine G_icmp_gt (g_da dt_M_errorOf 180 rfl) rfl rfl w_200 (fun hc66 => ?_) (fun hc66 => ?_)
    · have h := o_t hc66 h
      refine G_bipush (g_da dt_M_errorOf 192 rfl) b8w_7 ?_
      exact G_ireturn (g_da dt_M_errorOf 193 rfl) rfl rfl rfl (g_nz rfl) (q_e h)
    · have h := o_f hc66 h
      exact G_subK (M_errorOf_349_ok hJm h) ⟨rfl, ⟨rfl, trivial⟩⟩
set_option maxHeartbeats 4000000 in
set_option maxRecDepth 100000 in
theorem M_errorOf_311_ok {J : gS → gS} (hJm : g_jm J) {z0 : Int} {s0 : gS}  {l1 : Int} {s : gS} (h : M_errorOf_311 l1 s = some (z0, s0)) : G M_M_errorOf (QE g_S J z0 s0) (g_S, 0, 0) (J s) 311 [some (.ref 49), some (gi l1), none, none] [] := by
  unfold M_errorOf_311 at h
  refine G_iload_n (g_da dt_M_errorOf 163 rfl) rfl rfl ?_
  refine G_bipush (g_da dt_M_errorOf 164 rfl) b8w_77 ?_
  refine G_icmp_ne (g_da dt_M_errorOf 165 rfl) rfl rfl w_77 (fun hc38 => ?_) (fun hc38 => ?_)
  · have h := o_f hc38 h
    exact G_subK (M_errorOf_327_ok hJm h) ⟨rfl, ⟨rfl, trivial⟩⟩
  · have h := o_t hc38 h
    refine G_aload_n (g_da dt_M_errorOf 166 rfl) rfl rfl ?_
    refine H_getI (g_da dt_M_errorOf 167 rfl) sh_49 fl_15_220 rfl (hJm 49 rfl) ?_
    refine G_sipush (g_da dt_M_errorOf 168 rfl) s16w_200 ?_
    refine G_icmp_eq (g_da dt_M_errorOf 169 rfl) rfl rfl w_200 (fun hc67 => ?_) (fun hc67 => ?_)
    · have h := o_t hc67 h
      refine G_bipush (g_da dt_M_errorOf 192 rfl) b8w_7 ?_
      exact G_ireturn (g_da dt_M_errorOf 193 rfl) rfl rfl rfl (g_nz rfl) (q_e h)
    · have h := o_f hc67 h
      exact G_subK (M_errorOf_327_ok hJm h) ⟨rfl, ⟨rfl, trivial⟩⟩
set_option maxHeartbeats 4000000 in
set_option maxRecDepth 100000 in
theorem M_errorOf_301_ok {J : gS → gS} (hJm : g_jm J) {z0 : Int} {s0 : gS}  {l1 : Int} {s : gS} (h : M_errorOf_301 l1 s = some (z0, s0)) : G M_M_errorOf (QE g_S J z0 s0) (g_S, 0, 0) (J s) 301 [some (.ref 49), some (gi l1), none, none] [] := by
  unfold M_errorOf_301 at h
  refine G_aload_n (g_da dt_M_errorOf 158 rfl) rfl rfl ?_
  refine H_getI (g_da dt_M_errorOf 159 rfl) sh_49 fl_15_217 rfl (hJm 49 rfl) ?_
  refine G_if_ne (g_da dt_M_errorOf 160 rfl) rfl rfl  (fun hc37 => ?_) (fun hc37 => ?_)
  · have h := o_f hc37 h
    exact G_subK (M_errorOf_311_ok hJm h) ⟨rfl, ⟨rfl, trivial⟩⟩
  · have h := o_t hc37 h
    refine G_bipush (g_da dt_M_errorOf 161 rfl) b8w_6 ?_
    exact G_ireturn (g_da dt_M_errorOf 162 rfl) rfl rfl rfl (g_nz rfl) (q_e h)
set_option maxHeartbeats 4000000 in
set_option maxRecDepth 100000 in
theorem M_errorOf_283_ok {J : gS → gS} (hJm : g_jm J) {z0 : Int} {s0 : gS}  {l1 : Int} {s : gS} (h : M_errorOf_283 l1 s = some (z0, s0)) : G M_M_errorOf (QE g_S J z0 s0) (g_S, 0, 0) (J s) 283 [some (.ref 49), some (gi l1), none, none] [] := by
  unfold M_errorOf_283 at h
  refine G_iload_n (g_da dt_M_errorOf 149 rfl) rfl rfl ?_
  refine G_bipush (g_da dt_M_errorOf 150 rfl) b8w_76 ?_
  refine G_icmp_eq (g_da dt_M_errorOf 151 rfl) rfl rfl w_76 (fun hc36 => ?_) (fun hc36 => ?_)
  · have h := o_t hc36 h
    exact G_subK (M_errorOf_301_ok hJm h) ⟨rfl, ⟨rfl, trivial⟩⟩
  · have h := o_f hc36 h
    refine G_iload_n (g_da dt_M_errorOf 152 rfl) rfl rfl ?_
    refine G_bipush (g_da dt_M_errorOf 153 rfl) b8w_67 ?_
    refine G_icmp_eq (g_da dt_M_errorOf 154 rfl) rfl rfl w_67 (fun hc68 => ?_) (fun hc68 => ?_)
    · have h := o_t hc68 h
      exact G_subK (M_errorOf_301_ok hJm h) ⟨rfl, ⟨rfl, trivial⟩⟩
    · have h := o_f hc68 h
      refine G_iload_n (g_da dt_M_errorOf 155 rfl) rfl rfl ?_
      refine G_bipush (g_da dt_M_errorOf 156 rfl) b8w_90 ?_
      refine G_icmp_ne (g_da dt_M_errorOf 157 rfl) rfl rfl w_90 (fun hc69 => ?_) (fun hc69 => ?_)
      · have h := o_f hc69 h
        exact G_subK (M_errorOf_311_ok hJm h) ⟨rfl, ⟨rfl, trivial⟩⟩
      · have h := o_t hc69 h
        exact G_subK (M_errorOf_301_ok hJm h) ⟨rfl, ⟨rfl, trivial⟩⟩
set_option maxHeartbeats 4000000 in
set_option maxRecDepth 100000 in
theorem M_errorOf_272_ok {J : gS → gS} (hJm : g_jm J) {z0 : Int} {s0 : gS}  {l1 : Int} {s : gS} (h : M_errorOf_272 l1 s = some (z0, s0)) : G M_M_errorOf (QE g_S J z0 s0) (g_S, 0, 0) (J s) 272 [some (.ref 49), some (gi l1), none, none] [] := by
  unfold M_errorOf_272 at h
  refine G_aload_n (g_da dt_M_errorOf 143 rfl) rfl rfl ?_
  refine H_getI (g_da dt_M_errorOf 144 rfl) sh_49 fl_15_157 rfl (hJm 49 rfl) ?_
  refine G_bipush (g_da dt_M_errorOf 145 rfl) b8w_21 ?_
  refine G_icmp_ne (g_da dt_M_errorOf 146 rfl) rfl rfl w_21 (fun hc35 => ?_) (fun hc35 => ?_)
  · have h := o_f hc35 h
    exact G_subK (M_errorOf_283_ok hJm h) ⟨rfl, ⟨rfl, trivial⟩⟩
  · have h := o_t hc35 h
    refine G_iconst (g_da dt_M_errorOf 147 rfl) ?_
    exact G_ireturn (g_da dt_M_errorOf 148 rfl) rfl rfl rfl (g_nz rfl) (q_e h)
set_option maxHeartbeats 4000000 in
set_option maxRecDepth 100000 in
theorem M_errorOf_252_ok {J : gS → gS} (hJm : g_jm J) {z0 : Int} {s0 : gS}  {l1 : Int} {s : gS} (h : M_errorOf_252 l1 s = some (z0, s0)) : G M_M_errorOf (QE g_S J z0 s0) (g_S, 0, 0) (J s) 252 [some (.ref 49), some (gi l1), none, none] [] := by
  unfold M_errorOf_252 at h
  refine G_iload_n (g_da dt_M_errorOf 133 rfl) rfl rfl ?_
  refine G_bipush (g_da dt_M_errorOf 134 rfl) b8w_63 ?_
  refine G_icmp_eq (g_da dt_M_errorOf 135 rfl) rfl rfl w_63 (fun hc34 => ?_) (fun hc34 => ?_)
  · have h := o_t hc34 h
    exact G_subK (M_errorOf_272_ok hJm h) ⟨rfl, ⟨rfl, trivial⟩⟩
  · have h := o_f hc34 h
    refine G_iload_n (g_da dt_M_errorOf 136 rfl) rfl rfl ?_
    refine G_bipush (g_da dt_M_errorOf 137 rfl) b8w_82 ?_
    refine G_icmp_ne (g_da dt_M_errorOf 138 rfl) rfl rfl w_82 (fun hc70 => ?_) (fun hc70 => ?_)
    · have h := o_f hc70 h
      exact G_subK (M_errorOf_283_ok hJm h) ⟨rfl, ⟨rfl, trivial⟩⟩
    · have h := o_t hc70 h
      refine G_aload_n (g_da dt_M_errorOf 139 rfl) rfl rfl ?_
      refine G_iconst (g_da dt_M_errorOf 140 rfl) ?_
      obtain ⟨r71, s72, hc73, h⟩ := o_b h
      refine H_cVE (M_number_ok hJm hc73) (g_da dt_M_errorOf 141 rfl) lk_15_185 mv_M_number rfl sh_49 rfl rfl rfl rfl rfl rfl ?_
      refine G_if_le (g_da dt_M_errorOf 142 rfl) rfl rfl  (fun hc74 => ?_) (fun hc74 => ?_)
      · have h := o_t hc74 h
        exact G_subK (M_errorOf_283_ok hJm h) ⟨rfl, ⟨rfl, trivial⟩⟩
      · have h := o_f hc74 h
        exact G_subK (M_errorOf_272_ok hJm h) ⟨rfl, ⟨rfl, trivial⟩⟩
set_option maxHeartbeats 4000000 in
set_option maxRecDepth 100000 in
theorem M_errorOf_243_ok {J : gS → gS} (hJm : g_jm J) {z0 : Int} {s0 : gS}  {l1 : Int} {s : gS} (h : M_errorOf_243 l1 s = some (z0, s0)) : G M_M_errorOf (QE g_S J z0 s0) (g_S, 0, 0) (J s) 243 [some (.ref 49), some (gi l1), none, none] [] := by
  unfold M_errorOf_243 at h
  refine G_aload_n (g_da dt_M_errorOf 129 rfl) rfl rfl ?_
  refine H_getI (g_da dt_M_errorOf 130 rfl) sh_49 fl_15_145 rfl (hJm 49 rfl) ?_
  refine G_bipush (g_da dt_M_errorOf 131 rfl) b8w_32 ?_
  refine G_icmp_eq (g_da dt_M_errorOf 132 rfl) rfl rfl w_32 (fun hc33 => ?_) (fun hc33 => ?_)
  · have h := o_t hc33 h
    refine G_iconst (g_da dt_M_errorOf 147 rfl) ?_
    exact G_ireturn (g_da dt_M_errorOf 148 rfl) rfl rfl rfl (g_nz rfl) (q_e h)
  · have h := o_f hc33 h
    exact G_subK (M_errorOf_252_ok hJm h) ⟨rfl, ⟨rfl, trivial⟩⟩
set_option maxHeartbeats 4000000 in
set_option maxRecDepth 100000 in
theorem M_errorOf_217_ok {J : gS → gS} (hJm : g_jm J) {z0 : Int} {s0 : gS}  {l1 : Int} {s : gS} (h : M_errorOf_217 l1 s = some (z0, s0)) : G M_M_errorOf (QE g_S J z0 s0) (g_S, 0, 0) (J s) 217 [some (.ref 49), some (gi l1), none, none] [] := by
  unfold M_errorOf_217 at h
  refine G_iload_n (g_da dt_M_errorOf 117 rfl) rfl rfl ?_
  obtain ⟨r29, s30, hc31, h⟩ := o_b h
  refine H_cSE (M_isDigit_ok hc31) (g_da dt_M_errorOf 118 rfl) lk_15_96 ms_M_isDigit rfl rfl rfl rfl rfl rfl ?_
  refine G_if_ne (g_da dt_M_errorOf 119 rfl) rfl rfl  (fun hc32 => ?_) (fun hc32 => ?_)
  · have h := o_f hc32 h
    exact G_subK (M_errorOf_243_ok hJm h) ⟨rfl, ⟨rfl, trivial⟩⟩
  · have h := o_t hc32 h
    refine G_iload_n (g_da dt_M_errorOf 120 rfl) rfl rfl ?_
    obtain ⟨r75, s76, hc77, h⟩ := o_b h
    refine H_cSE (M_isLetter_ok hc77) (g_da dt_M_errorOf 121 rfl) lk_15_100 ms_M_isLetter rfl rfl rfl rfl rfl rfl ?_
    refine G_if_ne (g_da dt_M_errorOf 122 rfl) rfl rfl  (fun hc78 => ?_) (fun hc78 => ?_)
    · have h := o_f hc78 h
      exact G_subK (M_errorOf_243_ok hJm h) ⟨rfl, ⟨rfl, trivial⟩⟩
    · have h := o_t hc78 h
      refine G_iload_n (g_da dt_M_errorOf 123 rfl) rfl rfl ?_
      refine G_bipush (g_da dt_M_errorOf 124 rfl) b8w_123 ?_
      refine G_icmp_eq (g_da dt_M_errorOf 125 rfl) rfl rfl w_123 (fun hc79 => ?_) (fun hc79 => ?_)
      · have h := o_t hc79 h
        exact G_subK (M_errorOf_243_ok hJm h) ⟨rfl, ⟨rfl, trivial⟩⟩
      · have h := o_f hc79 h
        refine G_iload_n (g_da dt_M_errorOf 126 rfl) rfl rfl ?_
        refine G_bipush (g_da dt_M_errorOf 127 rfl) b8w_68 ?_
        refine G_icmp_ne (g_da dt_M_errorOf 128 rfl) rfl rfl w_68 (fun hc80 => ?_) (fun hc80 => ?_)
        · have h := o_f hc80 h
          exact G_subK (M_errorOf_252_ok hJm h) ⟨rfl, ⟨rfl, trivial⟩⟩
        · have h := o_t hc80 h
          exact G_subK (M_errorOf_243_ok hJm h) ⟨rfl, ⟨rfl, trivial⟩⟩
set_option maxHeartbeats 4000000 in
set_option maxRecDepth 100000 in
theorem M_errorOf_207_ok {J : gS → gS} (hJm : g_jm J) {z0 : Int} {s0 : gS}  {l1 : Int} {s : gS} (h : M_errorOf_207 l1 s = some (z0, s0)) : G M_M_errorOf (QE g_S J z0 s0) (g_S, 0, 0) (J s) 207 [some (.ref 49), some (gi l1), none, none] [] := by
  unfold M_errorOf_207 at h
  refine G_aload_n (g_da dt_M_errorOf 111 rfl) rfl rfl ?_
  refine G_iconst (g_da dt_M_errorOf 112 rfl) ?_
  obtain ⟨r25, s26, hc27, h⟩ := o_b h
  refine H_cVE (M_number_ok hJm hc27) (g_da dt_M_errorOf 113 rfl) lk_15_185 mv_M_number rfl sh_49 rfl rfl rfl rfl rfl rfl ?_
  refine G_if_ne (g_da dt_M_errorOf 114 rfl) rfl rfl  (fun hc28 => ?_) (fun hc28 => ?_)
  · have h := o_f hc28 h
    exact G_subK (M_errorOf_217_ok hJm h) ⟨rfl, ⟨rfl, trivial⟩⟩
  · have h := o_t hc28 h
    refine G_iconst (g_da dt_M_errorOf 115 rfl) ?_
    exact G_ireturn (g_da dt_M_errorOf 116 rfl) rfl rfl rfl (g_nz rfl) (q_e h)
set_option maxHeartbeats 4000000 in
set_option maxRecDepth 100000 in
theorem M_errorOf_189_ok {J : gS → gS} (hJm : g_jm J) {z0 : Int} {s0 : gS}  {l1 l3 : Int} {s : gS} (h : M_errorOf_189 l1 l3 s = some (z0, s0)) : G M_M_errorOf (QE g_S J z0 s0) (g_S, 0, 0) (J s) 189 [some (.ref 49), some (gi l1), none, some (gi l3)] [] := by
  unfold M_errorOf_189 at h
  refine G_iload_n (g_da dt_M_errorOf 101 rfl) rfl rfl ?_
  refine G_if_eq (g_da dt_M_errorOf 102 rfl) rfl rfl  (fun hc23 => ?_) (fun hc23 => ?_)
  · have h := o_t hc23 h
    refine G_iload_n (g_da dt_M_errorOf 105 rfl) rfl rfl ?_
    refine G_bipush (g_da dt_M_errorOf 106 rfl) b8w_47 ?_
    refine G_icmp_eq (g_da dt_M_errorOf 107 rfl) rfl rfl w_47 (fun hc24 => ?_) (fun hc24 => ?_)
    · have h := o_t hc24 h
      exact G_subK (M_errorOf_207_ok hJm h) ⟨rfl, ⟨rfl, trivial⟩⟩
    · have h := o_f hc24 h
      refine G_iload_n (g_da dt_M_errorOf 108 rfl) rfl rfl ?_
      refine G_bipush (g_da dt_M_errorOf 109 rfl) b8w_37 ?_
      refine G_icmp_ne (g_da dt_M_errorOf 110 rfl) rfl rfl w_37 (fun hc81 => ?_) (fun hc81 => ?_)
      · have h := o_f hc81 h
        exact G_subK (M_errorOf_217_ok hJm h) ⟨rfl, ⟨rfl, trivial⟩⟩
      · have h := o_t hc81 h
        exact G_subK (M_errorOf_207_ok hJm h) ⟨rfl, ⟨rfl, trivial⟩⟩
  · have h := o_f hc23 h
    refine G_iconst (g_da dt_M_errorOf 103 rfl) ?_
    exact G_ireturn (g_da dt_M_errorOf 104 rfl) rfl rfl rfl (g_nz rfl) (q_e h)
set_option maxHeartbeats 4000000 in
set_option maxRecDepth 100000 in
theorem M_errorOf_188_ok {J : gS → gS} (hJm : g_jm J) {z0 : Int} {s0 : gS}  {l1 t0 : Int} {s : gS} (h : M_errorOf_188 l1 t0 s = some (z0, s0)) : G M_M_errorOf (QE g_S J z0 s0) (g_S, 0, 0) (J s) 188 [some (.ref 49), some (gi l1), none, none] [gi t0] := by
  unfold M_errorOf_188 at h
  refine G_istore_n (lv' := [_, _, none, _]) (g_da dt_M_errorOf 100 rfl) rfl (Nat.le_of_ble_eq_true rfl) rfl rfl ?_
  exact G_subK (M_errorOf_189_ok hJm h) ⟨rfl, ⟨rfl, ⟨rfl, trivial⟩⟩⟩
set_option maxHeartbeats 4000000 in
set_option maxRecDepth 100000 in
theorem M_errorOf_183_ok {J : gS → gS} (hJm : g_jm J) {z0 : Int} {s0 : gS}  {l1 : Int} {s : gS} (h : M_errorOf_183 l1 s = some (z0, s0)) : G M_M_errorOf (QE g_S J z0 s0) (g_S, 0, 0) (J s) 183 [some (.ref 49), some (gi l1), none, none] [] := by
  unfold M_errorOf_183 at h
  refine G_iconst (g_da dt_M_errorOf 97 rfl) ?_
  refine G_goto (g_da dt_M_errorOf 98 rfl) rfl ?_
  exact G_subK (M_errorOf_188_ok hJm h) ⟨rfl, ⟨rfl, trivial⟩⟩
set_option maxHeartbeats 4000000 in
set_option maxRecDepth 100000 in
theorem M_errorOf_159_ok {J : gS → gS} (hJm : g_jm J) {z0 : Int} {s0 : gS}  {l1 l3 : Int} {s : gS} (h : M_errorOf_159 l1 l3 s = some (z0, s0)) : G M_M_errorOf (QE g_S J z0 s0) (g_S, 0, 0) (J s) 159 [some (.ref 49), some (gi l1), none, some (gi l3)] [] := by
  unfold M_errorOf_159 at h
  refine G_iload_n (g_da dt_M_errorOf 85 rfl) rfl rfl ?_
  refine G_bipush (g_da dt_M_errorOf 86 rfl) b8w_71 ?_
  refine G_icmp_ne (g_da dt_M_errorOf 87 rfl) rfl rfl w_71 (fun hc22 => ?_) (fun hc22 => ?_)
  · have h := o_f hc22 h
    exact G_subK (M_errorOf_189_ok hJm h) ⟨rfl, ⟨rfl, ⟨rfl, trivial⟩⟩⟩
  · have h := o_t hc22 h
    refine G_aload_n (g_da dt_M_errorOf 88 rfl) rfl rfl ?_
    refine G_iconst (g_da dt_M_errorOf 89 rfl) ?_
    obtain ⟨r82, s83, hc84, h⟩ := o_b h
    refine H_cVE (M_number_ok hJm hc84) (g_da dt_M_errorOf 90 rfl) lk_15_185 mv_M_number rfl sh_49 rfl rfl rfl rfl rfl rfl ?_
    refine G_if_lt (g_da dt_M_errorOf 91 rfl) rfl rfl  (fun hc85 => ?_) (fun hc85 => ?_)
    · have h := o_t hc85 h
      exact G_subK (M_errorOf_183_ok hJm h) ⟨rfl, ⟨rfl, trivial⟩⟩
    · have h := o_f hc85 h
      refine G_aload_n (g_da dt_M_errorOf 92 rfl) rfl rfl ?_
      refine G_iconst (g_da dt_M_errorOf 93 rfl) ?_
      obtain ⟨r86, s87, hc88, h⟩ := o_b h
      refine H_cVE (M_number_ok hJm hc88) (g_da dt_M_errorOf 94 rfl) lk_15_185 mv_M_number rfl sh_49 rfl rfl rfl rfl rfl rfl ?_
      refine G_bipush (g_da dt_M_errorOf 95 rfl) b8w_16 ?_
      refine G_icmp_le (g_da dt_M_errorOf 96 rfl) rfl rfl w_16 (fun hc89 => ?_) (fun hc89 => ?_)
      · have h := o_t hc89 h
        refine G_iconst (g_da dt_M_errorOf 99 rfl) ?_
        exact G_subK (M_errorOf_188_ok hJm h) ⟨rfl, ⟨rfl, trivial⟩⟩
      · have h := o_f hc89 h
        exact G_subK (M_errorOf_183_ok hJm h) ⟨rfl, ⟨rfl, trivial⟩⟩
set_option maxHeartbeats 4000000 in
set_option maxRecDepth 100000 in
theorem M_errorOf_158_ok {J : gS → gS} (hJm : g_jm J) {z0 : Int} {s0 : gS}  {l1 t0 : Int} {s : gS} (h : M_errorOf_158 l1 t0 s = some (z0, s0)) : G M_M_errorOf (QE g_S J z0 s0) (g_S, 0, 0) (J s) 158 [some (.ref 49), some (gi l1), none, none] [gi t0] := by
  unfold M_errorOf_158 at h
  refine G_istore_n (lv' := [_, _, none, _]) (g_da dt_M_errorOf 84 rfl) rfl (Nat.le_of_ble_eq_true rfl) rfl rfl ?_
  exact G_subK (M_errorOf_159_ok hJm h) ⟨rfl, ⟨rfl, ⟨rfl, trivial⟩⟩⟩
set_option maxHeartbeats 4000000 in
set_option maxRecDepth 100000 in
theorem M_errorOf_153_ok {J : gS → gS} (hJm : g_jm J) {z0 : Int} {s0 : gS}  {l1 : Int} {s : gS} (h : M_errorOf_153 l1 s = some (z0, s0)) : G M_M_errorOf (QE g_S J z0 s0) (g_S, 0, 0) (J s) 153 [some (.ref 49), some (gi l1), none, none] [] := by
  unfold M_errorOf_153 at h
  refine G_iconst (g_da dt_M_errorOf 81 rfl) ?_
  refine G_goto (g_da dt_M_errorOf 82 rfl) rfl ?_
  exact G_subK (M_errorOf_158_ok hJm h) ⟨rfl, ⟨rfl, trivial⟩⟩
set_option maxHeartbeats 4000000 in
set_option maxRecDepth 100000 in
theorem M_errorOf_101_ok {J : gS → gS} (hJm : g_jm J) {z0 : Int} {s0 : gS}  {l1 l3 : Int} {s : gS} (h : M_errorOf_101 l1 l3 s = some (z0, s0)) : G M_M_errorOf (QE g_S J z0 s0) (g_S, 0, 0) (J s) 101 [some (.ref 49), some (gi l1), none, some (gi l3)] [] := by
  unfold M_errorOf_101 at h
  refine G_iload_n (g_da dt_M_errorOf 56 rfl) rfl rfl ?_
  refine G_bipush (g_da dt_M_errorOf 57 rfl) b8w_83 ?_
  refine G_icmp_ne (g_da dt_M_errorOf 58 rfl) rfl rfl w_83 (fun hc21 => ?_) (fun hc21 => ?_)
  · have h := o_f hc21 h
    exact G_subK (M_errorOf_159_ok hJm h) ⟨rfl, ⟨rfl, ⟨rfl, trivial⟩⟩⟩
  · have h := o_t hc21 h
    refine G_aload_n (g_da dt_M_errorOf 59 rfl) rfl rfl ?_
    refine G_getR (g_da dt_M_errorOf 60 rfl) sh_49 fl_15_47 rfl ?_
    refine G_iconst (g_da dt_M_errorOf 61 rfl) ?_
    refine H_iaload (g_da dt_M_errorOf 62 rfl) sh_62 (hJm 62 rfl) w_0 ⟨by decide, by decide⟩ rfl ?_
    refine G_aload_n (g_da dt_M_errorOf 63 rfl) rfl rfl ?_
    refine G_iconst (g_da dt_M_errorOf 64 rfl) ?_
    obtain ⟨r90, s91, hc92, h⟩ := o_b h
    refine H_cVE (M_number_ok hJm hc92) (g_da dt_M_errorOf 65 rfl) lk_15_185 mv_M_number rfl sh_49 rfl rfl rfl rfl rfl rfl ?_
    obtain ⟨r93, s94, hc95, h⟩ := o_b h
    refine H_cSF (M_sixteenth_ok hc95) (g_da dt_M_errorOf 66 rfl) lk_15_181 ms_M_sixteenth rfl rfl rfl rfl rfl rfl ?_
    refine G_sipush (g_da dt_M_errorOf 67 rfl) s16w_4096 ?_
    obtain ⟨r96, s97, hc98, h⟩ := o_b h
    refine H_cSE (M_isFar_ok hc98) (g_da dt_M_errorOf 68 rfl) lk_15_193 ms_M_isFar rfl rfl rfl rfl rfl rfl ?_
    refine G_if_ne (g_da dt_M_errorOf 69 rfl) rfl rfl  (fun hc99 => ?_) (fun hc99 => ?_)
    · have h := o_f hc99 h
      exact G_subK (M_errorOf_153_ok hJm h) ⟨rfl, ⟨rfl, trivial⟩⟩
    · have h := o_t hc99 h
      refine G_aload_n (g_da dt_M_errorOf 70 rfl) rfl rfl ?_
      refine G_getR (g_da dt_M_errorOf 71 rfl) sh_49 fl_15_47 rfl ?_
      refine G_iconst (g_da dt_M_errorOf 72 rfl) ?_
      refine H_iaload (g_da dt_M_errorOf 73 rfl) sh_62 (hJm 62 rfl) w_1 ⟨by decide, by decide⟩ rfl ?_
      refine G_aload_n (g_da dt_M_errorOf 74 rfl) rfl rfl ?_
      refine G_iconst (g_da dt_M_errorOf 75 rfl) ?_
      obtain ⟨r100, s101, hc102, h⟩ := o_b h
      refine H_cVE (M_number_ok hJm hc102) (g_da dt_M_errorOf 76 rfl) lk_15_185 mv_M_number rfl sh_49 rfl rfl rfl rfl rfl rfl ?_
      obtain ⟨r103, s104, hc105, h⟩ := o_b h
      refine H_cSF (M_sixteenth_ok hc105) (g_da dt_M_errorOf 77 rfl) lk_15_181 ms_M_sixteenth rfl rfl rfl rfl rfl rfl ?_
      refine G_sipush (g_da dt_M_errorOf 78 rfl) s16w_4096 ?_
      obtain ⟨r106, s107, hc108, h⟩ := o_b h
      refine H_cSE (M_isFar_ok hc108) (g_da dt_M_errorOf 79 rfl) lk_15_193 ms_M_isFar rfl rfl rfl rfl rfl rfl ?_
      refine G_if_eq (g_da dt_M_errorOf 80 rfl) rfl rfl  (fun hc109 => ?_) (fun hc109 => ?_)
      · have h := o_t hc109 h
        refine G_iconst (g_da dt_M_errorOf 83 rfl) ?_
        exact G_subK (M_errorOf_158_ok hJm h) ⟨rfl, ⟨rfl, trivial⟩⟩
      · have h := o_f hc109 h
        exact G_subK (M_errorOf_153_ok hJm h) ⟨rfl, ⟨rfl, trivial⟩⟩
set_option maxHeartbeats 4000000 in
set_option maxRecDepth 100000 in
theorem M_errorOf_100_ok {J : gS → gS} (hJm : g_jm J) {z0 : Int} {s0 : gS}  {l1 t0 : Int} {s : gS} (h : M_errorOf_100 l1 t0 s = some (z0, s0)) : G M_M_errorOf (QE g_S J z0 s0) (g_S, 0, 0) (J s) 100 [some (.ref 49), some (gi l1), none, none] [gi t0] := by
  unfold M_errorOf_100 at h
  refine G_istore_n (lv' := [_, _, none, _]) (g_da dt_M_errorOf 55 rfl) rfl (Nat.le_of_ble_eq_true rfl) rfl rfl ?_
  exact G_subK (M_errorOf_101_ok hJm h) ⟨rfl, ⟨rfl, ⟨rfl, trivial⟩⟩⟩
set_option maxHeartbeats 4000000 in
set_option maxRecDepth 100000 in
theorem M_errorOf_87_ok {J : gS → gS} (hJm : g_jm J) {z0 : Int} {s0 : gS}  {l1 l2 : Int} {s : gS} (h : M_errorOf_87 l1 l2 s = some (z0, s0)) : G M_M_errorOf (QE g_S J z0 s0) (g_S, 0, 0) (J s) 87 [some (.ref 49), some (gi l1), some (gi l2), none] [] := by
  unfold M_errorOf_87 at h
  refine G_aload_n (g_da dt_M_errorOf 48 rfl) rfl rfl ?_
  refine G_iload_n (g_da dt_M_errorOf 49 rfl) rfl rfl ?_
  obtain ⟨r17, s18, hc19, h⟩ := o_b h
  refine H_cVE (M_isNear_ok hJm hc19) (g_da dt_M_errorOf 50 rfl) lk_15_214 mv_M_isNear rfl sh_49 rfl rfl rfl rfl rfl rfl ?_
  refine G_if_ne (g_da dt_M_errorOf 51 rfl) rfl rfl  (fun hc20 => ?_) (fun hc20 => ?_)
  · have h := o_f hc20 h
    refine G_iconst (g_da dt_M_errorOf 54 rfl) ?_
    exact G_subK (M_errorOf_100_ok hJm h) ⟨rfl, ⟨rfl, trivial⟩⟩
  · have h := o_t hc20 h
    refine G_iconst (g_da dt_M_errorOf 52 rfl) ?_
    refine G_goto (g_da dt_M_errorOf 53 rfl) rfl ?_
    exact G_subK (M_errorOf_100_ok hJm h) ⟨rfl, ⟨rfl, trivial⟩⟩
set_option maxHeartbeats 4000000 in
set_option maxRecDepth 100000 in
theorem M_errorOf_63_ok {J : gS → gS} (hJm : g_jm J) {z0 : Int} {s0 : gS}  {l1 l2 l3 : Int} {s : gS} (h : M_errorOf_63 l1 l2 l3 s = some (z0, s0)) : G M_M_errorOf (QE g_S J z0 s0) (g_S, 0, 0) (J s) 63 [some (.ref 49), some (gi l1), some (gi l2), some (gi l3)] [] := by
  unfold M_errorOf_63 at h
  refine G_iload_n (g_da dt_M_errorOf 36 rfl) rfl rfl ?_
  refine G_bipush (g_da dt_M_errorOf 37 rfl) b8w_77 ?_
  refine G_icmp_eq (g_da dt_M_errorOf 38 rfl) rfl rfl w_77 (fun hc16 => ?_) (fun hc16 => ?_)
  · have h := o_t hc16 h
    exact G_subK (M_errorOf_87_ok hJm h) ⟨rfl, ⟨rfl, ⟨rfl, trivial⟩⟩⟩
  · have h := o_f hc16 h
    refine G_iload_n (g_da dt_M_errorOf 39 rfl) rfl rfl ?_
    refine G_bipush (g_da dt_M_errorOf 40 rfl) b8w_76 ?_
    refine G_icmp_eq (g_da dt_M_errorOf 41 rfl) rfl rfl w_76 (fun hc110 => ?_) (fun hc110 => ?_)
    · have h := o_t hc110 h
      exact G_subK (M_errorOf_87_ok hJm h) ⟨rfl, ⟨rfl, ⟨rfl, trivial⟩⟩⟩
    · have h := o_f hc110 h
      refine G_iload_n (g_da dt_M_errorOf 42 rfl) rfl rfl ?_
      refine G_bipush (g_da dt_M_errorOf 43 rfl) b8w_67 ?_
      refine G_icmp_eq (g_da dt_M_errorOf 44 rfl) rfl rfl w_67 (fun hc111 => ?_) (fun hc111 => ?_)
      · have h := o_t hc111 h
        exact G_subK (M_errorOf_87_ok hJm h) ⟨rfl, ⟨rfl, ⟨rfl, trivial⟩⟩⟩
      · have h := o_f hc111 h
        refine G_iload_n (g_da dt_M_errorOf 45 rfl) rfl rfl ?_
        refine G_bipush (g_da dt_M_errorOf 46 rfl) b8w_84 ?_
        refine G_icmp_ne (g_da dt_M_errorOf 47 rfl) rfl rfl w_84 (fun hc112 => ?_) (fun hc112 => ?_)
        · have h := o_f hc112 h
          exact G_subK (M_errorOf_101_ok hJm h) ⟨rfl, ⟨rfl, ⟨rfl, trivial⟩⟩⟩
        · have h := o_t hc112 h
          exact G_subK (M_errorOf_87_ok hJm h) ⟨rfl, ⟨rfl, ⟨rfl, trivial⟩⟩⟩
set_option maxHeartbeats 4000000 in
set_option maxRecDepth 100000 in
theorem M_errorOf_52_ok {J : gS → gS} (hJm : g_jm J) {z0 : Int} {s0 : gS}  {l1 l2 : Int} {s : gS} (h : M_errorOf_52 l1 l2 s = some (z0, s0)) : G M_M_errorOf (QE g_S J z0 s0) (g_S, 0, 0) (J s) 52 [some (.ref 49), some (gi l1), some (gi l2), none] [] := by
  unfold M_errorOf_52 at h
  refine G_aload_n (g_da dt_M_errorOf 30 rfl) rfl rfl ?_
  refine G_iload_n (g_da dt_M_errorOf 31 rfl) rfl rfl ?_
  obtain ⟨r10, s11, hc12, h⟩ := o_b h
  refine H_cVF (M_result_ok hJm hc12) (g_da dt_M_errorOf 32 rfl) lk_15_210 mv_M_result rfl sh_49 rfl rfl rfl rfl rfl rfl ?_
  refine G_ldc (z := 1000000) (g_da dt_M_errorOf 33 rfl) cn_15_213 rfl ?_
  obtain ⟨r13, s14, hc15, h⟩ := o_b h
  refine H_cSE (M_isFar_ok hc15) (g_da dt_M_errorOf 34 rfl) lk_15_193 ms_M_isFar rfl rfl rfl rfl rfl rfl ?_
  refine G_istore_n (lv' := [_, _, _, _]) (g_da dt_M_errorOf 35 rfl) rfl (Nat.le_of_ble_eq_true rfl) rfl rfl ?_
  exact G_subK (M_errorOf_63_ok hJm h) ⟨rfl, ⟨rfl, ⟨rfl, ⟨rfl, trivial⟩⟩⟩⟩
set_option maxHeartbeats 4000000 in
set_option maxRecDepth 100000 in
theorem M_errorOf_ok {J : gS → gS} (hJm : g_jm J) {z0 : Int} {s0 : gS} {a1 : Int} {s : gS} (h : M_errorOf a1 s = some (z0, s0)) : Ct M_M_errorOf g_S [.ref 49, gi a1] (J s) (QE g_S J z0 s0) := by
  refine Ct_of [some (.ref 49), some (gi a1), none, none] (plainFor_of_name (by decide)) rfl (Nat.le_of_ble_eq_true rfl) rfl (by decide) q_rE ?_
  unfold M_errorOf at h
  refine G_iload_n (g_da dt_M_errorOf 0 rfl) rfl rfl ?_
  obtain ⟨r1, s2, hc3, h⟩ := o_b h
  refine H_cSE (M_needs_ok hc3) (g_da dt_M_errorOf 1 rfl) lk_15_103 ms_M_needs rfl rfl rfl rfl rfl rfl ?_
  refine G_istore_n (lv' := [_, _, _, none]) (g_da dt_M_errorOf 2 rfl) rfl (Nat.le_of_ble_eq_true rfl) rfl rfl ?_
  refine G_aload_n (g_da dt_M_errorOf 3 rfl) rfl rfl ?_
  refine H_getI (g_da dt_M_errorOf 4 rfl) sh_49 fl_15_145 rfl (hJm 49 rfl) ?_
  refine G_iload_n (g_da dt_M_errorOf 5 rfl) rfl rfl ?_
  refine G_icmp_ge (g_da dt_M_errorOf 6 rfl) rfl rfl rfl (fun hc4 => ?_) (fun hc4 => ?_)
  · have h := o_t hc4 h
    refine G_aload_n (g_da dt_M_errorOf 9 rfl) rfl rfl ?_
    refine G_iload_n (g_da dt_M_errorOf 10 rfl) rfl rfl ?_
    refine G_iload_n (g_da dt_M_errorOf 11 rfl) rfl rfl ?_
    obtain ⟨r5, s6, hc7, h⟩ := o_b h
    refine H_cVE (M_isKind_ok hJm hc7) (g_da dt_M_errorOf 12 rfl) lk_15_206 mv_M_isKind rfl sh_49 rfl rfl rfl rfl rfl rfl ?_
    refine G_if_ne (g_da dt_M_errorOf 13 rfl) rfl rfl  (fun hc8 => ?_) (fun hc8 => ?_)
    · have h := o_f hc8 h
      refine G_iconst (g_da dt_M_errorOf 16 rfl) ?_
      refine G_istore_n (lv' := [_, _, _, _]) (g_da dt_M_errorOf 17 rfl) rfl (Nat.le_of_ble_eq_true rfl) rfl rfl ?_
      refine G_iload_n (g_da dt_M_errorOf 18 rfl) rfl rfl ?_
      refine G_bipush (g_da dt_M_errorOf 19 rfl) b8w_43 ?_
      refine G_icmp_eq (g_da dt_M_errorOf 20 rfl) rfl rfl w_43 (fun hc9 => ?_) (fun hc9 => ?_)
      · have h := o_t hc9 h
        exact G_subK (M_errorOf_52_ok hJm h) ⟨rfl, ⟨rfl, ⟨rfl, trivial⟩⟩⟩
      · have h := o_f hc9 h
        refine G_iload_n (g_da dt_M_errorOf 21 rfl) rfl rfl ?_
        refine G_bipush (g_da dt_M_errorOf 22 rfl) b8w_45 ?_
        refine G_icmp_eq (g_da dt_M_errorOf 23 rfl) rfl rfl w_45 (fun hc113 => ?_) (fun hc113 => ?_)
        · have h := o_t hc113 h
          exact G_subK (M_errorOf_52_ok hJm h) ⟨rfl, ⟨rfl, ⟨rfl, trivial⟩⟩⟩
        · have h := o_f hc113 h
          refine G_iload_n (g_da dt_M_errorOf 24 rfl) rfl rfl ?_
          refine G_bipush (g_da dt_M_errorOf 25 rfl) b8w_42 ?_
          refine G_icmp_eq (g_da dt_M_errorOf 26 rfl) rfl rfl w_42 (fun hc114 => ?_) (fun hc114 => ?_)
          · have h := o_t hc114 h
            exact G_subK (M_errorOf_52_ok hJm h) ⟨rfl, ⟨rfl, ⟨rfl, trivial⟩⟩⟩
          · have h := o_f hc114 h
            refine G_iload_n (g_da dt_M_errorOf 27 rfl) rfl rfl ?_
            refine G_bipush (g_da dt_M_errorOf 28 rfl) b8w_47 ?_
            refine G_icmp_ne (g_da dt_M_errorOf 29 rfl) rfl rfl w_47 (fun hc115 => ?_) (fun hc115 => ?_)
            · have h := o_f hc115 h
              exact G_subK (M_errorOf_63_ok hJm h) ⟨rfl, ⟨rfl, ⟨rfl, ⟨rfl, trivial⟩⟩⟩⟩
            · have h := o_t hc115 h
              exact G_subK (M_errorOf_52_ok hJm h) ⟨rfl, ⟨rfl, ⟨rfl, trivial⟩⟩⟩
    · have h := o_t hc8 h
      refine G_iconst (g_da dt_M_errorOf 14 rfl) ?_
      exact G_ireturn (g_da dt_M_errorOf 15 rfl) rfl rfl rfl (g_nz rfl) (q_e h)
  · have h := o_f hc4 h
    refine G_iconst (g_da dt_M_errorOf 7 rfl) ?_
    exact G_ireturn (g_da dt_M_errorOf 8 rfl) rfl rfl rfl (g_nz rfl) (q_e h)
set_option maxHeartbeats 4000000 in
set_option maxRecDepth 100000 in
theorem M_faultOf_118_ok {J : gS → gS} (hJm : g_jm J) {z0 : Int} {s0 : gS} {k118 : Int → Int → Int → Int → gS → gA} {k162 : Int → Int → gS → gA} (hk118 : ∀ (l1 l2 l3 l4 : Int) (s : gS), k118 l1 l2 l3 l4 s = some (z0, s0) → G M_M_faultOf (QE g_S J z0 s0) (g_S, 0, 0) (J s) 118 [some (.ref 49), some (gi l1), some (gi l2), some (gi l3), some (gi l4)] []) (hk162 : ∀ (l1 l2 : Int) (s : gS), k162 l1 l2 s = some (z0, s0) → G M_M_faultOf (QE g_S J z0 s0) (g_S, 0, 0) (J s) 162 [some (.ref 49), some (gi l1), some (gi l2), none, none] [])  {l1 l2 l3 l4 : Int} {s : gS} (h : M_faultOf_118 k118 k162 l1 l2 l3 l4 s = some (z0, s0)) : G M_M_faultOf (QE g_S J z0 s0) (g_S, 0, 0) (J s) 118 [some (.ref 49), some (gi l1), some (gi l2), some (gi l3), some (gi l4)] [] := by
  unfold M_faultOf_118 at h
  refine G_iload_n (g_da dt_M_faultOf 66 rfl) rfl rfl ?_
  obtain ⟨r17, s18, hc19, h⟩ := o_b h
  refine H_cSE (M_isDigit_ok hc19) (g_da dt_M_faultOf 67 rfl) lk_15_96 ms_M_isDigit rfl rfl rfl rfl rfl rfl ?_
  refine G_if_eq (g_da dt_M_faultOf 68 rfl) rfl rfl  (fun hc20 => ?_) (fun hc20 => ?_)
  · have h := o_t hc20 h
    exact G_subK (hk162 _ _ _ h) ⟨rfl, ⟨rfl, ⟨rfl, trivial⟩⟩⟩
  · have h := o_f hc20 h
    refine G_iload_n (g_da dt_M_faultOf 69 rfl) rfl rfl ?_
    refine G_iconst (g_da dt_M_faultOf 70 rfl) ?_
    refine G_iadd (g_da dt_M_faultOf 71 rfl) ?_
    refine G_aload_n (g_da dt_M_faultOf 72 rfl) rfl rfl ?_
    refine H_getI (g_da dt_M_faultOf 73 rfl) sh_49 fl_15_87 rfl (hJm 49 rfl) ?_
    refine G_icmp_ge (g_da dt_M_faultOf 74 rfl) rfl rfl rfl (fun hc21 => ?_) (fun hc21 => ?_)
    · have h := o_t hc21 h
      exact G_subK (hk162 _ _ _ h) ⟨rfl, ⟨rfl, ⟨rfl, trivial⟩⟩⟩
    · have h := o_f hc21 h
      refine G_aload_n (g_da dt_M_faultOf 75 rfl) rfl rfl ?_
      refine G_getR (g_da dt_M_faultOf 76 rfl) sh_49 fl_15_7 rfl ?_
      refine G_iload_n (g_da dt_M_faultOf 77 rfl) rfl rfl ?_
      refine G_iconst (g_da dt_M_faultOf 78 rfl) ?_
      refine G_iadd (g_da dt_M_faultOf 79 rfl) ?_
      obtain ⟨hb22, h⟩ := o_g h
      refine H_iaload (g_da dt_M_faultOf 80 rfl) sh_50 (hJm 50 rfl) rfl hb22 rfl ?_
      obtain ⟨r23, s24, hc25, h⟩ := o_b h
      refine H_cSE (M_isDigit_ok hc25) (g_da dt_M_faultOf 81 rfl) lk_15_96 ms_M_isDigit rfl rfl rfl rfl rfl rfl ?_
      refine G_if_eq (g_da dt_M_faultOf 82 rfl) rfl rfl  (fun hc26 => ?_) (fun hc26 => ?_)
      · have h := o_t hc26 h
        exact G_subK (hk162 _ _ _ h) ⟨rfl, ⟨rfl, ⟨rfl, trivial⟩⟩⟩
      · have h := o_f hc26 h
        refine G_iinc (lv' := [_, _, _, _, _]) (g_da dt_M_faultOf 83 rfl) rfl (Nat.le_of_ble_eq_true rfl) rfl rfl ?_
        refine G_iload_n (g_da dt_M_faultOf 84 rfl) rfl rfl ?_
        refine G_iload (g_da dt_M_faultOf 85 rfl) rfl ?_
        refine G_iconst (g_da dt_M_faultOf 86 rfl) ?_
        refine G_iadd (g_da dt_M_faultOf 87 rfl) ?_
        refine G_icmp_ne (g_da dt_M_faultOf 88 rfl) rfl rfl rfl (fun hc27 => ?_) (fun hc27 => ?_)
        · have h := o_f hc27 h
          exact G_subK (hk118 _ _ _ _ _ h) ⟨rfl, ⟨rfl, ⟨rfl, ⟨rfl, ⟨rfl, trivial⟩⟩⟩⟩⟩
        · have h := o_t hc27 h
          refine G_iload_n (g_da dt_M_faultOf 89 rfl) rfl rfl ?_
          exact G_ireturn (g_da dt_M_faultOf 90 rfl) rfl rfl rfl (g_nz rfl) (q_e h)
set_option maxHeartbeats 4000000 in
set_option maxRecDepth 100000 in
theorem M_faultOf_118L_ok {J : gS → gS} (hJm : g_jm J) {z0 : Int} {s0 : gS} {k162 : Int → Int → gS → gA} (hk162 : ∀ (l1 l2 : Int) (s : gS), k162 l1 l2 s = some (z0, s0) → G M_M_faultOf (QE g_S J z0 s0) (g_S, 0, 0) (J s) 162 [some (.ref 49), some (gi l1), some (gi l2), none, none] []) : ∀ (n : Nat) {l1 l2 l3 l4 : Int} {s : gS}, M_faultOf_118L k162 n l1 l2 l3 l4 s = some (z0, s0) → G M_M_faultOf (QE g_S J z0 s0) (g_S, 0, 0) (J s) 118 [some (.ref 49), some (gi l1), some (gi l2), some (gi l3), some (gi l4)] [] := by
  intro n
  induction n with
  | zero => intro _ _ _ _ _ h; cases h
  | succ n ih => intro _ _ _ _ _ h; exact M_faultOf_118_ok hJm (fun _ _ _ _ _ h => ih h) hk162 h
set_option maxHeartbeats 4000000 in
set_option maxRecDepth 100000 in
theorem M_faultOf_162_ok {J : gS → gS} (hJm : g_jm J) {z0 : Int} {s0 : gS} {k4 : Int → Int → gS → gA} (hk4 : ∀ (l1 l2 : Int) (s : gS), k4 l1 l2 s = some (z0, s0) → G M_M_faultOf (QE g_S J z0 s0) (g_S, 0, 0) (J s) 4 [some (.ref 49), some (gi l1), some (gi l2), none, none] [])  {l1 l2 : Int} {s : gS} (h : M_faultOf_162 k4 l1 l2 s = some (z0, s0)) : G M_M_faultOf (QE g_S J z0 s0) (g_S, 0, 0) (J s) 162 [some (.ref 49), some (gi l1), some (gi l2), none, none] [] := by
  unfold M_faultOf_162 at h
  refine G_iinc (lv' := [_, _, _, none, none]) (g_da dt_M_faultOf 91 rfl) rfl (Nat.le_of_ble_eq_true rfl) rfl rfl ?_
  refine G_goto (g_da dt_M_faultOf 92 rfl) rfl ?_
  exact G_subK (hk4 _ _ _ h) ⟨rfl, ⟨rfl, ⟨rfl, trivial⟩⟩⟩
set_option maxHeartbeats 4000000 in
set_option maxRecDepth 100000 in
theorem M_faultOf_115_ok {J : gS → gS} (hJm : g_jm J) {z0 : Int} {s0 : gS} {k4 : Int → Int → gS → gA} (hk4 : ∀ (l1 l2 : Int) (s : gS), k4 l1 l2 s = some (z0, s0) → G M_M_faultOf (QE g_S J z0 s0) (g_S, 0, 0) (J s) 4 [some (.ref 49), some (gi l1), some (gi l2), none, none] [])  {l1 l2 l3 : Int} {s : gS} (h : M_faultOf_115 k4 l1 l2 l3 s = some (z0, s0)) : G M_M_faultOf (QE g_S J z0 s0) (g_S, 0, 0) (J s) 115 [some (.ref 49), some (gi l1), some (gi l2), some (gi l3), none] [] := by
  unfold M_faultOf_115 at h
  refine G_iload_n (g_da dt_M_faultOf 64 rfl) rfl rfl ?_
  refine G_istore (lv' := [_, _, _, _, _]) (g_da dt_M_faultOf 65 rfl) (Nat.le_of_ble_eq_true rfl) rfl rfl ?_
  exact G_subK (M_faultOf_118L_ok hJm (fun _ _ _ h => M_faultOf_162_ok hJm hk4 h) gFu h) ⟨rfl, ⟨rfl, ⟨rfl, ⟨rfl, ⟨rfl, trivial⟩⟩⟩⟩⟩
set_option maxHeartbeats 4000000 in
set_option maxRecDepth 100000 in
theorem M_faultOf_82_ok {J : gS → gS} (hJm : g_jm J) {z0 : Int} {s0 : gS} {k4 : Int → Int → gS → gA} (hk4 : ∀ (l1 l2 : Int) (s : gS), k4 l1 l2 s = some (z0, s0) → G M_M_faultOf (QE g_S J z0 s0) (g_S, 0, 0) (J s) 4 [some (.ref 49), some (gi l1), some (gi l2), none, none] [])  {l2 l3 t0 t1 : Int} {s : gS} (h : M_faultOf_82 k4 l2 l3 t0 t1 s = some (z0, s0)) : G M_M_faultOf (QE g_S J z0 s0) (g_S, 0, 0) (J s) 82 [some (.ref 49), none, some (gi l2), some (gi l3), none] [gi t1, gi t0] := by
  unfold M_faultOf_82 at h
  refine G_iadd (g_da dt_M_faultOf 46 rfl) ?_
  refine H_topi (fun v14 e15 => ?_)
  have h := o_l h v14 e15
  refine G_istore_n (lv' := [_, _, _, _, none]) (g_da dt_M_faultOf 47 rfl) rfl (Nat.le_of_ble_eq_true rfl) rfl rfl ?_
  refine G_iload_n (g_da dt_M_faultOf 48 rfl) rfl rfl ?_
  refine G_bipush (g_da dt_M_faultOf 49 rfl) b8w_58 ?_
  refine G_icmp_ne (g_da dt_M_faultOf 50 rfl) rfl rfl w_58 (fun hc16 => ?_) (fun hc16 => ?_)
  · have h := o_f hc16 h
    exact G_subK (M_faultOf_115_ok hJm hk4 h) ⟨rfl, ⟨rfl, ⟨rfl, ⟨rfl, trivial⟩⟩⟩⟩
  · have h := o_t hc16 h
    refine G_iinc (lv' := [_, _, _, _, none]) (g_da dt_M_faultOf 51 rfl) rfl (Nat.le_of_ble_eq_true rfl) rfl rfl ?_
    refine G_iload_n (g_da dt_M_faultOf 52 rfl) rfl rfl ?_
    refine G_aload_n (g_da dt_M_faultOf 53 rfl) rfl rfl ?_
    refine H_getI (g_da dt_M_faultOf 54 rfl) sh_49 fl_15_87 rfl (hJm 49 rfl) ?_
    refine G_icmp_eq (g_da dt_M_faultOf 55 rfl) rfl rfl rfl (fun hc28 => ?_) (fun hc28 => ?_)
    · have h := o_t hc28 h
      refine G_iload_n (g_da dt_M_faultOf 62 rfl) rfl rfl ?_
      exact G_ireturn (g_da dt_M_faultOf 63 rfl) rfl rfl rfl (g_nz rfl) (q_e h)
    · have h := o_f hc28 h
      refine G_aload_n (g_da dt_M_faultOf 56 rfl) rfl rfl ?_
      refine G_getR (g_da dt_M_faultOf 57 rfl) sh_49 fl_15_7 rfl ?_
      refine G_iload_n (g_da dt_M_faultOf 58 rfl) rfl rfl ?_
      obtain ⟨hb29, h⟩ := o_g h
      refine H_iaload (g_da dt_M_faultOf 59 rfl) sh_50 (hJm 50 rfl) rfl hb29 rfl ?_
      obtain ⟨r30, s31, hc32, h⟩ := o_b h
      refine H_cSE (M_isLetter_ok hc32) (g_da dt_M_faultOf 60 rfl) lk_15_100 ms_M_isLetter rfl rfl rfl rfl rfl rfl ?_
      refine G_if_ne (g_da dt_M_faultOf 61 rfl) rfl rfl  (fun hc33 => ?_) (fun hc33 => ?_)
      · have h := o_f hc33 h
        exact G_subK (M_faultOf_115_ok hJm hk4 h) ⟨rfl, ⟨rfl, ⟨rfl, ⟨rfl, trivial⟩⟩⟩⟩
      · have h := o_t hc33 h
        refine G_iload_n (g_da dt_M_faultOf 62 rfl) rfl rfl ?_
        exact G_ireturn (g_da dt_M_faultOf 63 rfl) rfl rfl rfl (g_nz rfl) (q_e h)
set_option maxHeartbeats 4000000 in
set_option maxRecDepth 100000 in
theorem M_faultOf_60_ok {J : gS → gS} (hJm : g_jm J) {z0 : Int} {s0 : gS} {k4 : Int → Int → gS → gA} (hk4 : ∀ (l1 l2 : Int) (s : gS), k4 l1 l2 s = some (z0, s0) → G M_M_faultOf (QE g_S J z0 s0) (g_S, 0, 0) (J s) 4 [some (.ref 49), some (gi l1), some (gi l2), none, none] [])  {l1 l2 l3 : Int} {s : gS} (h : M_faultOf_60 k4 l1 l2 l3 s = some (z0, s0)) : G M_M_faultOf (QE g_S J z0 s0) (g_S, 0, 0) (J s) 60 [some (.ref 49), some (gi l1), some (gi l2), some (gi l3), none] [] := by
  unfold M_faultOf_60 at h
  refine G_iload_n (g_da dt_M_faultOf 34 rfl) rfl rfl ?_
  refine G_iload_n (g_da dt_M_faultOf 35 rfl) rfl rfl ?_
  refine G_bipush (g_da dt_M_faultOf 36 rfl) b8w_123 ?_
  refine G_icmp_ne (g_da dt_M_faultOf 37 rfl) rfl rfl w_123 (fun hc12 => ?_) (fun hc12 => ?_)
  · have h := o_f hc12 h
    refine G_iload_n (g_da dt_M_faultOf 40 rfl) rfl rfl ?_
    refine G_bipush (g_da dt_M_faultOf 41 rfl) b8w_125 ?_
    refine G_icmp_ne (g_da dt_M_faultOf 42 rfl) rfl rfl w_125 (fun hc13 => ?_) (fun hc13 => ?_)
    · have h := o_f hc13 h
      refine G_iconst (g_da dt_M_faultOf 45 rfl) ?_
      exact G_subK (M_faultOf_82_ok hJm hk4 h) ⟨rfl, ⟨rfl, ⟨rfl, trivial⟩⟩⟩
    · have h := o_t hc13 h
      refine G_iconst (g_da dt_M_faultOf 43 rfl) ?_
      refine G_goto (g_da dt_M_faultOf 44 rfl) rfl ?_
      exact G_subK (M_faultOf_82_ok hJm hk4 h) ⟨rfl, ⟨rfl, ⟨rfl, trivial⟩⟩⟩
  · have h := o_t hc12 h
    refine G_iconst (g_da dt_M_faultOf 38 rfl) ?_
    refine G_goto (g_da dt_M_faultOf 39 rfl) rfl ?_
    exact G_subK (M_faultOf_82_ok hJm hk4 h) ⟨rfl, ⟨rfl, ⟨rfl, trivial⟩⟩⟩
set_option maxHeartbeats 4000000 in
set_option maxRecDepth 100000 in
theorem M_faultOf_46_ok {J : gS → gS} (hJm : g_jm J) {z0 : Int} {s0 : gS} {k4 : Int → Int → gS → gA} (hk4 : ∀ (l1 l2 : Int) (s : gS), k4 l1 l2 s = some (z0, s0) → G M_M_faultOf (QE g_S J z0 s0) (g_S, 0, 0) (J s) 4 [some (.ref 49), some (gi l1), some (gi l2), none, none] [])  {l1 l2 l3 : Int} {s : gS} (h : M_faultOf_46 k4 l1 l2 l3 s = some (z0, s0)) : G M_M_faultOf (QE g_S J z0 s0) (g_S, 0, 0) (J s) 46 [some (.ref 49), some (gi l1), some (gi l2), some (gi l3), none] [] := by
  unfold M_faultOf_46 at h
  refine G_iload_n (g_da dt_M_faultOf 26 rfl) rfl rfl ?_
  refine G_bipush (g_da dt_M_faultOf 27 rfl) b8w_123 ?_
  refine G_icmp_ne (g_da dt_M_faultOf 28 rfl) rfl rfl w_123 (fun hc11 => ?_) (fun hc11 => ?_)
  · have h := o_f hc11 h
    exact G_subK (M_faultOf_60_ok hJm hk4 h) ⟨rfl, ⟨rfl, ⟨rfl, ⟨rfl, trivial⟩⟩⟩⟩
  · have h := o_t hc11 h
    refine G_iload_n (g_da dt_M_faultOf 29 rfl) rfl rfl ?_
    refine G_bipush (g_da dt_M_faultOf 30 rfl) b8w_8 ?_
    refine G_icmp_ne (g_da dt_M_faultOf 31 rfl) rfl rfl w_8 (fun hc34 => ?_) (fun hc34 => ?_)
    · have h := o_f hc34 h
      exact G_subK (M_faultOf_60_ok hJm hk4 h) ⟨rfl, ⟨rfl, ⟨rfl, ⟨rfl, trivial⟩⟩⟩⟩
    · have h := o_t hc34 h
      refine G_iload_n (g_da dt_M_faultOf 32 rfl) rfl rfl ?_
      exact G_ireturn (g_da dt_M_faultOf 33 rfl) rfl rfl rfl (g_nz rfl) (q_e h)
set_option maxHeartbeats 4000000 in
set_option maxRecDepth 100000 in
theorem M_faultOf_4_ok {J : gS → gS} (hJm : g_jm J) {z0 : Int} {s0 : gS} {k4 : Int → Int → gS → gA} {k168 : Int → gS → gA} (hk4 : ∀ (l1 l2 : Int) (s : gS), k4 l1 l2 s = some (z0, s0) → G M_M_faultOf (QE g_S J z0 s0) (g_S, 0, 0) (J s) 4 [some (.ref 49), some (gi l1), some (gi l2), none, none] []) (hk168 : ∀ (l1 : Int) (s : gS), k168 l1 s = some (z0, s0) → G M_M_faultOf (QE g_S J z0 s0) (g_S, 0, 0) (J s) 168 [some (.ref 49), some (gi l1), none, none, none] [])  {l1 l2 : Int} {s : gS} (h : M_faultOf_4 k4 k168 l1 l2 s = some (z0, s0)) : G M_M_faultOf (QE g_S J z0 s0) (g_S, 0, 0) (J s) 4 [some (.ref 49), some (gi l1), some (gi l2), none, none] [] := by
  unfold M_faultOf_4 at h
  refine G_iload_n (g_da dt_M_faultOf 4 rfl) rfl rfl ?_
  refine G_aload_n (g_da dt_M_faultOf 5 rfl) rfl rfl ?_
  refine H_getI (g_da dt_M_faultOf 6 rfl) sh_49 fl_15_87 rfl (hJm 49 rfl) ?_
  refine G_icmp_ge (g_da dt_M_faultOf 7 rfl) rfl rfl rfl (fun hc1 => ?_) (fun hc1 => ?_)
  · have h := o_t hc1 h
    exact G_subK (hk168 _ _ h) ⟨rfl, ⟨rfl, trivial⟩⟩
  · have h := o_f hc1 h
    refine G_aload_n (g_da dt_M_faultOf 8 rfl) rfl rfl ?_
    refine G_getR (g_da dt_M_faultOf 9 rfl) sh_49 fl_15_7 rfl ?_
    refine G_iload_n (g_da dt_M_faultOf 10 rfl) rfl rfl ?_
    obtain ⟨hb2, h⟩ := o_g h
    refine H_iaload (g_da dt_M_faultOf 11 rfl) sh_50 (hJm 50 rfl) rfl hb2 rfl ?_
    refine H_topi (fun v3 e4 => ?_)
    have h := o_l h v3 e4
    refine G_istore_n (lv' := [_, _, _, _, none]) (g_da dt_M_faultOf 12 rfl) rfl (Nat.le_of_ble_eq_true rfl) rfl rfl ?_
    refine G_iload_n (g_da dt_M_faultOf 13 rfl) rfl rfl ?_
    refine G_bipush (g_da dt_M_faultOf 14 rfl) b8w_32 ?_
    refine G_icmp_ne (g_da dt_M_faultOf 15 rfl) rfl rfl w_32 (fun hc5 => ?_) (fun hc5 => ?_)
    · have h := o_f hc5 h
      refine G_iload_n (g_da dt_M_faultOf 17 rfl) rfl rfl ?_
      obtain ⟨r6, s7, hc8, h⟩ := o_b h
      refine H_cSE (M_needs_ok hc8) (g_da dt_M_faultOf 18 rfl) lk_15_103 ms_M_needs rfl rfl rfl rfl rfl rfl ?_
      refine G_iconst (g_da dt_M_faultOf 19 rfl) ?_
      refine G_icmp_eq (g_da dt_M_faultOf 20 rfl) rfl rfl w_m1 (fun hc9 => ?_) (fun hc9 => ?_)
      · have h := o_t hc9 h
        refine G_iload_n (g_da dt_M_faultOf 32 rfl) rfl rfl ?_
        exact G_ireturn (g_da dt_M_faultOf 33 rfl) rfl rfl rfl (g_nz rfl) (q_e h)
      · have h := o_f hc9 h
        refine G_iload_n (g_da dt_M_faultOf 21 rfl) rfl rfl ?_
        refine G_bipush (g_da dt_M_faultOf 22 rfl) b8w_125 ?_
        refine G_icmp_ne (g_da dt_M_faultOf 23 rfl) rfl rfl w_125 (fun hc10 => ?_) (fun hc10 => ?_)
        · have h := o_f hc10 h
          exact G_subK (M_faultOf_46_ok hJm hk4 h) ⟨rfl, ⟨rfl, ⟨rfl, ⟨rfl, trivial⟩⟩⟩⟩
        · have h := o_t hc10 h
          refine G_iload_n (g_da dt_M_faultOf 24 rfl) rfl rfl ?_
          refine G_if_eq (g_da dt_M_faultOf 25 rfl) rfl rfl  (fun hc35 => ?_) (fun hc35 => ?_)
          · have h := o_t hc35 h
            refine G_iload_n (g_da dt_M_faultOf 32 rfl) rfl rfl ?_
            exact G_ireturn (g_da dt_M_faultOf 33 rfl) rfl rfl rfl (g_nz rfl) (q_e h)
          · have h := o_f hc35 h
            exact G_subK (M_faultOf_46_ok hJm hk4 h) ⟨rfl, ⟨rfl, ⟨rfl, ⟨rfl, trivial⟩⟩⟩⟩
    · have h := o_t hc5 h
      refine G_goto (g_da dt_M_faultOf 16 rfl) rfl ?_
      exact G_subK (M_faultOf_162_ok hJm hk4 h) ⟨rfl, ⟨rfl, ⟨rfl, trivial⟩⟩⟩
set_option maxHeartbeats 4000000 in
set_option maxRecDepth 100000 in
theorem M_faultOf_4L_ok {J : gS → gS} (hJm : g_jm J) {z0 : Int} {s0 : gS} {k168 : Int → gS → gA} (hk168 : ∀ (l1 : Int) (s : gS), k168 l1 s = some (z0, s0) → G M_M_faultOf (QE g_S J z0 s0) (g_S, 0, 0) (J s) 168 [some (.ref 49), some (gi l1), none, none, none] []) : ∀ (n : Nat) {l1 l2 : Int} {s : gS}, M_faultOf_4L k168 n l1 l2 s = some (z0, s0) → G M_M_faultOf (QE g_S J z0 s0) (g_S, 0, 0) (J s) 4 [some (.ref 49), some (gi l1), some (gi l2), none, none] [] := by
  intro n
  induction n with
  | zero => intro _ _ _ h; cases h
  | succ n ih => intro _ _ _ h; exact M_faultOf_4_ok hJm (fun _ _ _ h => ih h) hk168 h
set_option maxHeartbeats 4000000 in
set_option maxRecDepth 100000 in
theorem M_faultOf_168_ok {J : gS → gS} (hJm : g_jm J) {z0 : Int} {s0 : gS}  {l1 : Int} {s : gS} (h : M_faultOf_168 l1 s = some (z0, s0)) : G M_M_faultOf (QE g_S J z0 s0) (g_S, 0, 0) (J s) 168 [some (.ref 49), some (gi l1), none, none, none] [] := by
  unfold M_faultOf_168 at h
  refine G_iload_n (g_da dt_M_faultOf 93 rfl) rfl rfl ?_
  refine G_if_le (g_da dt_M_faultOf 94 rfl) rfl rfl  (fun hc36 => ?_) (fun hc36 => ?_)
  · have h := o_t hc36 h
    refine G_iconst (g_da dt_M_faultOf 98 rfl) ?_
    exact G_ireturn (g_da dt_M_faultOf 99 rfl) rfl rfl rfl (g_nz rfl) (q_e h)
  · have h := o_f hc36 h
    refine G_aload_n (g_da dt_M_faultOf 95 rfl) rfl rfl ?_
    refine H_getI (g_da dt_M_faultOf 96 rfl) sh_49 fl_15_87 rfl (hJm 49 rfl) ?_
    refine G_goto (g_da dt_M_faultOf 97 rfl) rfl ?_
    exact G_ireturn (g_da dt_M_faultOf 99 rfl) rfl rfl rfl (g_nz rfl) (q_e h)
set_option maxHeartbeats 4000000 in
set_option maxRecDepth 100000 in
theorem M_faultOf_ok {J : gS → gS} (hJm : g_jm J) {z0 : Int} {s0 : gS} {s : gS} (h : M_faultOf s = some (z0, s0)) : Ct M_M_faultOf g_S [.ref 49] (J s) (QE g_S J z0 s0) := by
  refine Ct_of [some (.ref 49), none, none, none, none] (plainFor_of_name (by decide)) rfl (Nat.le_of_ble_eq_true rfl) rfl (by decide) q_rE ?_
  unfold M_faultOf at h
  refine G_iconst (g_da dt_M_faultOf 0 rfl) ?_
  refine G_istore_n (lv' := [_, _, none, none, none]) (g_da dt_M_faultOf 1 rfl) rfl (Nat.le_of_ble_eq_true rfl) rfl rfl ?_
  refine G_iconst (g_da dt_M_faultOf 2 rfl) ?_
  refine G_istore_n (lv' := [_, _, _, none, none]) (g_da dt_M_faultOf 3 rfl) rfl (Nat.le_of_ble_eq_true rfl) rfl rfl ?_
  exact G_subK (M_faultOf_4L_ok hJm (fun _ _ h => M_faultOf_168_ok hJm h) gFu h) ⟨rfl, ⟨rfl, ⟨rfl, trivial⟩⟩⟩
set_option maxHeartbeats 4000000 in
set_option maxRecDepth 100000 in
theorem M_toMake_51_ok {J : gS → gS} (hJm : g_jm J) {z0 : Int} {s0 : gS} {k27 : Int → Int → Int → gS → gA} (hk27 : ∀ (l1 l2 l3 : Int) (s : gS), k27 l1 l2 l3 s = some (z0, s0) → G M_M_toMake (QE g_S J z0 s0) (g_S, 0, 0) (J s) 27 [some (.ref 49), some (gi l1), some (gi l2), some (gi l3)] [])  {l1 l3 t0 : Int} {s : gS} (h : M_toMake_51 k27 l1 l3 t0 s = some (z0, s0)) : G M_M_toMake (QE g_S J z0 s0) (g_S, 0, 0) (J s) 51 [some (.ref 49), some (gi l1), none, some (gi l3)] [gi t0] := by
  unfold M_toMake_51 at h
  refine G_istore_n (lv' := [_, _, _, _]) (g_da dt_M_toMake 31 rfl) rfl (Nat.le_of_ble_eq_true rfl) rfl rfl ?_
  refine G_iinc (lv' := [_, _, _, _]) (g_da dt_M_toMake 32 rfl) rfl (Nat.le_of_ble_eq_true rfl) rfl rfl ?_
  refine G_goto (g_da dt_M_toMake 33 rfl) rfl ?_
  exact G_subK (hk27 _ _ _ _ h) ⟨rfl, ⟨rfl, ⟨rfl, ⟨rfl, trivial⟩⟩⟩⟩
set_option maxHeartbeats 4000000 in
set_option maxRecDepth 100000 in
theorem M_toMake_50_ok {J : gS → gS} (hJm : g_jm J) {z0 : Int} {s0 : gS} {k27 : Int → Int → Int → gS → gA} (hk27 : ∀ (l1 l2 l3 : Int) (s : gS), k27 l1 l2 l3 s = some (z0, s0) → G M_M_toMake (QE g_S J z0 s0) (g_S, 0, 0) (J s) 27 [some (.ref 49), some (gi l1), some (gi l2), some (gi l3)] [])  {l1 l3 : Int} {s : gS} (h : M_toMake_50 k27 l1 l3 s = some (z0, s0)) : G M_M_toMake (QE g_S J z0 s0) (g_S, 0, 0) (J s) 50 [some (.ref 49), some (gi l1), none, some (gi l3)] [] := by
  unfold M_toMake_50 at h
  refine G_iconst (g_da dt_M_toMake 30 rfl) ?_
  exact G_subK (M_toMake_51_ok hJm hk27 h) ⟨rfl, ⟨rfl, ⟨rfl, trivial⟩⟩⟩
set_option maxHeartbeats 4000000 in
set_option maxRecDepth 100000 in
theorem M_toMake_27_ok {J : gS → gS} (hJm : g_jm J) {z0 : Int} {s0 : gS} {k27 : Int → Int → Int → gS → gA} {k58 : Int → Int → gS → gA} (hk27 : ∀ (l1 l2 l3 : Int) (s : gS), k27 l1 l2 l3 s = some (z0, s0) → G M_M_toMake (QE g_S J z0 s0) (g_S, 0, 0) (J s) 27 [some (.ref 49), some (gi l1), some (gi l2), some (gi l3)] []) (hk58 : ∀ (l1 l2 : Int) (s : gS), k58 l1 l2 s = some (z0, s0) → G M_M_toMake (QE g_S J z0 s0) (g_S, 0, 0) (J s) 58 [some (.ref 49), some (gi l1), some (gi l2), none] [])  {l1 l2 l3 : Int} {s : gS} (h : M_toMake_27 k27 k58 l1 l2 l3 s = some (z0, s0)) : G M_M_toMake (QE g_S J z0 s0) (g_S, 0, 0) (J s) 27 [some (.ref 49), some (gi l1), some (gi l2), some (gi l3)] [] := by
  unfold M_toMake_27 at h
  refine G_iload_n (g_da dt_M_toMake 17 rfl) rfl rfl ?_
  refine G_iconst (g_da dt_M_toMake 18 rfl) ?_
  refine G_icmp_ge (g_da dt_M_toMake 19 rfl) rfl rfl w_4 (fun hc4 => ?_) (fun hc4 => ?_)
  · have h := o_t hc4 h
    exact G_subK (hk58 _ _ _ h) ⟨rfl, ⟨rfl, ⟨rfl, trivial⟩⟩⟩
  · have h := o_f hc4 h
    refine G_iload_n (g_da dt_M_toMake 20 rfl) rfl rfl ?_
    refine G_if_eq (g_da dt_M_toMake 21 rfl) rfl rfl  (fun hc5 => ?_) (fun hc5 => ?_)
    · have h := o_t hc5 h
      exact G_subK (M_toMake_50_ok hJm hk27 h) ⟨rfl, ⟨rfl, ⟨rfl, trivial⟩⟩⟩
    · have h := o_f hc5 h
      refine G_aload_n (g_da dt_M_toMake 22 rfl) rfl rfl ?_
      refine G_getR (g_da dt_M_toMake 23 rfl) sh_49 fl_15_62 rfl ?_
      refine G_iload_n (g_da dt_M_toMake 24 rfl) rfl rfl ?_
      obtain ⟨hb6, h⟩ := o_g h
      refine H_iaload (g_da dt_M_toMake 25 rfl) sh_67 (hJm 67 rfl) rfl hb6 rfl ?_
      refine G_iload_n (g_da dt_M_toMake 26 rfl) rfl rfl ?_
      refine G_icmp_eq (g_da dt_M_toMake 27 rfl) rfl rfl rfl (fun hc7 => ?_) (fun hc7 => ?_)
      · have h := o_t hc7 h
        exact G_subK (M_toMake_50_ok hJm hk27 h) ⟨rfl, ⟨rfl, ⟨rfl, trivial⟩⟩⟩
      · have h := o_f hc7 h
        refine G_iconst (g_da dt_M_toMake 28 rfl) ?_
        refine G_goto (g_da dt_M_toMake 29 rfl) rfl ?_
        exact G_subK (M_toMake_51_ok hJm hk27 h) ⟨rfl, ⟨rfl, ⟨rfl, trivial⟩⟩⟩
set_option maxHeartbeats 4000000 in
set_option maxRecDepth 100000 in
theorem M_toMake_27L_ok {J : gS → gS} (hJm : g_jm J) {z0 : Int} {s0 : gS} {k58 : Int → Int → gS → gA} (hk58 : ∀ (l1 l2 : Int) (s : gS), k58 l1 l2 s = some (z0, s0) → G M_M_toMake (QE g_S J z0 s0) (g_S, 0, 0) (J s) 58 [some (.ref 49), some (gi l1), some (gi l2), none] []) : ∀ (n : Nat) {l1 l2 l3 : Int} {s : gS}, M_toMake_27L k58 n l1 l2 l3 s = some (z0, s0) → G M_M_toMake (QE g_S J z0 s0) (g_S, 0, 0) (J s) 27 [some (.ref 49), some (gi l1), some (gi l2), some (gi l3)] [] := by
  intro n
  induction n with
  | zero => intro _ _ _ _ h; cases h
  | succ n ih => intro _ _ _ _ h; exact M_toMake_27_ok hJm (fun _ _ _ _ h => ih h) hk58 h
set_option maxHeartbeats 4000000 in
set_option maxRecDepth 100000 in
theorem M_toMake_58_ok {J : gS → gS} (hJm : g_jm J) {z0 : Int} {s0 : gS} {k2 : Int → gS → gA} (hk2 : ∀ (l1 : Int) (s : gS), k2 l1 s = some (z0, s0) → G M_M_toMake (QE g_S J z0 s0) (g_S, 0, 0) (J s) 2 [some (.ref 49), some (gi l1), none, none] [])  {l1 l2 : Int} {s : gS} (h : M_toMake_58 k2 l1 l2 s = some (z0, s0)) : G M_M_toMake (QE g_S J z0 s0) (g_S, 0, 0) (J s) 58 [some (.ref 49), some (gi l1), some (gi l2), none] [] := by
  unfold M_toMake_58 at h
  refine G_iload_n (g_da dt_M_toMake 34 rfl) rfl rfl ?_
  refine G_if_eq (g_da dt_M_toMake 35 rfl) rfl rfl  (fun hc8 => ?_) (fun hc8 => ?_)
  · have h := o_t hc8 h
    refine G_iinc (lv' := [_, _, _, none]) (g_da dt_M_toMake 38 rfl) rfl (Nat.le_of_ble_eq_true rfl) rfl rfl ?_
    refine G_goto (g_da dt_M_toMake 39 rfl) rfl ?_
    exact G_subK (hk2 _ _ h) ⟨rfl, ⟨rfl, trivial⟩⟩
  · have h := o_f hc8 h
    refine G_iload_n (g_da dt_M_toMake 36 rfl) rfl rfl ?_
    exact G_ireturn (g_da dt_M_toMake 37 rfl) rfl rfl rfl (g_nz rfl) (q_e h)
set_option maxHeartbeats 4000000 in
set_option maxRecDepth 100000 in
theorem M_toMake_24_ok {J : gS → gS} (hJm : g_jm J) {z0 : Int} {s0 : gS} {k2 : Int → gS → gA} (hk2 : ∀ (l1 : Int) (s : gS), k2 l1 s = some (z0, s0) → G M_M_toMake (QE g_S J z0 s0) (g_S, 0, 0) (J s) 2 [some (.ref 49), some (gi l1), none, none] [])  {l1 t0 : Int} {s : gS} (h : M_toMake_24 k2 l1 t0 s = some (z0, s0)) : G M_M_toMake (QE g_S J z0 s0) (g_S, 0, 0) (J s) 24 [some (.ref 49), some (gi l1), none, none] [gi t0] := by
  unfold M_toMake_24 at h
  refine G_istore_n (lv' := [_, _, _, none]) (g_da dt_M_toMake 14 rfl) rfl (Nat.le_of_ble_eq_true rfl) rfl rfl ?_
  refine G_iconst (g_da dt_M_toMake 15 rfl) ?_
  refine G_istore_n (lv' := [_, _, _, _]) (g_da dt_M_toMake 16 rfl) rfl (Nat.le_of_ble_eq_true rfl) rfl rfl ?_
  exact G_subK (M_toMake_27L_ok hJm (fun _ _ _ h => M_toMake_58_ok hJm hk2 h) gFu h) ⟨rfl, ⟨rfl, ⟨rfl, ⟨rfl, trivial⟩⟩⟩⟩
set_option maxHeartbeats 4000000 in
set_option maxRecDepth 100000 in
theorem M_toMake_2_ok {J : gS → gS} (hJm : g_jm J) {z0 : Int} {s0 : gS} {k2 : Int → gS → gA} (hk2 : ∀ (l1 : Int) (s : gS), k2 l1 s = some (z0, s0) → G M_M_toMake (QE g_S J z0 s0) (g_S, 0, 0) (J s) 2 [some (.ref 49), some (gi l1), none, none] [])  {l1 : Int} {s : gS} (h : M_toMake_2 k2 l1 s = some (z0, s0)) : G M_M_toMake (QE g_S J z0 s0) (g_S, 0, 0) (J s) 2 [some (.ref 49), some (gi l1), none, none] [] := by
  unfold M_toMake_2 at h
  refine G_iload_n (g_da dt_M_toMake 2 rfl) rfl rfl ?_
  refine G_aload_n (g_da dt_M_toMake 3 rfl) rfl rfl ?_
  refine H_getI (g_da dt_M_toMake 4 rfl) sh_49 fl_15_113 rfl (hJm 49 rfl) ?_
  refine G_icmp_ge (g_da dt_M_toMake 5 rfl) rfl rfl rfl (fun hc1 => ?_) (fun hc1 => ?_)
  · have h := o_t hc1 h
    refine G_iconst (g_da dt_M_toMake 40 rfl) ?_
    exact G_ireturn (g_da dt_M_toMake 41 rfl) rfl rfl rfl (g_nz rfl) (q_e h)
  · have h := o_f hc1 h
    refine G_aload_n (g_da dt_M_toMake 6 rfl) rfl rfl ?_
    refine G_getR (g_da dt_M_toMake 7 rfl) sh_49 fl_15_80 rfl ?_
    refine G_iload_n (g_da dt_M_toMake 8 rfl) rfl rfl ?_
    obtain ⟨hb2, h⟩ := o_g h
    refine H_zaload (g_da dt_M_toMake 9 rfl) sh_73 (hJm 73 rfl) rfl hb2 rfl ?_
    refine G_if_ne (g_da dt_M_toMake 10 rfl) rfl rfl  (fun hc3 => ?_) (fun hc3 => ?_)
    · have h := o_f hc3 h
      refine G_iconst (g_da dt_M_toMake 13 rfl) ?_
      exact G_subK (M_toMake_24_ok hJm hk2 h) ⟨rfl, ⟨rfl, trivial⟩⟩
    · have h := o_t hc3 h
      refine G_iconst (g_da dt_M_toMake 11 rfl) ?_
      refine G_goto (g_da dt_M_toMake 12 rfl) rfl ?_
      exact G_subK (M_toMake_24_ok hJm hk2 h) ⟨rfl, ⟨rfl, trivial⟩⟩
set_option maxHeartbeats 4000000 in
set_option maxRecDepth 100000 in
theorem M_toMake_2L_ok {J : gS → gS} (hJm : g_jm J) {z0 : Int} {s0 : gS} : ∀ (n : Nat) {l1 : Int} {s : gS}, M_toMake_2L n l1 s = some (z0, s0) → G M_M_toMake (QE g_S J z0 s0) (g_S, 0, 0) (J s) 2 [some (.ref 49), some (gi l1), none, none] [] := by
  intro n
  induction n with
  | zero => intro _ _ h; cases h
  | succ n ih => intro _ _ h; exact M_toMake_2_ok hJm (fun _ _ h => ih h) h
set_option maxHeartbeats 4000000 in
set_option maxRecDepth 100000 in
theorem M_toMake_ok {J : gS → gS} (hJm : g_jm J) {z0 : Int} {s0 : gS} {s : gS} (h : M_toMake s = some (z0, s0)) : Ct M_M_toMake g_S [.ref 49] (J s) (QE g_S J z0 s0) := by
  refine Ct_of [some (.ref 49), none, none, none] (plainFor_of_name (by decide)) rfl (Nat.le_of_ble_eq_true rfl) rfl (by decide) q_rE ?_
  unfold M_toMake at h
  refine G_iconst (g_da dt_M_toMake 0 rfl) ?_
  refine G_istore_n (lv' := [_, _, none, none]) (g_da dt_M_toMake 1 rfl) rfl (Nat.le_of_ble_eq_true rfl) rfl rfl ?_
  exact G_subK (M_toMake_2L_ok hJm gFu h) ⟨rfl, ⟨rfl, trivial⟩⟩
set_option maxHeartbeats 4000000 in
set_option maxRecDepth 100000 in
theorem M_insideMany_25_ok {J : gS → gS} (hJm : g_jm J) {z0 : Int} {s0 : gS} {k4 : Int → Int → gS → gA} (hk4 : ∀ (l1 l2 : Int) (s : gS), k4 l1 l2 s = some (z0, s0) → G M_M_insideMany (QE g_S J z0 s0) (g_S, 0, 0) (J s) 4 [some (.ref 49), some (gi l1), some (gi l2)] [])  {l2 t0 t1 : Int} {s : gS} (h : M_insideMany_25 k4 l2 t0 t1 s = some (z0, s0)) : G M_M_insideMany (QE g_S J z0 s0) (g_S, 0, 0) (J s) 25 [some (.ref 49), none, some (gi l2)] [gi t1, gi t0] := by
  unfold M_insideMany_25 at h
  refine G_iadd (g_da dt_M_insideMany 17 rfl) ?_
  refine H_topi (fun v4 e5 => ?_)
  have h := o_l h v4 e5
  refine G_istore_n (lv' := [_, _, _]) (g_da dt_M_insideMany 18 rfl) rfl (Nat.le_of_ble_eq_true rfl) rfl rfl ?_
  refine G_iinc (lv' := [_, _, _]) (g_da dt_M_insideMany 19 rfl) rfl (Nat.le_of_ble_eq_true rfl) rfl rfl ?_
  refine G_goto (g_da dt_M_insideMany 20 rfl) rfl ?_
  exact G_subK (hk4 _ _ _ h) ⟨rfl, ⟨rfl, ⟨rfl, trivial⟩⟩⟩
set_option maxHeartbeats 4000000 in
set_option maxRecDepth 100000 in
theorem M_insideMany_4_ok {J : gS → gS} (hJm : g_jm J) {z0 : Int} {s0 : gS} {k4 : Int → Int → gS → gA} (hk4 : ∀ (l1 l2 : Int) (s : gS), k4 l1 l2 s = some (z0, s0) → G M_M_insideMany (QE g_S J z0 s0) (g_S, 0, 0) (J s) 4 [some (.ref 49), some (gi l1), some (gi l2)] [])  {l1 l2 : Int} {s : gS} (h : M_insideMany_4 k4 l1 l2 s = some (z0, s0)) : G M_M_insideMany (QE g_S J z0 s0) (g_S, 0, 0) (J s) 4 [some (.ref 49), some (gi l1), some (gi l2)] [] := by
  unfold M_insideMany_4 at h
  refine G_iload_n (g_da dt_M_insideMany 4 rfl) rfl rfl ?_
  refine G_iconst (g_da dt_M_insideMany 5 rfl) ?_
  refine G_icmp_ge (g_da dt_M_insideMany 6 rfl) rfl rfl w_4 (fun hc1 => ?_) (fun hc1 => ?_)
  · have h := o_t hc1 h
    refine G_iload_n (g_da dt_M_insideMany 21 rfl) rfl rfl ?_
    exact G_ireturn (g_da dt_M_insideMany 22 rfl) rfl rfl rfl (g_nz rfl) (q_e h)
  · have h := o_f hc1 h
    refine G_iload_n (g_da dt_M_insideMany 7 rfl) rfl rfl ?_
    refine G_aload_n (g_da dt_M_insideMany 8 rfl) rfl rfl ?_
    refine G_getR (g_da dt_M_insideMany 9 rfl) sh_49 fl_15_62 rfl ?_
    refine G_iload_n (g_da dt_M_insideMany 10 rfl) rfl rfl ?_
    obtain ⟨hb2, h⟩ := o_g h
    refine H_iaload (g_da dt_M_insideMany 11 rfl) sh_67 (hJm 67 rfl) rfl hb2 rfl ?_
    refine G_iconst (g_da dt_M_insideMany 12 rfl) ?_
    refine G_icmp_eq (g_da dt_M_insideMany 13 rfl) rfl rfl w_m1 (fun hc3 => ?_) (fun hc3 => ?_)
    · have h := o_t hc3 h
      refine G_iconst (g_da dt_M_insideMany 16 rfl) ?_
      exact G_subK (M_insideMany_25_ok hJm hk4 h) ⟨rfl, ⟨rfl, trivial⟩⟩
    · have h := o_f hc3 h
      refine G_iconst (g_da dt_M_insideMany 14 rfl) ?_
      refine G_goto (g_da dt_M_insideMany 15 rfl) rfl ?_
      exact G_subK (M_insideMany_25_ok hJm hk4 h) ⟨rfl, ⟨rfl, trivial⟩⟩
set_option maxHeartbeats 4000000 in
set_option maxRecDepth 100000 in
theorem M_insideMany_4L_ok {J : gS → gS} (hJm : g_jm J) {z0 : Int} {s0 : gS} : ∀ (n : Nat) {l1 l2 : Int} {s : gS}, M_insideMany_4L n l1 l2 s = some (z0, s0) → G M_M_insideMany (QE g_S J z0 s0) (g_S, 0, 0) (J s) 4 [some (.ref 49), some (gi l1), some (gi l2)] [] := by
  intro n
  induction n with
  | zero => intro _ _ _ h; cases h
  | succ n ih => intro _ _ _ h; exact M_insideMany_4_ok hJm (fun _ _ _ h => ih h) h
set_option maxHeartbeats 4000000 in
set_option maxRecDepth 100000 in
theorem M_insideMany_ok {J : gS → gS} (hJm : g_jm J) {z0 : Int} {s0 : gS} {s : gS} (h : M_insideMany s = some (z0, s0)) : Ct M_M_insideMany g_S [.ref 49] (J s) (QE g_S J z0 s0) := by
  refine Ct_of [some (.ref 49), none, none] (plainFor_of_name (by decide)) rfl (Nat.le_of_ble_eq_true rfl) rfl (by decide) q_rE ?_
  unfold M_insideMany at h
  refine G_iconst (g_da dt_M_insideMany 0 rfl) ?_
  refine G_istore_n (lv' := [_, _, none]) (g_da dt_M_insideMany 1 rfl) rfl (Nat.le_of_ble_eq_true rfl) rfl rfl ?_
  refine G_iconst (g_da dt_M_insideMany 2 rfl) ?_
  refine G_istore_n (lv' := [_, _, _]) (g_da dt_M_insideMany 3 rfl) rfl (Nat.le_of_ble_eq_true rfl) rfl rfl ?_
  exact G_subK (M_insideMany_4L_ok hJm gFu h) ⟨rfl, ⟨rfl, ⟨rfl, trivial⟩⟩⟩
set_option maxHeartbeats 4000000 in
set_option maxRecDepth 100000 in
theorem M_feed_ok {J : gS → gS} (hJm : g_jm J) {z0 : Int} {s0 : gS} {s : gS} (h : M_feed s = some (z0, s0)) : Ct M_M_feed g_S [.ref 49] (J s) (QG g_S J z0 s0) := by
  refine Ct_of [some (.ref 49), none] (plainFor_of_name (by decide)) rfl (Nat.le_of_ble_eq_true rfl) rfl (by decide) q_rG ?_
  unfold M_feed at h
  refine G_aload_n (g_da dt_M_feed 0 rfl) rfl rfl ?_
  obtain ⟨r1, s2, hc3, h⟩ := o_b h
  refine H_cVE (M_toMake_ok hJm hc3) (g_da dt_M_feed 1 rfl) lk_15_342 mv_M_toMake rfl sh_49 rfl rfl rfl rfl rfl rfl ?_
  refine G_istore_n (lv' := [_, _]) (g_da dt_M_feed 2 rfl) rfl (Nat.le_of_ble_eq_true rfl) rfl rfl ?_
  refine G_aload_n (g_da dt_M_feed 3 rfl) rfl rfl ?_
  refine G_getR (g_da dt_M_feed 4 rfl) sh_49 fl_15_62 rfl ?_
  refine G_iconst (g_da dt_M_feed 5 rfl) ?_
  refine H_iaload (g_da dt_M_feed 6 rfl) sh_67 (hJm 67 rfl) w_0 ⟨by decide, by decide⟩ rfl ?_
  refine G_iconst (g_da dt_M_feed 7 rfl) ?_
  refine G_icmp_ne (g_da dt_M_feed 8 rfl) rfl rfl w_m1 (fun hc4 => ?_) (fun hc4 => ?_)
  · have h := o_f hc4 h
    exact G_return (g_da dt_M_feed 25 rfl) rfl rfl (g_nz rfl) (q_g h)
  · have h := o_t hc4 h
    refine G_aload_n (g_da dt_M_feed 9 rfl) rfl rfl ?_
    refine G_getR (g_da dt_M_feed 10 rfl) sh_49 fl_15_62 rfl ?_
    refine G_iconst (g_da dt_M_feed 11 rfl) ?_
    refine H_iaload (g_da dt_M_feed 12 rfl) sh_67 (hJm 67 rfl) w_3 ⟨by decide, by decide⟩ rfl ?_
    refine G_iconst (g_da dt_M_feed 13 rfl) ?_
    refine G_icmp_ne (g_da dt_M_feed 14 rfl) rfl rfl w_m1 (fun hc5 => ?_) (fun hc5 => ?_)
    · have h := o_f hc5 h
      exact G_return (g_da dt_M_feed 25 rfl) rfl rfl (g_nz rfl) (q_g h)
    · have h := o_t hc5 h
      refine G_aload_n (g_da dt_M_feed 15 rfl) rfl rfl ?_
      obtain ⟨r6, s7, hc8, h⟩ := o_b h
      refine H_cVE (M_insideMany_ok hJm hc8) (g_da dt_M_feed 16 rfl) lk_15_345 mv_M_insideMany rfl sh_49 rfl rfl rfl rfl rfl rfl ?_
      refine G_iconst (g_da dt_M_feed 17 rfl) ?_
      refine G_icmp_gt (g_da dt_M_feed 18 rfl) rfl rfl w_1 (fun hc9 => ?_) (fun hc9 => ?_)
      · have h := o_t hc9 h
        exact G_return (g_da dt_M_feed 25 rfl) rfl rfl (g_nz rfl) (q_g h)
      · have h := o_f hc9 h
        refine G_aload_n (g_da dt_M_feed 19 rfl) rfl rfl ?_
        refine H_getI (g_da dt_M_feed 20 rfl) sh_49 fl_15_348 rfl (hJm 49 rfl) ?_
        refine G_if_eq (g_da dt_M_feed 21 rfl) rfl rfl  (fun hc10 => ?_) (fun hc10 => ?_)
        · have h := o_t hc10 h
          exact G_return (g_da dt_M_feed 25 rfl) rfl rfl (g_nz rfl) (q_g h)
        · have h := o_f hc10 h
          refine G_iload_n (g_da dt_M_feed 22 rfl) rfl rfl ?_
          refine G_iconst (g_da dt_M_feed 23 rfl) ?_
          refine G_icmp_ne (g_da dt_M_feed 24 rfl) rfl rfl w_m1 (fun hc11 => ?_) (fun hc11 => ?_)
          · have h := o_f hc11 h
            refine G_aload_n (g_da dt_M_feed 26 rfl) rfl rfl ?_
            refine G_dup (g_da dt_M_feed 27 rfl) rfl ?_
            refine H_getI (g_da dt_M_feed 28 rfl) sh_49 fl_15_348 rfl (hJm 49 rfl) ?_
            refine G_iconst (g_da dt_M_feed 29 rfl) ?_
            refine G_isub (g_da dt_M_feed 30 rfl) ?_
            refine H_putI (g_da dt_M_feed 31 rfl) sh_49 fp_15_348 rfl (hJm 49 rfl) (fun s12 e13 => ?_)
            have h := o_l h s12 e13
            refine G_aload_n (g_da dt_M_feed 32 rfl) rfl rfl ?_
            refine G_getR (g_da dt_M_feed 33 rfl) sh_49 fl_15_62 rfl ?_
            refine G_iconst (g_da dt_M_feed 34 rfl) ?_
            refine G_iload_n (g_da dt_M_feed 35 rfl) rfl rfl ?_
            refine H_iastore (g_da dt_M_feed 36 rfl) sh_67 (hJm 67 rfl) w_0 ⟨by decide, by decide⟩ rfl (fun s14 e15 => ?_)
            have h := o_l h s14 e15
            refine G_aload_n (g_da dt_M_feed 37 rfl) rfl rfl ?_
            refine G_getR (g_da dt_M_feed 38 rfl) sh_49 fl_15_65 rfl ?_
            refine G_iconst (g_da dt_M_feed 39 rfl) ?_
            refine G_iconst (g_da dt_M_feed 40 rfl) ?_
            refine H_iastore (g_da dt_M_feed 41 rfl) sh_68 (hJm 68 rfl) w_0 ⟨by decide, by decide⟩ rfl (fun s16 e17 => ?_)
            have h := o_l h s16 e17
            refine G_aload_n (g_da dt_M_feed 42 rfl) rfl rfl ?_
            refine G_getR (g_da dt_M_feed 43 rfl) sh_49 fl_15_68 rfl ?_
            refine G_iconst (g_da dt_M_feed 44 rfl) ?_
            refine G_iconst (g_da dt_M_feed 45 rfl) ?_
            refine H_iastore (g_da dt_M_feed 46 rfl) sh_69 (hJm 69 rfl) w_0 ⟨by decide, by decide⟩ rfl (fun s18 e19 => ?_)
            have h := o_l h s18 e19
            exact G_return (g_da dt_M_feed 47 rfl) rfl rfl (g_nz rfl) (q_g h)
          · have h := o_t hc11 h
            exact G_return (g_da dt_M_feed 25 rfl) rfl rfl (g_nz rfl) (q_g h)
set_option maxHeartbeats 4000000 in
set_option maxRecDepth 100000 in
theorem M_cell_63_ok {J : gS → gS} {z0 : Int} {s0 : gS}  {l2 t0 : Int} {s : gS} (h : M_cell_63 l2 t0 s = some (z0, s0)) : G M_M_cell (QE g_S J z0 s0) (g_S, 0, 0) (J s) 63 [none, none, some (gi l2), none] [gi t0] := by
  unfold M_cell_63 at h
  refine G_istore_n (lv' := [none, none, _, _]) (g_da dt_M_cell 39 rfl) rfl (Nat.le_of_ble_eq_true rfl) rfl rfl ?_
  refine G_iconst (g_da dt_M_cell 40 rfl) ?_
  refine G_iload_n (g_da dt_M_cell 41 rfl) rfl rfl ?_
  refine G_imul (g_da dt_M_cell 42 rfl) ?_
  refine G_iload_n (g_da dt_M_cell 43 rfl) rfl rfl ?_
  refine G_iadd (g_da dt_M_cell 44 rfl) ?_
  exact G_ireturn (g_da dt_M_cell 45 rfl) rfl rfl rfl (g_nz rfl) (q_e h)
set_option maxHeartbeats 4000000 in
set_option maxRecDepth 100000 in
theorem M_cell_31_ok {J : gS → gS} {z0 : Int} {s0 : gS}  {l0 l1 t0 : Int} {s : gS} (h : M_cell_31 l0 l1 t0 s = some (z0, s0)) : G M_M_cell (QE g_S J z0 s0) (g_S, 0, 0) (J s) 31 [some (gi l0), some (gi l1), none, none] [gi t0] := by
  unfold M_cell_31 at h
  refine G_istore_n (lv' := [_, _, _, none]) (g_da dt_M_cell 19 rfl) rfl (Nat.le_of_ble_eq_true rfl) rfl rfl ?_
  refine G_iload_n (g_da dt_M_cell 20 rfl) rfl rfl ?_
  refine G_iconst (g_da dt_M_cell 21 rfl) ?_
  refine G_iand (g_da dt_M_cell 22 rfl) ?_
  refine G_if_ne (g_da dt_M_cell 23 rfl) rfl rfl  (fun hc3 => ?_) (fun hc3 => ?_)
  · have h := o_f hc3 h
    refine G_iload_n (g_da dt_M_cell 32 rfl) rfl rfl ?_
    refine G_iconst (g_da dt_M_cell 33 rfl) ?_
    refine G_iand (g_da dt_M_cell 34 rfl) ?_
    refine G_if_ne (g_da dt_M_cell 35 rfl) rfl rfl  (fun hc4 => ?_) (fun hc4 => ?_)
    · have h := o_f hc4 h
      refine G_iconst (g_da dt_M_cell 38 rfl) ?_
      exact G_subK (M_cell_63_ok h) ⟨rfl, trivial⟩
    · have h := o_t hc4 h
      refine G_iconst (g_da dt_M_cell 36 rfl) ?_
      refine G_goto (g_da dt_M_cell 37 rfl) rfl ?_
      exact G_subK (M_cell_63_ok h) ⟨rfl, trivial⟩
  · have h := o_t hc3 h
    refine G_iload_n (g_da dt_M_cell 24 rfl) rfl rfl ?_
    refine G_iconst (g_da dt_M_cell 25 rfl) ?_
    refine G_iand (g_da dt_M_cell 26 rfl) ?_
    refine G_if_ne (g_da dt_M_cell 27 rfl) rfl rfl  (fun hc5 => ?_) (fun hc5 => ?_)
    · have h := o_f hc5 h
      refine G_iconst (g_da dt_M_cell 30 rfl) ?_
      refine G_goto (g_da dt_M_cell 31 rfl) rfl ?_
      exact G_subK (M_cell_63_ok h) ⟨rfl, trivial⟩
    · have h := o_t hc5 h
      refine G_iconst (g_da dt_M_cell 28 rfl) ?_
      refine G_goto (g_da dt_M_cell 29 rfl) rfl ?_
      exact G_subK (M_cell_63_ok h) ⟨rfl, trivial⟩
set_option maxHeartbeats 4000000 in
set_option maxRecDepth 100000 in
theorem M_cell_ok {J : gS → gS} {z0 : Int} {s0 : gS} {a0 a1 : Int} {s : gS} (h : M_cell a0 a1 s = some (z0, s0)) : Ct M_M_cell g_S [gi a0, gi a1] (J s) (QE g_S J z0 s0) := by
  refine Ct_of [some (gi a0), some (gi a1), none, none] (plainFor_of_name (by decide)) rfl (Nat.le_of_ble_eq_true rfl) rfl (by decide) q_rE ?_
  unfold M_cell at h
  refine G_iload_n (g_da dt_M_cell 0 rfl) rfl rfl ?_
  refine G_iconst (g_da dt_M_cell 1 rfl) ?_
  refine G_iand (g_da dt_M_cell 2 rfl) ?_
  refine G_if_ne (g_da dt_M_cell 3 rfl) rfl rfl  (fun hc1 => ?_) (fun hc1 => ?_)
  · have h := o_f hc1 h
    refine G_iload_n (g_da dt_M_cell 12 rfl) rfl rfl ?_
    refine G_iconst (g_da dt_M_cell 13 rfl) ?_
    refine G_iand (g_da dt_M_cell 14 rfl) ?_
    refine G_if_ne (g_da dt_M_cell 15 rfl) rfl rfl  (fun hc2 => ?_) (fun hc2 => ?_)
    · have h := o_f hc2 h
      refine G_iconst (g_da dt_M_cell 18 rfl) ?_
      exact G_subK (M_cell_31_ok h) ⟨rfl, ⟨rfl, trivial⟩⟩
    · have h := o_t hc2 h
      refine G_iconst (g_da dt_M_cell 16 rfl) ?_
      refine G_goto (g_da dt_M_cell 17 rfl) rfl ?_
      exact G_subK (M_cell_31_ok h) ⟨rfl, ⟨rfl, trivial⟩⟩
  · have h := o_t hc1 h
    refine G_iload_n (g_da dt_M_cell 4 rfl) rfl rfl ?_
    refine G_iconst (g_da dt_M_cell 5 rfl) ?_
    refine G_iand (g_da dt_M_cell 6 rfl) ?_
    refine G_if_ne (g_da dt_M_cell 7 rfl) rfl rfl  (fun hc6 => ?_) (fun hc6 => ?_)
    · have h := o_f hc6 h
      refine G_iconst (g_da dt_M_cell 10 rfl) ?_
      refine G_goto (g_da dt_M_cell 11 rfl) rfl ?_
      exact G_subK (M_cell_31_ok h) ⟨rfl, ⟨rfl, trivial⟩⟩
    · have h := o_t hc6 h
      refine G_iconst (g_da dt_M_cell 8 rfl) ?_
      refine G_goto (g_da dt_M_cell 9 rfl) rfl ?_
      exact G_subK (M_cell_31_ok h) ⟨rfl, ⟨rfl, trivial⟩⟩
