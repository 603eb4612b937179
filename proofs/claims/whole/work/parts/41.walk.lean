set_option maxHeartbeats 4000000 in
set_option maxRecDepth 100000 in
theorem Values_peek_ok {J : gS → gS} (hJc : g_jc J) {z0 : Int} {s0 : gS} {a1 : Int} {s : gS} (h : Values_peek a1 s = some (z0, s0)) : Ct M_Values_peek g_S [.ref 18, gi a1] (J s) (QE g_S J z0 s0) := by
  refine Ct_of [some (.ref 18), some (gi a1)] (plainFor_of_name (by decide)) rfl (Nat.le_of_ble_eq_true rfl) rfl (by decide) q_rE ?_
  unfold Values_peek at h
  refine G_iload_n (g_da dt_Values_peek 0 rfl) rfl rfl ?_
  refine G_if_lt (g_da dt_Values_peek 1 rfl) rfl rfl  (fun hc1 => ?_) (fun hc1 => ?_)
  · have h := o_t hc1 h
    refine G_iconst (g_da dt_Values_peek 6 rfl) ?_
    refine G_goto (g_da dt_Values_peek 7 rfl) rfl ?_
    exact G_ireturn (g_da dt_Values_peek 17 rfl) rfl rfl rfl (g_nz rfl) (q_e h)
  · have h := o_f hc1 h
    refine G_iload_n (g_da dt_Values_peek 2 rfl) rfl rfl ?_
    refine G_aload_n (g_da dt_Values_peek 3 rfl) rfl rfl ?_
    refine H_getI (g_da dt_Values_peek 4 rfl) sh_18 fl_9_15 rfl (hJc 18 rfl) ?_
    refine G_icmp_lt (g_da dt_Values_peek 5 rfl) rfl rfl rfl (fun hc2 => ?_) (fun hc2 => ?_)
    · have h := o_t hc2 h
      refine G_aload_n (g_da dt_Values_peek 8 rfl) rfl rfl ?_
      refine G_getR (g_da dt_Values_peek 9 rfl) sh_18 fl_9_9 rfl ?_
      refine G_aload_n (g_da dt_Values_peek 10 rfl) rfl rfl ?_
      refine H_getI (g_da dt_Values_peek 11 rfl) sh_18 fl_9_15 rfl (hJc 18 rfl) ?_
      refine G_iconst (g_da dt_Values_peek 12 rfl) ?_
      refine G_isub (g_da dt_Values_peek 13 rfl) ?_
      refine G_iload_n (g_da dt_Values_peek 14 rfl) rfl rfl ?_
      refine G_isub (g_da dt_Values_peek 15 rfl) ?_
      obtain ⟨hb3, h⟩ := o_g h
      refine H_iaload (g_da dt_Values_peek 16 rfl) sh_19 (hJc 19 rfl) rfl hb3 rfl ?_
      exact G_ireturn (g_da dt_Values_peek 17 rfl) rfl rfl rfl (g_nz rfl) (q_e h)
    · have h := o_f hc2 h
      refine G_iconst (g_da dt_Values_peek 6 rfl) ?_
      refine G_goto (g_da dt_Values_peek 7 rfl) rfl ?_
      exact G_ireturn (g_da dt_Values_peek 17 rfl) rfl rfl rfl (g_nz rfl) (q_e h)
set_option maxHeartbeats 4000000 in
set_option maxRecDepth 100000 in
theorem Values_isProcedure_ok {J : gS → gS} (hJc : g_jc J) {z0 : Int} {s0 : gS} {a1 : Int} {s : gS} (h : Values_isProcedure a1 s = some (z0, s0)) : Ct M_Values_isProcedure g_S [.ref 18, gi a1] (J s) (QE g_S J z0 s0) := by
  refine Ct_of [some (.ref 18), some (gi a1)] (plainFor_of_name (by decide)) rfl (Nat.le_of_ble_eq_true rfl) rfl (by decide) q_rE ?_
  unfold Values_isProcedure at h
  refine G_aload_n (g_da dt_Values_isProcedure 0 rfl) rfl rfl ?_
  refine G_iload_n (g_da dt_Values_isProcedure 1 rfl) rfl rfl ?_
  obtain ⟨r1, s2, hc3, h⟩ := o_b h
  refine H_cVE (Values_peek_ok hJc hc3) (g_da dt_Values_isProcedure 2 rfl) lk_9_19 mv_Values_peek rfl sh_18 rfl rfl rfl rfl rfl rfl ?_
  refine G_ldc (z := 2000000) (g_da dt_Values_isProcedure 3 rfl) cn_9_23 rfl ?_
  refine G_icmp_lt (g_da dt_Values_isProcedure 4 rfl) rfl rfl w_2000000 (fun hc4 => ?_) (fun hc4 => ?_)
  · have h := o_t hc4 h
    refine G_iconst (g_da dt_Values_isProcedure 7 rfl) ?_
    exact G_ireturn (g_da dt_Values_isProcedure 8 rfl) rfl (g_bool (Or.inl w_0)).1 rfl (g_nz rfl) (q_e h)
  · have h := o_f hc4 h
    refine G_iconst (g_da dt_Values_isProcedure 5 rfl) ?_
    refine G_goto (g_da dt_Values_isProcedure 6 rfl) rfl ?_
    exact G_ireturn (g_da dt_Values_isProcedure 8 rfl) rfl (g_bool (Or.inr w_1)).1 rfl (g_nz rfl) (q_e h)
set_option maxHeartbeats 4000000 in
set_option maxRecDepth 100000 in
theorem Job_kindsFit_71_ok {J : gS → gS} (hJc : g_jc J) {z0 : Int} {s0 : gS} {k45 : Int → Int → Int → gS → gA} (hk45 : ∀ (l2 l3 l4 : Int) (s : gS), k45 l2 l3 l4 s = some (z0, s0) → G M_Job_kindsFit (QE g_S J z0 s0) (g_S, 0, 0) (J s) 45 [some (.ref 5), none, some (gi l2), some (gi l3), some (gi l4)] [])  {l2 l3 l4 t0 t1 : Int} {s : gS} (h : Job_kindsFit_71 k45 l2 l3 l4 t0 t1 s = some (z0, s0)) : G M_Job_kindsFit (QE g_S J z0 s0) (g_S, 0, 0) (J s) 71 [some (.ref 5), none, some (gi l2), some (gi l3), some (gi l4)] [gi t1, gi t0] := by
  unfold Job_kindsFit_71 at h
  refine G_icmp_eq (g_da dt_Job_kindsFit 38 rfl) rfl rfl rfl (fun hc11 => ?_) (fun hc11 => ?_)
  · have h := o_t hc11 h
    refine G_iinc (lv' := [_, none, _, _, _]) (g_da dt_Job_kindsFit 41 rfl) rfl (Nat.le_of_ble_eq_true rfl) rfl rfl ?_
    refine G_goto (g_da dt_Job_kindsFit 42 rfl) rfl ?_
    exact G_subK (hk45 _ _ _ _ h) ⟨rfl, ⟨rfl, ⟨rfl, ⟨rfl, trivial⟩⟩⟩⟩
  · have h := o_f hc11 h
    refine G_iconst (g_da dt_Job_kindsFit 39 rfl) ?_
    exact G_ireturn (g_da dt_Job_kindsFit 40 rfl) rfl (g_bool (Or.inl w_0)).1 rfl (g_nz rfl) (q_e h)
set_option maxHeartbeats 4000000 in
set_option maxRecDepth 100000 in
theorem Job_kindsFit_45_ok {J : gS → gS} (hJc : g_jc J) {z0 : Int} {s0 : gS} {k45 : Int → Int → Int → gS → gA} (hk45 : ∀ (l2 l3 l4 : Int) (s : gS), k45 l2 l3 l4 s = some (z0, s0) → G M_Job_kindsFit (QE g_S J z0 s0) (g_S, 0, 0) (J s) 45 [some (.ref 5), none, some (gi l2), some (gi l3), some (gi l4)] [])  {l2 l3 l4 : Int} {s : gS} (h : Job_kindsFit_45 k45 l2 l3 l4 s = some (z0, s0)) : G M_Job_kindsFit (QE g_S J z0 s0) (g_S, 0, 0) (J s) 45 [some (.ref 5), none, some (gi l2), some (gi l3), some (gi l4)] [] := by
  unfold Job_kindsFit_45 at h
  refine G_iload (g_da dt_Job_kindsFit 25 rfl) rfl ?_
  refine G_iload_n (g_da dt_Job_kindsFit 26 rfl) rfl rfl ?_
  refine G_icmp_ge (g_da dt_Job_kindsFit 27 rfl) rfl rfl rfl (fun hc6 => ?_) (fun hc6 => ?_)
  · have h := o_t hc6 h
    refine G_iconst (g_da dt_Job_kindsFit 43 rfl) ?_
    exact G_ireturn (g_da dt_Job_kindsFit 44 rfl) rfl (g_bool (Or.inr w_1)).1 rfl (g_nz rfl) (q_e h)
  · have h := o_f hc6 h
    refine G_aload_n (g_da dt_Job_kindsFit 28 rfl) rfl rfl ?_
    refine G_getR (g_da dt_Job_kindsFit 29 rfl) sh_5 fl_6_35 rfl ?_
    refine G_iload (g_da dt_Job_kindsFit 30 rfl) rfl ?_
    obtain ⟨r7, s8, hc9, h⟩ := o_b h
    refine H_cVE (Values_isProcedure_ok hJc hc9) (g_da dt_Job_kindsFit 31 rfl) lk_6_171 mv_Values_isProcedure rfl sh_18 rfl rfl rfl rfl rfl rfl ?_
    refine G_iload (g_da dt_Job_kindsFit 32 rfl) rfl ?_
    refine G_iload_n (g_da dt_Job_kindsFit 33 rfl) rfl rfl ?_
    refine G_icmp_ge (g_da dt_Job_kindsFit 34 rfl) rfl rfl rfl (fun hc10 => ?_) (fun hc10 => ?_)
    · have h := o_t hc10 h
      refine G_iconst (g_da dt_Job_kindsFit 37 rfl) ?_
      exact G_subK (Job_kindsFit_71_ok hJc hk45 h) ⟨rfl, ⟨rfl, ⟨rfl, ⟨rfl, trivial⟩⟩⟩⟩
    · have h := o_f hc10 h
      refine G_iconst (g_da dt_Job_kindsFit 35 rfl) ?_
      refine G_goto (g_da dt_Job_kindsFit 36 rfl) rfl ?_
      exact G_subK (Job_kindsFit_71_ok hJc hk45 h) ⟨rfl, ⟨rfl, ⟨rfl, ⟨rfl, trivial⟩⟩⟩⟩
set_option maxHeartbeats 4000000 in
set_option maxRecDepth 100000 in
theorem Job_kindsFit_45L_ok {J : gS → gS} (hJc : g_jc J) {z0 : Int} {s0 : gS} : ∀ (n : Nat) {l2 l3 l4 : Int} {s : gS}, Job_kindsFit_45L n l2 l3 l4 s = some (z0, s0) → G M_Job_kindsFit (QE g_S J z0 s0) (g_S, 0, 0) (J s) 45 [some (.ref 5), none, some (gi l2), some (gi l3), some (gi l4)] [] := by
  intro n
  induction n with
  | zero => intro _ _ _ _ h; cases h
  | succ n ih => intro _ _ _ _ h; exact Job_kindsFit_45_ok hJc (fun _ _ _ _ h => ih h) h
set_option maxHeartbeats 4000000 in
set_option maxRecDepth 100000 in
theorem Job_kindsFit_41_ok {J : gS → gS} (hJc : g_jc J) {z0 : Int} {s0 : gS}  {l2 t0 : Int} {s : gS} (h : Job_kindsFit_41 l2 t0 s = some (z0, s0)) : G M_Job_kindsFit (QE g_S J z0 s0) (g_S, 0, 0) (J s) 41 [some (.ref 5), none, some (gi l2), none, none] [gi t0] := by
  unfold Job_kindsFit_41 at h
  refine G_istore_n (lv' := [_, none, _, _, none]) (g_da dt_Job_kindsFit 22 rfl) rfl (Nat.le_of_ble_eq_true rfl) rfl rfl ?_
  refine G_iconst (g_da dt_Job_kindsFit 23 rfl) ?_
  refine G_istore (lv' := [_, none, _, _, _]) (g_da dt_Job_kindsFit 24 rfl) (Nat.le_of_ble_eq_true rfl) rfl rfl ?_
  exact G_subK (Job_kindsFit_45L_ok hJc gFu h) ⟨rfl, ⟨rfl, ⟨rfl, ⟨rfl, trivial⟩⟩⟩⟩
set_option maxHeartbeats 4000000 in
set_option maxRecDepth 100000 in
theorem Job_kindsFit_ok {J : gS → gS} (hJc : g_jc J) {z0 : Int} {s0 : gS} {a1 a2 : Int} {s : gS} (h : Job_kindsFit a1 a2 s = some (z0, s0)) : Ct M_Job_kindsFit g_S [.ref 5, gi a1, gi a2] (J s) (QE g_S J z0 s0) := by
  refine Ct_of [some (.ref 5), some (gi a1), some (gi a2), none, none] (plainFor_of_name (by decide)) rfl (Nat.le_of_ble_eq_true rfl) rfl (by decide) q_rE ?_
  unfold Job_kindsFit at h
  refine G_iload_n (g_da dt_Job_kindsFit 0 rfl) rfl rfl ?_
  refine G_bipush (g_da dt_Job_kindsFit 1 rfl) b8w_68 ?_
  refine G_icmp_eq (g_da dt_Job_kindsFit 2 rfl) rfl rfl w_68 (fun hc1 => ?_) (fun hc1 => ?_)
  · have h := o_t hc1 h
    refine G_iconst (g_da dt_Job_kindsFit 9 rfl) ?_
    exact G_ireturn (g_da dt_Job_kindsFit 10 rfl) rfl (g_bool (Or.inr w_1)).1 rfl (g_nz rfl) (q_e h)
  · have h := o_f hc1 h
    refine G_iload_n (g_da dt_Job_kindsFit 3 rfl) rfl rfl ?_
    refine G_bipush (g_da dt_Job_kindsFit 4 rfl) b8w_88 ?_
    refine G_icmp_eq (g_da dt_Job_kindsFit 5 rfl) rfl rfl w_88 (fun hc2 => ?_) (fun hc2 => ?_)
    · have h := o_t hc2 h
      refine G_iconst (g_da dt_Job_kindsFit 9 rfl) ?_
      exact G_ireturn (g_da dt_Job_kindsFit 10 rfl) rfl (g_bool (Or.inr w_1)).1 rfl (g_nz rfl) (q_e h)
    · have h := o_f hc2 h
      refine G_iload_n (g_da dt_Job_kindsFit 6 rfl) rfl rfl ?_
      refine G_bipush (g_da dt_Job_kindsFit 7 rfl) b8w_79 ?_
      refine G_icmp_ne (g_da dt_Job_kindsFit 8 rfl) rfl rfl w_79 (fun hc3 => ?_) (fun hc3 => ?_)
      · have h := o_f hc3 h
        refine G_iload_n (g_da dt_Job_kindsFit 11 rfl) rfl rfl ?_
        refine G_bipush (g_da dt_Job_kindsFit 12 rfl) b8w_63 ?_
        refine G_icmp_ne (g_da dt_Job_kindsFit 13 rfl) rfl rfl w_63 (fun hc4 => ?_) (fun hc4 => ?_)
        · have h := o_f hc4 h
          refine G_iload_n (g_da dt_Job_kindsFit 16 rfl) rfl rfl ?_
          refine G_bipush (g_da dt_Job_kindsFit 17 rfl) b8w_82 ?_
          refine G_icmp_ne (g_da dt_Job_kindsFit 18 rfl) rfl rfl w_82 (fun hc5 => ?_) (fun hc5 => ?_)
          · have h := o_f hc5 h
            refine G_iconst (g_da dt_Job_kindsFit 21 rfl) ?_
            exact G_subK (Job_kindsFit_41_ok hJc h) ⟨rfl, ⟨rfl, trivial⟩⟩
          · have h := o_t hc5 h
            refine G_iconst (g_da dt_Job_kindsFit 19 rfl) ?_
            refine G_goto (g_da dt_Job_kindsFit 20 rfl) rfl ?_
            exact G_subK (Job_kindsFit_41_ok hJc h) ⟨rfl, ⟨rfl, trivial⟩⟩
        · have h := o_t hc4 h
          refine G_iconst (g_da dt_Job_kindsFit 14 rfl) ?_
          refine G_goto (g_da dt_Job_kindsFit 15 rfl) rfl ?_
          exact G_subK (Job_kindsFit_41_ok hJc h) ⟨rfl, ⟨rfl, trivial⟩⟩
      · have h := o_t hc3 h
        refine G_iconst (g_da dt_Job_kindsFit 9 rfl) ?_
        exact G_ireturn (g_da dt_Job_kindsFit 10 rfl) rfl (g_bool (Or.inr w_1)).1 rfl (g_nz rfl) (q_e h)
set_option maxHeartbeats 4000000 in
set_option maxRecDepth 100000 in
theorem Math_floorDiv_ok {J : gS → gS} {z0 : Int} {s0 : gS} {a0 a2 : Int} {s : gS} (h : Math_floorDiv a0 a2 s = some (z0, s0)) : Ct M_Math_floorDiv g_S [gl a0, gl a2] (J s) (QF g_S J z0 s0) := by
  refine Ct_of [some (gl a0), none, some (gl a2), none, none, none] (by decide +kernel) rfl (Nat.le_of_ble_eq_true rfl) rfl (by decide) q_rF ?_
  unfold Math_floorDiv at h
  refine G_lload_n (g_da dt_Math_floorDiv 0 rfl) rfl rfl ?_
  refine G_lload_n (g_da dt_Math_floorDiv 1 rfl) rfl rfl ?_
  obtain ⟨hz1, h⟩ := o_g h
  refine G_ldiv (g_da dt_Math_floorDiv 2 rfl) hz1 ?_
  refine H_topl (fun v2 e3 => ?_)
  have h := o_l h v2 e3
  refine G_lstore (lv' := [_, none, _, none, _, none]) (g_da dt_Math_floorDiv 3 rfl) (Nat.le_of_ble_eq_true rfl) rfl rfl ?_
  refine G_lload_n (g_da dt_Math_floorDiv 4 rfl) rfl rfl ?_
  refine G_lload_n (g_da dt_Math_floorDiv 5 rfl) rfl rfl ?_
  refine G_lxor (g_da dt_Math_floorDiv 6 rfl) ?_
  refine G_lconst (z := 0) (g_da dt_Math_floorDiv 7 rfl) rfl ?_
  refine G_lcmp (g_da dt_Math_floorDiv 8 rfl) ?_
  refine G_if_ge (g_da dt_Math_floorDiv 9 rfl) rfl rfl  (fun hc4 => ?_) (fun hc4 => ?_)
  · have h := o_t hc4 h
    refine G_lload (g_da dt_Math_floorDiv 20 rfl) rfl ?_
    exact G_lreturn (g_da dt_Math_floorDiv 21 rfl) rfl rfl (g_nz rfl) (q_f h)
  · have h := o_f hc4 h
    refine G_lload (g_da dt_Math_floorDiv 10 rfl) rfl ?_
    refine G_lload_n (g_da dt_Math_floorDiv 11 rfl) rfl rfl ?_
    refine G_lmul (g_da dt_Math_floorDiv 12 rfl) ?_
    refine G_lload_n (g_da dt_Math_floorDiv 13 rfl) rfl rfl ?_
    refine G_lcmp (g_da dt_Math_floorDiv 14 rfl) ?_
    refine G_if_eq (g_da dt_Math_floorDiv 15 rfl) rfl rfl  (fun hc5 => ?_) (fun hc5 => ?_)
    · have h := o_t hc5 h
      refine G_lload (g_da dt_Math_floorDiv 20 rfl) rfl ?_
      exact G_lreturn (g_da dt_Math_floorDiv 21 rfl) rfl rfl (g_nz rfl) (q_f h)
    · have h := o_f hc5 h
      refine G_lload (g_da dt_Math_floorDiv 16 rfl) rfl ?_
      refine G_lconst (z := 1) (g_da dt_Math_floorDiv 17 rfl) rfl ?_
      refine G_lsub (g_da dt_Math_floorDiv 18 rfl) ?_
      exact G_lreturn (g_da dt_Math_floorDiv 19 rfl) rfl rfl (g_nz rfl) (q_f h)
set_option maxHeartbeats 4000000 in
set_option maxRecDepth 100000 in
theorem Settings_stretchedX_ok {J : gS → gS} (hJc : g_jc J) {z0 : Int} {s0 : gS} {a1 : Int} {s : gS} (h : Settings_stretchedX a1 s = some (z0, s0)) : Ct M_Settings_stretchedX g_S [.ref 21, gi a1] (J s) (QF g_S J z0 s0) := by
  refine Ct_of [some (.ref 21), some (gi a1)] (plainFor_of_name (by decide)) rfl (Nat.le_of_ble_eq_true rfl) rfl (by decide) q_rF ?_
  unfold Settings_stretchedX at h
  refine G_aload_n (g_da dt_Settings_stretchedX 0 rfl) rfl rfl ?_
  refine G_getR (g_da dt_Settings_stretchedX 1 rfl) sh_21 fl_3_9 rfl ?_
  refine G_aload_n (g_da dt_Settings_stretchedX 2 rfl) rfl rfl ?_
  refine H_getI (g_da dt_Settings_stretchedX 3 rfl) sh_21 fl_3_39 rfl (hJc 21 rfl) ?_
  obtain ⟨hb1, h⟩ := o_g h
  refine H_iaload (g_da dt_Settings_stretchedX 4 rfl) sh_22 (hJc 22 rfl) rfl hb1 rfl ?_
  refine G_i2l (g_da dt_Settings_stretchedX 5 rfl) ?_
  refine G_iload_n (g_da dt_Settings_stretchedX 6 rfl) rfl rfl ?_
  refine G_i2l (g_da dt_Settings_stretchedX 7 rfl) ?_
  refine G_lmul (g_da dt_Settings_stretchedX 8 rfl) ?_
  refine G_ldc2 (z := 16) (g_da dt_Settings_stretchedX 9 rfl) cn_3_49 rfl ?_
  obtain ⟨r2, s3, hc4, h⟩ := o_b h
  refine H_cSF (Math_floorDiv_ok hc4) (g_da dt_Settings_stretchedX 10 rfl) lk_3_51 ms_Math_floorDiv rfl rfl rfl rfl rfl rfl ?_
  exact G_lreturn (g_da dt_Settings_stretchedX 11 rfl) rfl rfl (g_nz rfl) (q_f h)
set_option maxHeartbeats 4000000 in
set_option maxRecDepth 100000 in
theorem Math_abs_ok {J : gS → gS} {z0 : Int} {s0 : gS} {a0 : Int} {s : gS} (h : Math_abs a0 s = some (z0, s0)) : Ct M_Math_abs g_S [gl a0] (J s) (QF g_S J z0 s0) := by
  refine Ct_of [some (gl a0), none] (by decide +kernel) rfl (Nat.le_of_ble_eq_true rfl) rfl (by decide) q_rF ?_
  unfold Math_abs at h
  refine G_lload_n (g_da dt_Math_abs 0 rfl) rfl rfl ?_
  refine G_lconst (z := 0) (g_da dt_Math_abs 1 rfl) rfl ?_
  refine G_lcmp (g_da dt_Math_abs 2 rfl) ?_
  refine G_if_ge (g_da dt_Math_abs 3 rfl) rfl rfl  (fun hc1 => ?_) (fun hc1 => ?_)
  · have h := o_t hc1 h
    refine G_lload_n (g_da dt_Math_abs 7 rfl) rfl rfl ?_
    exact G_lreturn (g_da dt_Math_abs 8 rfl) rfl rfl (g_nz rfl) (q_f h)
  · have h := o_f hc1 h
    refine G_lload_n (g_da dt_Math_abs 4 rfl) rfl rfl ?_
    refine G_lneg (g_da dt_Math_abs 5 rfl) ?_
    refine G_goto (g_da dt_Math_abs 6 rfl) rfl ?_
    exact G_lreturn (g_da dt_Math_abs 8 rfl) rfl rfl (g_nz rfl) (q_f h)
set_option maxHeartbeats 4000000 in
set_option maxRecDepth 100000 in
theorem Settings_stretchedY_ok {J : gS → gS} (hJc : g_jc J) {z0 : Int} {s0 : gS} {a1 : Int} {s : gS} (h : Settings_stretchedY a1 s = some (z0, s0)) : Ct M_Settings_stretchedY g_S [.ref 21, gi a1] (J s) (QF g_S J z0 s0) := by
  refine Ct_of [some (.ref 21), some (gi a1)] (plainFor_of_name (by decide)) rfl (Nat.le_of_ble_eq_true rfl) rfl (by decide) q_rF ?_
  unfold Settings_stretchedY at h
  refine G_aload_n (g_da dt_Settings_stretchedY 0 rfl) rfl rfl ?_
  refine G_getR (g_da dt_Settings_stretchedY 1 rfl) sh_21 fl_3_15 rfl ?_
  refine G_aload_n (g_da dt_Settings_stretchedY 2 rfl) rfl rfl ?_
  refine H_getI (g_da dt_Settings_stretchedY 3 rfl) sh_21 fl_3_39 rfl (hJc 21 rfl) ?_
  obtain ⟨hb1, h⟩ := o_g h
  refine H_iaload (g_da dt_Settings_stretchedY 4 rfl) sh_23 (hJc 23 rfl) rfl hb1 rfl ?_
  refine G_i2l (g_da dt_Settings_stretchedY 5 rfl) ?_
  refine G_iload_n (g_da dt_Settings_stretchedY 6 rfl) rfl rfl ?_
  refine G_i2l (g_da dt_Settings_stretchedY 7 rfl) ?_
  refine G_lmul (g_da dt_Settings_stretchedY 8 rfl) ?_
  refine G_ldc2 (z := 16) (g_da dt_Settings_stretchedY 9 rfl) cn_3_49 rfl ?_
  obtain ⟨r2, s3, hc4, h⟩ := o_b h
  refine H_cSF (Math_floorDiv_ok hc4) (g_da dt_Settings_stretchedY 10 rfl) lk_3_51 ms_Math_floorDiv rfl rfl rfl rfl rfl rfl ?_
  exact G_lreturn (g_da dt_Settings_stretchedY 11 rfl) rfl rfl (g_nz rfl) (q_f h)
set_option maxHeartbeats 4000000 in
set_option maxRecDepth 100000 in
theorem Settings_placedX_ok {J : gS → gS} (hJc : g_jc J) {z0 : Int} {s0 : gS} {a1 : Int} {s : gS} (h : Settings_placedX a1 s = some (z0, s0)) : Ct M_Settings_placedX g_S [.ref 21, gi a1] (J s) (QF g_S J z0 s0) := by
  refine Ct_of [some (.ref 21), some (gi a1)] (plainFor_of_name (by decide)) rfl (Nat.le_of_ble_eq_true rfl) rfl (by decide) q_rF ?_
  unfold Settings_placedX at h
  refine G_aload_n (g_da dt_Settings_placedX 0 rfl) rfl rfl ?_
  refine G_getR (g_da dt_Settings_placedX 1 rfl) sh_21 fl_3_18 rfl ?_
  refine G_aload_n (g_da dt_Settings_placedX 2 rfl) rfl rfl ?_
  refine H_getI (g_da dt_Settings_placedX 3 rfl) sh_21 fl_3_39 rfl (hJc 21 rfl) ?_
  obtain ⟨hb1, h⟩ := o_g h
  refine H_iaload (g_da dt_Settings_placedX 4 rfl) sh_24 (hJc 24 rfl) rfl hb1 rfl ?_
  refine G_i2l (g_da dt_Settings_placedX 5 rfl) ?_
  refine G_aload_n (g_da dt_Settings_placedX 6 rfl) rfl rfl ?_
  refine G_iload_n (g_da dt_Settings_placedX 7 rfl) rfl rfl ?_
  obtain ⟨r2, s3, hc4, h⟩ := o_b h
  refine H_cVF (Settings_stretchedX_ok hJc hc4) (g_da dt_Settings_placedX 8 rfl) lk_3_57 mv_Settings_stretchedX rfl sh_21 rfl rfl rfl rfl rfl rfl ?_
  refine G_ladd (g_da dt_Settings_placedX 9 rfl) ?_
  exact G_lreturn (g_da dt_Settings_placedX 10 rfl) rfl rfl (g_nz rfl) (q_f h)
set_option maxHeartbeats 4000000 in
set_option maxRecDepth 100000 in
theorem Settings_placedY_ok {J : gS → gS} (hJc : g_jc J) {z0 : Int} {s0 : gS} {a1 : Int} {s : gS} (h : Settings_placedY a1 s = some (z0, s0)) : Ct M_Settings_placedY g_S [.ref 21, gi a1] (J s) (QF g_S J z0 s0) := by
  refine Ct_of [some (.ref 21), some (gi a1)] (plainFor_of_name (by decide)) rfl (Nat.le_of_ble_eq_true rfl) rfl (by decide) q_rF ?_
  unfold Settings_placedY at h
  refine G_aload_n (g_da dt_Settings_placedY 0 rfl) rfl rfl ?_
  refine G_getR (g_da dt_Settings_placedY 1 rfl) sh_21 fl_3_21 rfl ?_
  refine G_aload_n (g_da dt_Settings_placedY 2 rfl) rfl rfl ?_
  refine H_getI (g_da dt_Settings_placedY 3 rfl) sh_21 fl_3_39 rfl (hJc 21 rfl) ?_
  obtain ⟨hb1, h⟩ := o_g h
  refine H_iaload (g_da dt_Settings_placedY 4 rfl) sh_25 (hJc 25 rfl) rfl hb1 rfl ?_
  refine G_i2l (g_da dt_Settings_placedY 5 rfl) ?_
  refine G_aload_n (g_da dt_Settings_placedY 6 rfl) rfl rfl ?_
  refine G_iload_n (g_da dt_Settings_placedY 7 rfl) rfl rfl ?_
  obtain ⟨r2, s3, hc4, h⟩ := o_b h
  refine H_cVF (Settings_stretchedY_ok hJc hc4) (g_da dt_Settings_placedY 8 rfl) lk_3_61 mv_Settings_stretchedY rfl sh_21 rfl rfl rfl rfl rfl rfl ?_
  refine G_ladd (g_da dt_Settings_placedY 9 rfl) ?_
  exact G_lreturn (g_da dt_Settings_placedY 10 rfl) rfl rfl (g_nz rfl) (q_f h)
set_option maxHeartbeats 4000000 in
set_option maxRecDepth 100000 in
theorem Job_isFarOff_ok {J : gS → gS} (hJc : g_jc J) {z0 : Int} {s0 : gS} {a1 : Int} {s : gS} (h : Job_isFarOff a1 s = some (z0, s0)) : Ct M_Job_isFarOff g_S [.ref 5, gi a1] (J s) (QE g_S J z0 s0) := by
  refine Ct_of [some (.ref 5), some (gi a1)] (plainFor_of_name (by decide)) rfl (Nat.le_of_ble_eq_true rfl) rfl (by decide) q_rE ?_
  unfold Job_isFarOff at h
  refine G_aload_n (g_da dt_Job_isFarOff 0 rfl) rfl rfl ?_
  refine G_getR (g_da dt_Job_isFarOff 1 rfl) sh_5 fl_6_46 rfl ?_
  refine G_aload_n (g_da dt_Job_isFarOff 2 rfl) rfl rfl ?_
  refine G_getR (g_da dt_Job_isFarOff 3 rfl) sh_5 fl_6_35 rfl ?_
  refine G_iload_n (g_da dt_Job_isFarOff 4 rfl) rfl rfl ?_
  obtain ⟨r1, s2, hc3, h⟩ := o_b h
  refine H_cVE (Values_peek_ok hJc hc3) (g_da dt_Job_isFarOff 5 rfl) lk_6_149 mv_Values_peek rfl sh_18 rfl rfl rfl rfl rfl rfl ?_
  obtain ⟨r4, s5, hc6, h⟩ := o_b h
  refine H_cVF (Settings_placedX_ok hJc hc6) (g_da dt_Job_isFarOff 6 rfl) lk_6_197 mv_Settings_placedX rfl sh_21 rfl rfl rfl rfl rfl rfl ?_
  obtain ⟨r7, s8, hc9, h⟩ := o_b h
  refine H_cSF (Math_abs_ok hc9) (g_da dt_Job_isFarOff 7 rfl) lk_6_178 ms_Math_abs rfl rfl rfl rfl rfl rfl ?_
  refine G_ldc2 (z := 100000) (g_da dt_Job_isFarOff 8 rfl) cn_6_200 rfl ?_
  refine G_lcmp (g_da dt_Job_isFarOff 9 rfl) ?_
  refine G_if_gt (g_da dt_Job_isFarOff 10 rfl) rfl rfl  (fun hc10 => ?_) (fun hc10 => ?_)
  · have h := o_t hc10 h
    refine G_iconst (g_da dt_Job_isFarOff 24 rfl) ?_
    refine G_goto (g_da dt_Job_isFarOff 25 rfl) rfl ?_
    exact G_ireturn (g_da dt_Job_isFarOff 27 rfl) rfl (g_bool (Or.inr w_1)).1 rfl (g_nz rfl) (q_e h)
  · have h := o_f hc10 h
    refine G_aload_n (g_da dt_Job_isFarOff 11 rfl) rfl rfl ?_
    refine G_getR (g_da dt_Job_isFarOff 12 rfl) sh_5 fl_6_46 rfl ?_
    refine G_aload_n (g_da dt_Job_isFarOff 13 rfl) rfl rfl ?_
    refine G_getR (g_da dt_Job_isFarOff 14 rfl) sh_5 fl_6_35 rfl ?_
    refine G_iload_n (g_da dt_Job_isFarOff 15 rfl) rfl rfl ?_
    refine G_iconst (g_da dt_Job_isFarOff 16 rfl) ?_
    refine G_isub (g_da dt_Job_isFarOff 17 rfl) ?_
    obtain ⟨r11, s12, hc13, h⟩ := o_b h
    refine H_cVE (Values_peek_ok hJc hc13) (g_da dt_Job_isFarOff 18 rfl) lk_6_149 mv_Values_peek rfl sh_18 rfl rfl rfl rfl rfl rfl ?_
    obtain ⟨r14, s15, hc16, h⟩ := o_b h
    refine H_cVF (Settings_placedY_ok hJc hc16) (g_da dt_Job_isFarOff 19 rfl) lk_6_202 mv_Settings_placedY rfl sh_21 rfl rfl rfl rfl rfl rfl ?_
    obtain ⟨r17, s18, hc19, h⟩ := o_b h
    refine H_cSF (Math_abs_ok hc19) (g_da dt_Job_isFarOff 20 rfl) lk_6_178 ms_Math_abs rfl rfl rfl rfl rfl rfl ?_
    refine G_ldc2 (z := 100000) (g_da dt_Job_isFarOff 21 rfl) cn_6_200 rfl ?_
    refine G_lcmp (g_da dt_Job_isFarOff 22 rfl) ?_
    refine G_if_le (g_da dt_Job_isFarOff 23 rfl) rfl rfl  (fun hc20 => ?_) (fun hc20 => ?_)
    · have h := o_t hc20 h
      refine G_iconst (g_da dt_Job_isFarOff 26 rfl) ?_
      exact G_ireturn (g_da dt_Job_isFarOff 27 rfl) rfl (g_bool (Or.inl w_0)).1 rfl (g_nz rfl) (q_e h)
    · have h := o_f hc20 h
      refine G_iconst (g_da dt_Job_isFarOff 24 rfl) ?_
      refine G_goto (g_da dt_Job_isFarOff 25 rfl) rfl ?_
      exact G_ireturn (g_da dt_Job_isFarOff 27 rfl) rfl (g_bool (Or.inr w_1)).1 rfl (g_nz rfl) (q_e h)
set_option maxHeartbeats 4000000 in
set_option maxRecDepth 100000 in
theorem Job_resultOf_ok {J : gS → gS} (hJc : g_jc J) {z0 : Int} {s0 : gS} {a1 : Int} {s : gS} (h : Job_resultOf a1 s = some (z0, s0)) : Ct M_Job_resultOf g_S [.ref 5, gi a1] (J s) (QF g_S J z0 s0) := by
  refine Ct_of [some (.ref 5), some (gi a1), none, none, none, none] (plainFor_of_name (by decide)) rfl (Nat.le_of_ble_eq_true rfl) rfl (by decide) q_rF ?_
  unfold Job_resultOf at h
  refine G_aload_n (g_da dt_Job_resultOf 0 rfl) rfl rfl ?_
  refine G_getR (g_da dt_Job_resultOf 1 rfl) sh_5 fl_6_35 rfl ?_
  refine G_iconst (g_da dt_Job_resultOf 2 rfl) ?_
  obtain ⟨r1, s2, hc3, h⟩ := o_b h
  refine H_cVE (Values_peek_ok hJc hc3) (g_da dt_Job_resultOf 3 rfl) lk_6_149 mv_Values_peek rfl sh_18 rfl rfl rfl rfl rfl rfl ?_
  refine G_i2l (g_da dt_Job_resultOf 4 rfl) ?_
  refine H_topl (fun v4 e5 => ?_)
  have h := o_l h v4 e5
  refine G_lstore_n (lv' := [_, _, _, none, none, none]) (g_da dt_Job_resultOf 5 rfl) rfl (Nat.le_of_ble_eq_true rfl) rfl rfl ?_
  refine G_aload_n (g_da dt_Job_resultOf 6 rfl) rfl rfl ?_
  refine G_getR (g_da dt_Job_resultOf 7 rfl) sh_5 fl_6_35 rfl ?_
  refine G_iconst (g_da dt_Job_resultOf 8 rfl) ?_
  obtain ⟨r6, s7, hc8, h⟩ := o_b h
  refine H_cVE (Values_peek_ok hJc hc8) (g_da dt_Job_resultOf 9 rfl) lk_6_149 mv_Values_peek rfl sh_18 rfl rfl rfl rfl rfl rfl ?_
  refine G_i2l (g_da dt_Job_resultOf 10 rfl) ?_
  refine H_topl (fun v9 e10 => ?_)
  have h := o_l h v9 e10
  refine G_lstore (lv' := [_, _, _, none, _, none]) (g_da dt_Job_resultOf 11 rfl) (Nat.le_of_ble_eq_true rfl) rfl rfl ?_
  refine G_iload_n (g_da dt_Job_resultOf 12 rfl) rfl rfl ?_
  refine G_table [(37, 167), (38, 209), (39, 209), (40, 209), (41, 209), (42, 146), (43, 136), (44, 209), (45, 141), (46, 209), (47, 151), (48, 209), (49, 209), (50, 209), (51, 209), (52, 209), (53, 209), (54, 209), (55, 209), (56, 209), (57, 209), (58, 209), (59, 209), (60, 183), (61, 196)] 209 (g_da dt_Job_resultOf 13 rfl) rfl rfl rfl ⟨fun hc11 => ?_, fun hc11 => ⟨fun hc12 => ?_, fun hc12 => ⟨fun hc13 => ?_, fun hc13 => ⟨fun hc14 => ?_, fun hc14 => ⟨fun hc15 => ?_, fun hc15 => ⟨fun hc16 => ?_, fun hc16 => ⟨fun hc17 => ?_, fun hc17 => ⟨fun hc18 => ?_, fun hc18 => ⟨fun hc19 => ?_, fun hc19 => ⟨fun hc20 => ?_, fun hc20 => ⟨fun hc21 => ?_, fun hc21 => ⟨fun hc22 => ?_, fun hc22 => ⟨fun hc23 => ?_, fun hc23 => ⟨fun hc24 => ?_, fun hc24 => ⟨fun hc25 => ?_, fun hc25 => ⟨fun hc26 => ?_, fun hc26 => ⟨fun hc27 => ?_, fun hc27 => ⟨fun hc28 => ?_, fun hc28 => ⟨fun hc29 => ?_, fun hc29 => ⟨fun hc30 => ?_, fun hc30 => ⟨fun hc31 => ?_, fun hc31 => ⟨fun hc32 => ?_, fun hc32 => ⟨fun hc33 => ?_, fun hc33 => ⟨fun hc34 => ?_, fun hc34 => ⟨fun hc35 => ?_, fun hc35 => ?_⟩⟩⟩⟩⟩⟩⟩⟩⟩⟩⟩⟩⟩⟩⟩⟩⟩⟩⟩⟩⟩⟩⟩⟩⟩
  · have h := o_t hc11 h
    refine G_lload (g_da dt_Job_resultOf 36 rfl) rfl ?_
    refine G_lconst (z := 0) (g_da dt_Job_resultOf 37 rfl) rfl ?_
    refine G_lcmp (g_da dt_Job_resultOf 38 rfl) ?_
    refine G_if_ne (g_da dt_Job_resultOf 39 rfl) rfl rfl  (fun hc36 => ?_) (fun hc36 => ?_)
    · have h := o_f hc36 h
      refine G_lload_n (g_da dt_Job_resultOf 42 rfl) rfl rfl ?_
      refine G_lload (g_da dt_Job_resultOf 43 rfl) rfl ?_
      obtain ⟨hz37, h⟩ := o_g h
      refine G_lrem (g_da dt_Job_resultOf 44 rfl) hz37 ?_
      exact G_lreturn (g_da dt_Job_resultOf 45 rfl) rfl rfl (g_nz rfl) (q_f h)
    · have h := o_t hc36 h
      refine G_lconst (z := 0) (g_da dt_Job_resultOf 40 rfl) rfl ?_
      refine G_goto (g_da dt_Job_resultOf 41 rfl) rfl ?_
      exact G_lreturn (g_da dt_Job_resultOf 45 rfl) rfl rfl (g_nz rfl) (q_f h)
  · have h := o_f hc11 h
    have h := o_t hc12 h
    refine G_lconst (z := 0) (g_da dt_Job_resultOf 62 rfl) rfl ?_
    exact G_lreturn (g_da dt_Job_resultOf 63 rfl) rfl rfl (g_nz rfl) (q_f h)
  · have h := o_f hc11 h
    have h := o_f hc12 h
    have h := o_t hc13 h
    refine G_lconst (z := 0) (g_da dt_Job_resultOf 62 rfl) rfl ?_
    exact G_lreturn (g_da dt_Job_resultOf 63 rfl) rfl rfl (g_nz rfl) (q_f h)
  · have h := o_f hc11 h
    have h := o_f hc12 h
    have h := o_f hc13 h
    have h := o_t hc14 h
    refine G_lconst (z := 0) (g_da dt_Job_resultOf 62 rfl) rfl ?_
    exact G_lreturn (g_da dt_Job_resultOf 63 rfl) rfl rfl (g_nz rfl) (q_f h)
  · have h := o_f hc11 h
    have h := o_f hc12 h
    have h := o_f hc13 h
    have h := o_f hc14 h
    have h := o_t hc15 h
    refine G_lconst (z := 0) (g_da dt_Job_resultOf 62 rfl) rfl ?_
    exact G_lreturn (g_da dt_Job_resultOf 63 rfl) rfl rfl (g_nz rfl) (q_f h)
  · have h := o_f hc11 h
    have h := o_f hc12 h
    have h := o_f hc13 h
    have h := o_f hc14 h
    have h := o_f hc15 h
    have h := o_t hc16 h
    refine G_lload_n (g_da dt_Job_resultOf 22 rfl) rfl rfl ?_
    refine G_lload (g_da dt_Job_resultOf 23 rfl) rfl ?_
    refine G_lmul (g_da dt_Job_resultOf 24 rfl) ?_
    exact G_lreturn (g_da dt_Job_resultOf 25 rfl) rfl rfl (g_nz rfl) (q_f h)
  · have h := o_f hc11 h
    have h := o_f hc12 h
    have h := o_f hc13 h
    have h := o_f hc14 h
    have h := o_f hc15 h
    have h := o_f hc16 h
    have h := o_t hc17 h
    refine G_lload_n (g_da dt_Job_resultOf 14 rfl) rfl rfl ?_
    refine G_lload (g_da dt_Job_resultOf 15 rfl) rfl ?_
    refine G_ladd (g_da dt_Job_resultOf 16 rfl) ?_
    exact G_lreturn (g_da dt_Job_resultOf 17 rfl) rfl rfl (g_nz rfl) (q_f h)
  · have h := o_f hc11 h
    have h := o_f hc12 h
    have h := o_f hc13 h
    have h := o_f hc14 h
    have h := o_f hc15 h
    have h := o_f hc16 h
    have h := o_f hc17 h
    have h := o_t hc18 h
    refine G_lconst (z := 0) (g_da dt_Job_resultOf 62 rfl) rfl ?_
    exact G_lreturn (g_da dt_Job_resultOf 63 rfl) rfl rfl (g_nz rfl) (q_f h)
  · have h := o_f hc11 h
    have h := o_f hc12 h
    have h := o_f hc13 h
    have h := o_f hc14 h
    have h := o_f hc15 h
    have h := o_f hc16 h
    have h := o_f hc17 h
    have h := o_f hc18 h
    have h := o_t hc19 h
    refine G_lload_n (g_da dt_Job_resultOf 18 rfl) rfl rfl ?_
    refine G_lload (g_da dt_Job_resultOf 19 rfl) rfl ?_
    refine G_lsub (g_da dt_Job_resultOf 20 rfl) ?_
    exact G_lreturn (g_da dt_Job_resultOf 21 rfl) rfl rfl (g_nz rfl) (q_f h)
  · have h := o_f hc11 h
    have h := o_f hc12 h
    have h := o_f hc13 h
    have h := o_f hc14 h
    have h := o_f hc15 h
    have h := o_f hc16 h
    have h := o_f hc17 h
    have h := o_f hc18 h
    have h := o_f hc19 h
    have h := o_t hc20 h
    refine G_lconst (z := 0) (g_da dt_Job_resultOf 62 rfl) rfl ?_
    exact G_lreturn (g_da dt_Job_resultOf 63 rfl) rfl rfl (g_nz rfl) (q_f h)
  · have h := o_f hc11 h
    have h := o_f hc12 h
    have h := o_f hc13 h
    have h := o_f hc14 h
    have h := o_f hc15 h
    have h := o_f hc16 h
    have h := o_f hc17 h
    have h := o_f hc18 h
    have h := o_f hc19 h
    have h := o_f hc20 h
    have h := o_t hc21 h
    refine G_lload (g_da dt_Job_resultOf 26 rfl) rfl ?_
    refine G_lconst (z := 0) (g_da dt_Job_resultOf 27 rfl) rfl ?_
    refine G_lcmp (g_da dt_Job_resultOf 28 rfl) ?_
    refine G_if_ne (g_da dt_Job_resultOf 29 rfl) rfl rfl  (fun hc38 => ?_) (fun hc38 => ?_)
    · have h := o_f hc38 h
      refine G_lload_n (g_da dt_Job_resultOf 32 rfl) rfl rfl ?_
      refine G_lload (g_da dt_Job_resultOf 33 rfl) rfl ?_
      obtain ⟨hz39, h⟩ := o_g h
      refine G_ldiv (g_da dt_Job_resultOf 34 rfl) hz39 ?_
      exact G_lreturn (g_da dt_Job_resultOf 35 rfl) rfl rfl (g_nz rfl) (q_f h)
    · have h := o_t hc38 h
      refine G_lconst (z := 0) (g_da dt_Job_resultOf 30 rfl) rfl ?_
      refine G_goto (g_da dt_Job_resultOf 31 rfl) rfl ?_
      exact G_lreturn (g_da dt_Job_resultOf 35 rfl) rfl rfl (g_nz rfl) (q_f h)
  · have h := o_f hc11 h
    have h := o_f hc12 h
    have h := o_f hc13 h
    have h := o_f hc14 h
    have h := o_f hc15 h
    have h := o_f hc16 h
    have h := o_f hc17 h
    have h := o_f hc18 h
    have h := o_f hc19 h
    have h := o_f hc20 h
    have h := o_f hc21 h
    have h := o_t hc22 h
    refine G_lconst (z := 0) (g_da dt_Job_resultOf 62 rfl) rfl ?_
    exact G_lreturn (g_da dt_Job_resultOf 63 rfl) rfl rfl (g_nz rfl) (q_f h)
  · have h := o_f hc11 h
    have h := o_f hc12 h
    have h := o_f hc13 h
    have h := o_f hc14 h
    have h := o_f hc15 h
    have h := o_f hc16 h
    have h := o_f hc17 h
    have h := o_f hc18 h
    have h := o_f hc19 h
    have h := o_f hc20 h
    have h := o_f hc21 h
    have h := o_f hc22 h
    have h := o_t hc23 h
    refine G_lconst (z := 0) (g_da dt_Job_resultOf 62 rfl) rfl ?_
    exact G_lreturn (g_da dt_Job_resultOf 63 rfl) rfl rfl (g_nz rfl) (q_f h)
  · have h := o_f hc11 h
    have h := o_f hc12 h
    have h := o_f hc13 h
    have h := o_f hc14 h
    have h := o_f hc15 h
    have h := o_f hc16 h
    have h := o_f hc17 h
    have h := o_f hc18 h
    have h := o_f hc19 h
    have h := o_f hc20 h
    have h := o_f hc21 h
    have h := o_f hc22 h
    have h := o_f hc23 h
    have h := o_t hc24 h
    refine G_lconst (z := 0) (g_da dt_Job_resultOf 62 rfl) rfl ?_
    exact G_lreturn (g_da dt_Job_resultOf 63 rfl) rfl rfl (g_nz rfl) (q_f h)
  · have h := o_f hc11 h
    have h := o_f hc12 h
    have h := o_f hc13 h
    have h := o_f hc14 h
    have h := o_f hc15 h
    have h := o_f hc16 h
    have h := o_f hc17 h
    have h := o_f hc18 h
    have h := o_f hc19 h
    have h := o_f hc20 h
    have h := o_f hc21 h
    have h := o_f hc22 h
    have h := o_f hc23 h
    have h := o_f hc24 h
    have h := o_t hc25 h
    refine G_lconst (z := 0) (g_da dt_Job_resultOf 62 rfl) rfl ?_
    exact G_lreturn (g_da dt_Job_resultOf 63 rfl) rfl rfl (g_nz rfl) (q_f h)
  · have h := o_f hc11 h
    have h := o_f hc12 h
    have h := o_f hc13 h
    have h := o_f hc14 h
    have h := o_f hc15 h
    have h := o_f hc16 h
    have h := o_f hc17 h
    have h := o_f hc18 h
    have h := o_f hc19 h
    have h := o_f hc20 h
    have h := o_f hc21 h
    have h := o_f hc22 h
    have h := o_f hc23 h
    have h := o_f hc24 h
    have h := o_f hc25 h
    have h := o_t hc26 h
    refine G_lconst (z := 0) (g_da dt_Job_resultOf 62 rfl) rfl ?_
    exact G_lreturn (g_da dt_Job_resultOf 63 rfl) rfl rfl (g_nz rfl) (q_f h)
  · have h := o_f hc11 h
    have h := o_f hc12 h
    have h := o_f hc13 h
    have h := o_f hc14 h
    have h := o_f hc15 h
    have h := o_f hc16 h
    have h := o_f hc17 h
    have h := o_f hc18 h
    have h := o_f hc19 h
    have h := o_f hc20 h
    have h := o_f hc21 h
    have h := o_f hc22 h
    have h := o_f hc23 h
    have h := o_f hc24 h
    have h := o_f hc25 h
    have h := o_f hc26 h
    have h := o_t hc27 h
    refine G_lconst (z := 0) (g_da dt_Job_resultOf 62 rfl) rfl ?_
    exact G_lreturn (g_da dt_Job_resultOf 63 rfl) rfl rfl (g_nz rfl) (q_f h)
  · have h := o_f hc11 h
    have h := o_f hc12 h
    have h := o_f hc13 h
    have h := o_f hc14 h
    have h := o_f hc15 h
    have h := o_f hc16 h
    have h := o_f hc17 h
    have h := o_f hc18 h
    have h := o_f hc19 h
    have h := o_f hc20 h
    have h := o_f hc21 h
    have h := o_f hc22 h
    have h := o_f hc23 h
    have h := o_f hc24 h
    have h := o_f hc25 h
    have h := o_f hc26 h
    have h := o_f hc27 h
    have h := o_t hc28 h
    refine G_lconst (z := 0) (g_da dt_Job_resultOf 62 rfl) rfl ?_
    exact G_lreturn (g_da dt_Job_resultOf 63 rfl) rfl rfl (g_nz rfl) (q_f h)
  · have h := o_f hc11 h
    have h := o_f hc12 h
    have h := o_f hc13 h
    have h := o_f hc14 h
    have h := o_f hc15 h
    have h := o_f hc16 h
    have h := o_f hc17 h
    have h := o_f hc18 h
    have h := o_f hc19 h
    have h := o_f hc20 h
    have h := o_f hc21 h
    have h := o_f hc22 h
    have h := o_f hc23 h
    have h := o_f hc24 h
    have h := o_f hc25 h
    have h := o_f hc26 h
    have h := o_f hc27 h
    have h := o_f hc28 h
    have h := o_t hc29 h
    refine G_lconst (z := 0) (g_da dt_Job_resultOf 62 rfl) rfl ?_
    exact G_lreturn (g_da dt_Job_resultOf 63 rfl) rfl rfl (g_nz rfl) (q_f h)
  · have h := o_f hc11 h
    have h := o_f hc12 h
    have h := o_f hc13 h
    have h := o_f hc14 h
    have h := o_f hc15 h
    have h := o_f hc16 h
    have h := o_f hc17 h
    have h := o_f hc18 h
    have h := o_f hc19 h
    have h := o_f hc20 h
    have h := o_f hc21 h
    have h := o_f hc22 h
    have h := o_f hc23 h
    have h := o_f hc24 h
    have h := o_f hc25 h
    have h := o_f hc26 h
    have h := o_f hc27 h
    have h := o_f hc28 h
    have h := o_f hc29 h
    have h := o_t hc30 h
    refine G_lconst (z := 0) (g_da dt_Job_resultOf 62 rfl) rfl ?_
    exact G_lreturn (g_da dt_Job_resultOf 63 rfl) rfl rfl (g_nz rfl) (q_f h)
  · have h := o_f hc11 h
    have h := o_f hc12 h
    have h := o_f hc13 h
    have h := o_f hc14 h
    have h := o_f hc15 h
    have h := o_f hc16 h
    have h := o_f hc17 h
    have h := o_f hc18 h
    have h := o_f hc19 h
    have h := o_f hc20 h
    have h := o_f hc21 h
    have h := o_f hc22 h
    have h := o_f hc23 h
    have h := o_f hc24 h
    have h := o_f hc25 h
    have h := o_f hc26 h
    have h := o_f hc27 h
    have h := o_f hc28 h
    have h := o_f hc29 h
    have h := o_f hc30 h
    have h := o_t hc31 h
    refine G_lconst (z := 0) (g_da dt_Job_resultOf 62 rfl) rfl ?_
    exact G_lreturn (g_da dt_Job_resultOf 63 rfl) rfl rfl (g_nz rfl) (q_f h)
  · have h := o_f hc11 h
    have h := o_f hc12 h
    have h := o_f hc13 h
    have h := o_f hc14 h
    have h := o_f hc15 h
    have h := o_f hc16 h
    have h := o_f hc17 h
    have h := o_f hc18 h
    have h := o_f hc19 h
    have h := o_f hc20 h
    have h := o_f hc21 h
    have h := o_f hc22 h
    have h := o_f hc23 h
    have h := o_f hc24 h
    have h := o_f hc25 h
    have h := o_f hc26 h
    have h := o_f hc27 h
    have h := o_f hc28 h
    have h := o_f hc29 h
    have h := o_f hc30 h
    have h := o_f hc31 h
    have h := o_t hc32 h
    refine G_lconst (z := 0) (g_da dt_Job_resultOf 62 rfl) rfl ?_
    exact G_lreturn (g_da dt_Job_resultOf 63 rfl) rfl rfl (g_nz rfl) (q_f h)
  · have h := o_f hc11 h
    have h := o_f hc12 h
    have h := o_f hc13 h
    have h := o_f hc14 h
    have h := o_f hc15 h
    have h := o_f hc16 h
    have h := o_f hc17 h
    have h := o_f hc18 h
    have h := o_f hc19 h
    have h := o_f hc20 h
    have h := o_f hc21 h
    have h := o_f hc22 h
    have h := o_f hc23 h
    have h := o_f hc24 h
    have h := o_f hc25 h
    have h := o_f hc26 h
    have h := o_f hc27 h
    have h := o_f hc28 h
    have h := o_f hc29 h
    have h := o_f hc30 h
    have h := o_f hc31 h
    have h := o_f hc32 h
    have h := o_t hc33 h
    refine G_lconst (z := 0) (g_da dt_Job_resultOf 62 rfl) rfl ?_
    exact G_lreturn (g_da dt_Job_resultOf 63 rfl) rfl rfl (g_nz rfl) (q_f h)
  · have h := o_f hc11 h
    have h := o_f hc12 h
    have h := o_f hc13 h
    have h := o_f hc14 h
    have h := o_f hc15 h
    have h := o_f hc16 h
    have h := o_f hc17 h
    have h := o_f hc18 h
    have h := o_f hc19 h
    have h := o_f hc20 h
    have h := o_f hc21 h
    have h := o_f hc22 h
    have h := o_f hc23 h
    have h := o_f hc24 h
    have h := o_f hc25 h
    have h := o_f hc26 h
    have h := o_f hc27 h
    have h := o_f hc28 h
    have h := o_f hc29 h
    have h := o_f hc30 h
    have h := o_f hc31 h
    have h := o_f hc32 h
    have h := o_f hc33 h
    have h := o_t hc34 h
    refine G_lload_n (g_da dt_Job_resultOf 46 rfl) rfl rfl ?_
    refine G_lload (g_da dt_Job_resultOf 47 rfl) rfl ?_
    refine G_lcmp (g_da dt_Job_resultOf 48 rfl) ?_
    refine G_if_ge (g_da dt_Job_resultOf 49 rfl) rfl rfl  (fun hc40 => ?_) (fun hc40 => ?_)
    · have h := o_t hc40 h
      refine G_lconst (z := 0) (g_da dt_Job_resultOf 52 rfl) rfl ?_
      exact G_lreturn (g_da dt_Job_resultOf 53 rfl) rfl rfl (g_nz rfl) (q_f h)
    · have h := o_f hc40 h
      refine G_lconst (z := 1) (g_da dt_Job_resultOf 50 rfl) rfl ?_
      refine G_goto (g_da dt_Job_resultOf 51 rfl) rfl ?_
      exact G_lreturn (g_da dt_Job_resultOf 53 rfl) rfl rfl (g_nz rfl) (q_f h)
  · have h := o_f hc11 h
    have h := o_f hc12 h
    have h := o_f hc13 h
    have h := o_f hc14 h
    have h := o_f hc15 h
    have h := o_f hc16 h
    have h := o_f hc17 h
    have h := o_f hc18 h
    have h := o_f hc19 h
    have h := o_f hc20 h
    have h := o_f hc21 h
    have h := o_f hc22 h
    have h := o_f hc23 h
    have h := o_f hc24 h
    have h := o_f hc25 h
    have h := o_f hc26 h
    have h := o_f hc27 h
    have h := o_f hc28 h
    have h := o_f hc29 h
    have h := o_f hc30 h
    have h := o_f hc31 h
    have h := o_f hc32 h
    have h := o_f hc33 h
    have h := o_f hc34 h
    have h := o_t hc35 h
    refine G_lload_n (g_da dt_Job_resultOf 54 rfl) rfl rfl ?_
    refine G_lload (g_da dt_Job_resultOf 55 rfl) rfl ?_
    refine G_lcmp (g_da dt_Job_resultOf 56 rfl) ?_
    refine G_if_ne (g_da dt_Job_resultOf 57 rfl) rfl rfl  (fun hc41 => ?_) (fun hc41 => ?_)
    · have h := o_f hc41 h
      refine G_lconst (z := 0) (g_da dt_Job_resultOf 60 rfl) rfl ?_
      exact G_lreturn (g_da dt_Job_resultOf 61 rfl) rfl rfl (g_nz rfl) (q_f h)
    · have h := o_t hc41 h
      refine G_lconst (z := 1) (g_da dt_Job_resultOf 58 rfl) rfl ?_
      refine G_goto (g_da dt_Job_resultOf 59 rfl) rfl ?_
      exact G_lreturn (g_da dt_Job_resultOf 61 rfl) rfl rfl (g_nz rfl) (q_f h)
  · have h := o_f hc11 h
    have h := o_f hc12 h
    have h := o_f hc13 h
    have h := o_f hc14 h
    have h := o_f hc15 h
    have h := o_f hc16 h
    have h := o_f hc17 h
    have h := o_f hc18 h
    have h := o_f hc19 h
    have h := o_f hc20 h
    have h := o_f hc21 h
    have h := o_f hc22 h
    have h := o_f hc23 h
    have h := o_f hc24 h
    have h := o_f hc25 h
    have h := o_f hc26 h
    have h := o_f hc27 h
    have h := o_f hc28 h
    have h := o_f hc29 h
    have h := o_f hc30 h
    have h := o_f hc31 h
    have h := o_f hc32 h
    have h := o_f hc33 h
    have h := o_f hc34 h
    have h := o_f hc35 h
    refine G_lconst (z := 0) (g_da dt_Job_resultOf 62 rfl) rfl ?_
    exact G_lreturn (g_da dt_Job_resultOf 63 rfl) rfl rfl (g_nz rfl) (q_f h)
set_option maxHeartbeats 4000000 in
set_option maxRecDepth 100000 in
theorem Job_goesBeyond_84_ok {J : gS → gS} (hJc : g_jc J) {z0 : Int} {s0 : gS}  {l1 : Int} {s : gS} (h : Job_goesBeyond_84 l1 s = some (z0, s0)) : G M_Job_goesBeyond (QE g_S J z0 s0) (g_S, 0, 0) (J s) 84 [some (.ref 5), some (gi l1)] [] := by
  unfold Job_goesBeyond_84 at h
  refine G_aload_n (g_da dt_Job_goesBeyond 2 rfl) rfl rfl ?_
  refine G_iload_n (g_da dt_Job_goesBeyond 3 rfl) rfl rfl ?_
  obtain ⟨r10, s11, hc12, h⟩ := o_b h
  refine H_cVF (Job_resultOf_ok hJc hc12) (g_da dt_Job_goesBeyond 4 rfl) lk_6_174 mv_Job_resultOf rfl sh_5 rfl rfl rfl rfl rfl rfl ?_
  obtain ⟨r13, s14, hc15, h⟩ := o_b h
  refine H_cSF (Math_abs_ok hc15) (g_da dt_Job_goesBeyond 5 rfl) lk_6_178 ms_Math_abs rfl rfl rfl rfl rfl rfl ?_
  refine G_ldc2 (z := 1000000) (g_da dt_Job_goesBeyond 6 rfl) cn_6_184 rfl ?_
  refine G_lcmp (g_da dt_Job_goesBeyond 7 rfl) ?_
  refine G_if_le (g_da dt_Job_goesBeyond 8 rfl) rfl rfl  (fun hc16 => ?_) (fun hc16 => ?_)
  · have h := o_t hc16 h
    refine G_iconst (g_da dt_Job_goesBeyond 11 rfl) ?_
    exact G_ireturn (g_da dt_Job_goesBeyond 12 rfl) rfl (g_bool (Or.inl w_0)).1 rfl (g_nz rfl) (q_e h)
  · have h := o_f hc16 h
    refine G_iconst (g_da dt_Job_goesBeyond 9 rfl) ?_
    refine G_goto (g_da dt_Job_goesBeyond 10 rfl) rfl ?_
    exact G_ireturn (g_da dt_Job_goesBeyond 12 rfl) rfl (g_bool (Or.inr w_1)).1 rfl (g_nz rfl) (q_e h)
set_option maxHeartbeats 4000000 in
set_option maxRecDepth 100000 in
theorem Job_goesBeyond_105_ok {J : gS → gS} (hJc : g_jc J) {z0 : Int} {s0 : gS}  {s : gS} (h : Job_goesBeyond_105 s = some (z0, s0)) : G M_Job_goesBeyond (QE g_S J z0 s0) (g_S, 0, 0) (J s) 105 [some (.ref 5), none] [] := by
  unfold Job_goesBeyond_105 at h
  refine G_aload_n (g_da dt_Job_goesBeyond 13 rfl) rfl rfl ?_
  refine G_iconst (g_da dt_Job_goesBeyond 14 rfl) ?_
  obtain ⟨r37, s38, hc39, h⟩ := o_b h
  refine H_cVE (Job_isFarOff_ok hJc hc39) (g_da dt_Job_goesBeyond 15 rfl) lk_6_186 mv_Job_isFarOff rfl sh_5 rfl rfl rfl rfl rfl rfl ?_
  obtain ⟨hz40, h⟩ := o_g h
  exact G_ireturn (g_da dt_Job_goesBeyond 16 rfl) rfl (g_bool hz40).1 rfl (g_nz rfl) (q_e h)
set_option maxHeartbeats 4000000 in
set_option maxRecDepth 100000 in
theorem Job_goesBeyond_ok {J : gS → gS} (hJc : g_jc J) {z0 : Int} {s0 : gS} {a1 : Int} {s : gS} (h : Job_goesBeyond a1 s = some (z0, s0)) : Ct M_Job_goesBeyond g_S [.ref 5, gi a1] (J s) (QE g_S J z0 s0) := by
  refine Ct_of [some (.ref 5), some (gi a1)] (plainFor_of_name (by decide)) rfl (Nat.le_of_ble_eq_true rfl) rfl (by decide) q_rE ?_
  unfold Job_goesBeyond at h
  refine G_iload_n (g_da dt_Job_goesBeyond 0 rfl) rfl rfl ?_
  refine G_lookup [(42, 84), (43, 84), (45, 84), (67, 111), (71, 197), (76, 105), (77, 105), (83, 141), (84, 105)] 227 (g_da dt_Job_goesBeyond 1 rfl) rfl rfl rfl ⟨fun hc1 => ?_, fun hc1 => ⟨fun hc2 => ?_, fun hc2 => ⟨fun hc3 => ?_, fun hc3 => ⟨fun hc4 => ?_, fun hc4 => ⟨fun hc5 => ?_, fun hc5 => ⟨fun hc6 => ?_, fun hc6 => ⟨fun hc7 => ?_, fun hc7 => ⟨fun hc8 => ?_, fun hc8 => ⟨fun hc9 => ?_, fun hc9 => ?_⟩⟩⟩⟩⟩⟩⟩⟩⟩
  · have h := o_t hc1 h
    exact G_subK (Job_goesBeyond_84_ok hJc h) ⟨rfl, ⟨rfl, trivial⟩⟩
  · have h := o_f hc1 h
    have h := o_t hc2 h
    exact G_subK (Job_goesBeyond_84_ok hJc h) ⟨rfl, ⟨rfl, trivial⟩⟩
  · have h := o_f hc1 h
    have h := o_f hc2 h
    have h := o_t hc3 h
    exact G_subK (Job_goesBeyond_84_ok hJc h) ⟨rfl, ⟨rfl, trivial⟩⟩
  · have h := o_f hc1 h
    have h := o_f hc2 h
    have h := o_f hc3 h
    have h := o_t hc4 h
    refine G_aload_n (g_da dt_Job_goesBeyond 17 rfl) rfl rfl ?_
    refine G_iconst (g_da dt_Job_goesBeyond 18 rfl) ?_
    obtain ⟨r17, s18, hc19, h⟩ := o_b h
    refine H_cVE (Job_isFarOff_ok hJc hc19) (g_da dt_Job_goesBeyond 19 rfl) lk_6_186 mv_Job_isFarOff rfl sh_5 rfl rfl rfl rfl rfl rfl ?_
    refine G_if_ne (g_da dt_Job_goesBeyond 20 rfl) rfl rfl  (fun hc20 => ?_) (fun hc20 => ?_)
    · have h := o_f hc20 h
      refine G_iconst (g_da dt_Job_goesBeyond 29 rfl) ?_
      refine G_goto (g_da dt_Job_goesBeyond 30 rfl) rfl ?_
      exact G_ireturn (g_da dt_Job_goesBeyond 32 rfl) rfl (g_bool (Or.inr w_1)).1 rfl (g_nz rfl) (q_e h)
    · have h := o_t hc20 h
      refine G_aload_n (g_da dt_Job_goesBeyond 21 rfl) rfl rfl ?_
      refine G_iconst (g_da dt_Job_goesBeyond 22 rfl) ?_
      obtain ⟨r21, s22, hc23, h⟩ := o_b h
      refine H_cVE (Job_isFarOff_ok hJc hc23) (g_da dt_Job_goesBeyond 23 rfl) lk_6_186 mv_Job_isFarOff rfl sh_5 rfl rfl rfl rfl rfl rfl ?_
      refine G_if_ne (g_da dt_Job_goesBeyond 24 rfl) rfl rfl  (fun hc24 => ?_) (fun hc24 => ?_)
      · have h := o_f hc24 h
        refine G_iconst (g_da dt_Job_goesBeyond 29 rfl) ?_
        refine G_goto (g_da dt_Job_goesBeyond 30 rfl) rfl ?_
        exact G_ireturn (g_da dt_Job_goesBeyond 32 rfl) rfl (g_bool (Or.inr w_1)).1 rfl (g_nz rfl) (q_e h)
      · have h := o_t hc24 h
        refine G_aload_n (g_da dt_Job_goesBeyond 25 rfl) rfl rfl ?_
        refine G_iconst (g_da dt_Job_goesBeyond 26 rfl) ?_
        obtain ⟨r25, s26, hc27, h⟩ := o_b h
        refine H_cVE (Job_isFarOff_ok hJc hc27) (g_da dt_Job_goesBeyond 27 rfl) lk_6_186 mv_Job_isFarOff rfl sh_5 rfl rfl rfl rfl rfl rfl ?_
        refine G_if_eq (g_da dt_Job_goesBeyond 28 rfl) rfl rfl  (fun hc28 => ?_) (fun hc28 => ?_)
        · have h := o_t hc28 h
          refine G_iconst (g_da dt_Job_goesBeyond 31 rfl) ?_
          exact G_ireturn (g_da dt_Job_goesBeyond 32 rfl) rfl (g_bool (Or.inl w_0)).1 rfl (g_nz rfl) (q_e h)
        · have h := o_f hc28 h
          refine G_iconst (g_da dt_Job_goesBeyond 29 rfl) ?_
          refine G_goto (g_da dt_Job_goesBeyond 30 rfl) rfl ?_
          exact G_ireturn (g_da dt_Job_goesBeyond 32 rfl) rfl (g_bool (Or.inr w_1)).1 rfl (g_nz rfl) (q_e h)
  · have h := o_f hc1 h
    have h := o_f hc2 h
    have h := o_f hc3 h
    have h := o_f hc4 h
    have h := o_t hc5 h
    refine G_aload_n (g_da dt_Job_goesBeyond 59 rfl) rfl rfl ?_
    refine G_getR (g_da dt_Job_goesBeyond 60 rfl) sh_5 fl_6_35 rfl ?_
    refine G_iconst (g_da dt_Job_goesBeyond 61 rfl) ?_
    obtain ⟨r29, s30, hc31, h⟩ := o_b h
    refine H_cVE (Values_peek_ok hJc hc31) (g_da dt_Job_goesBeyond 62 rfl) lk_6_149 mv_Values_peek rfl sh_18 rfl rfl rfl rfl rfl rfl ?_
    refine G_if_lt (g_da dt_Job_goesBeyond 63 rfl) rfl rfl  (fun hc32 => ?_) (fun hc32 => ?_)
    · have h := o_t hc32 h
      refine G_iconst (g_da dt_Job_goesBeyond 70 rfl) ?_
      refine G_goto (g_da dt_Job_goesBeyond 71 rfl) rfl ?_
      exact G_ireturn (g_da dt_Job_goesBeyond 73 rfl) rfl (g_bool (Or.inr w_1)).1 rfl (g_nz rfl) (q_e h)
    · have h := o_f hc32 h
      refine G_aload_n (g_da dt_Job_goesBeyond 64 rfl) rfl rfl ?_
      refine G_getR (g_da dt_Job_goesBeyond 65 rfl) sh_5 fl_6_35 rfl ?_
      refine G_iconst (g_da dt_Job_goesBeyond 66 rfl) ?_
      obtain ⟨r33, s34, hc35, h⟩ := o_b h
      refine H_cVE (Values_peek_ok hJc hc35) (g_da dt_Job_goesBeyond 67 rfl) lk_6_149 mv_Values_peek rfl sh_18 rfl rfl rfl rfl rfl rfl ?_
      refine G_bipush (g_da dt_Job_goesBeyond 68 rfl) b8w_16 ?_
      refine G_icmp_le (g_da dt_Job_goesBeyond 69 rfl) rfl rfl w_16 (fun hc36 => ?_) (fun hc36 => ?_)
      · have h := o_t hc36 h
        refine G_iconst (g_da dt_Job_goesBeyond 72 rfl) ?_
        exact G_ireturn (g_da dt_Job_goesBeyond 73 rfl) rfl (g_bool (Or.inl w_0)).1 rfl (g_nz rfl) (q_e h)
      · have h := o_f hc36 h
        refine G_iconst (g_da dt_Job_goesBeyond 70 rfl) ?_
        refine G_goto (g_da dt_Job_goesBeyond 71 rfl) rfl ?_
        exact G_ireturn (g_da dt_Job_goesBeyond 73 rfl) rfl (g_bool (Or.inr w_1)).1 rfl (g_nz rfl) (q_e h)
  · have h := o_f hc1 h
    have h := o_f hc2 h
    have h := o_f hc3 h
    have h := o_f hc4 h
    have h := o_f hc5 h
    have h := o_t hc6 h
    exact G_subK (Job_goesBeyond_105_ok hJc h) ⟨rfl, trivial⟩
  · have h := o_f hc1 h
    have h := o_f hc2 h
    have h := o_f hc3 h
    have h := o_f hc4 h
    have h := o_f hc5 h
    have h := o_f hc6 h
    have h := o_t hc7 h
    exact G_subK (Job_goesBeyond_105_ok hJc h) ⟨rfl, trivial⟩
  · have h := o_f hc1 h
    have h := o_f hc2 h
    have h := o_f hc3 h
    have h := o_f hc4 h
    have h := o_f hc5 h
    have h := o_f hc6 h
    have h := o_f hc7 h
    have h := o_t hc8 h
    refine G_aload_n (g_da dt_Job_goesBeyond 33 rfl) rfl rfl ?_
    refine G_getR (g_da dt_Job_goesBeyond 34 rfl) sh_5 fl_6_46 rfl ?_
    refine G_aload_n (g_da dt_Job_goesBeyond 35 rfl) rfl rfl ?_
    refine G_getR (g_da dt_Job_goesBeyond 36 rfl) sh_5 fl_6_35 rfl ?_
    refine G_iconst (g_da dt_Job_goesBeyond 37 rfl) ?_
    obtain ⟨r41, s42, hc43, h⟩ := o_b h
    refine H_cVE (Values_peek_ok hJc hc43) (g_da dt_Job_goesBeyond 38 rfl) lk_6_149 mv_Values_peek rfl sh_18 rfl rfl rfl rfl rfl rfl ?_
    obtain ⟨r44, s45, hc46, h⟩ := o_b h
    refine H_cVF (Settings_stretchedX_ok hJc hc46) (g_da dt_Job_goesBeyond 39 rfl) lk_6_189 mv_Settings_stretchedX rfl sh_21 rfl rfl rfl rfl rfl rfl ?_
    obtain ⟨r47, s48, hc49, h⟩ := o_b h
    refine H_cSF (Math_abs_ok hc49) (g_da dt_Job_goesBeyond 40 rfl) lk_6_178 ms_Math_abs rfl rfl rfl rfl rfl rfl ?_
    refine G_ldc2 (z := 4096) (g_da dt_Job_goesBeyond 41 rfl) cn_6_192 rfl ?_
    refine G_lcmp (g_da dt_Job_goesBeyond 42 rfl) ?_
    refine G_if_gt (g_da dt_Job_goesBeyond 43 rfl) rfl rfl  (fun hc50 => ?_) (fun hc50 => ?_)
    · have h := o_t hc50 h
      refine G_iconst (g_da dt_Job_goesBeyond 55 rfl) ?_
      refine G_goto (g_da dt_Job_goesBeyond 56 rfl) rfl ?_
      exact G_ireturn (g_da dt_Job_goesBeyond 58 rfl) rfl (g_bool (Or.inr w_1)).1 rfl (g_nz rfl) (q_e h)
    · have h := o_f hc50 h
      refine G_aload_n (g_da dt_Job_goesBeyond 44 rfl) rfl rfl ?_
      refine G_getR (g_da dt_Job_goesBeyond 45 rfl) sh_5 fl_6_46 rfl ?_
      refine G_aload_n (g_da dt_Job_goesBeyond 46 rfl) rfl rfl ?_
      refine G_getR (g_da dt_Job_goesBeyond 47 rfl) sh_5 fl_6_35 rfl ?_
      refine G_iconst (g_da dt_Job_goesBeyond 48 rfl) ?_
      obtain ⟨r51, s52, hc53, h⟩ := o_b h
      refine H_cVE (Values_peek_ok hJc hc53) (g_da dt_Job_goesBeyond 49 rfl) lk_6_149 mv_Values_peek rfl sh_18 rfl rfl rfl rfl rfl rfl ?_
      obtain ⟨r54, s55, hc56, h⟩ := o_b h
      refine H_cVF (Settings_stretchedY_ok hJc hc56) (g_da dt_Job_goesBeyond 50 rfl) lk_6_194 mv_Settings_stretchedY rfl sh_21 rfl rfl rfl rfl rfl rfl ?_
      obtain ⟨r57, s58, hc59, h⟩ := o_b h
      refine H_cSF (Math_abs_ok hc59) (g_da dt_Job_goesBeyond 51 rfl) lk_6_178 ms_Math_abs rfl rfl rfl rfl rfl rfl ?_
      refine G_ldc2 (z := 4096) (g_da dt_Job_goesBeyond 52 rfl) cn_6_192 rfl ?_
      refine G_lcmp (g_da dt_Job_goesBeyond 53 rfl) ?_
      refine G_if_le (g_da dt_Job_goesBeyond 54 rfl) rfl rfl  (fun hc60 => ?_) (fun hc60 => ?_)
      · have h := o_t hc60 h
        refine G_iconst (g_da dt_Job_goesBeyond 57 rfl) ?_
        exact G_ireturn (g_da dt_Job_goesBeyond 58 rfl) rfl (g_bool (Or.inl w_0)).1 rfl (g_nz rfl) (q_e h)
      · have h := o_f hc60 h
        refine G_iconst (g_da dt_Job_goesBeyond 55 rfl) ?_
        refine G_goto (g_da dt_Job_goesBeyond 56 rfl) rfl ?_
        exact G_ireturn (g_da dt_Job_goesBeyond 58 rfl) rfl (g_bool (Or.inr w_1)).1 rfl (g_nz rfl) (q_e h)
  · have h := o_f hc1 h
    have h := o_f hc2 h
    have h := o_f hc3 h
    have h := o_f hc4 h
    have h := o_f hc5 h
    have h := o_f hc6 h
    have h := o_f hc7 h
    have h := o_f hc8 h
    have h := o_t hc9 h
    exact G_subK (Job_goesBeyond_105_ok hJc h) ⟨rfl, trivial⟩
  · have h := o_f hc1 h
    have h := o_f hc2 h
    have h := o_f hc3 h
    have h := o_f hc4 h
    have h := o_f hc5 h
    have h := o_f hc6 h
    have h := o_f hc7 h
    have h := o_f hc8 h
    have h := o_f hc9 h
    refine G_iconst (g_da dt_Job_goesBeyond 74 rfl) ?_
    exact G_ireturn (g_da dt_Job_goesBeyond 75 rfl) rfl (g_bool (Or.inl w_0)).1 rfl (g_nz rfl) (q_e h)
set_option maxHeartbeats 4000000 in
set_option maxRecDepth 100000 in
theorem B_isDigit_ok {J : gS → gS} {z0 : Int} {s0 : gS} {a0 : Int} {s : gS} (h : B_isDigit a0 s = some (z0, s0)) : Ct M_B_isDigit g_S [gi a0] (J s) (QE g_S J z0 s0) := by
  refine Ct_of [some (gi a0)] (plainFor_of_name (by decide)) rfl (Nat.le_of_ble_eq_true rfl) rfl (by decide) q_rE ?_
  unfold B_isDigit at h
  refine G_iload_n (g_da dt_B_isDigit 0 rfl) rfl rfl ?_
  refine G_bipush (g_da dt_B_isDigit 1 rfl) b8w_48 ?_
  refine G_icmp_lt (g_da dt_B_isDigit 2 rfl) rfl rfl w_48 (fun hc1 => ?_) (fun hc1 => ?_)
  · have h := o_t hc1 h
    refine G_iconst (g_da dt_B_isDigit 8 rfl) ?_
    exact G_ireturn (g_da dt_B_isDigit 9 rfl) rfl (g_bool (Or.inl w_0)).1 rfl (g_nz rfl) (q_e h)
  · have h := o_f hc1 h
    refine G_iload_n (g_da dt_B_isDigit 3 rfl) rfl rfl ?_
    refine G_bipush (g_da dt_B_isDigit 4 rfl) b8w_57 ?_
    refine G_icmp_gt (g_da dt_B_isDigit 5 rfl) rfl rfl w_57 (fun hc2 => ?_) (fun hc2 => ?_)
    · have h := o_t hc2 h
      refine G_iconst (g_da dt_B_isDigit 8 rfl) ?_
      exact G_ireturn (g_da dt_B_isDigit 9 rfl) rfl (g_bool (Or.inl w_0)).1 rfl (g_nz rfl) (q_e h)
    · have h := o_f hc2 h
      refine G_iconst (g_da dt_B_isDigit 6 rfl) ?_
      refine G_goto (g_da dt_B_isDigit 7 rfl) rfl ?_
      exact G_ireturn (g_da dt_B_isDigit 9 rfl) rfl (g_bool (Or.inr w_1)).1 rfl (g_nz rfl) (q_e h)
set_option maxHeartbeats 4000000 in
set_option maxRecDepth 100000 in
theorem B_isLetter_ok {J : gS → gS} {z0 : Int} {s0 : gS} {a0 : Int} {s : gS} (h : B_isLetter a0 s = some (z0, s0)) : Ct M_B_isLetter g_S [gi a0] (J s) (QE g_S J z0 s0) := by
  refine Ct_of [some (gi a0)] (plainFor_of_name (by decide)) rfl (Nat.le_of_ble_eq_true rfl) rfl (by decide) q_rE ?_
  unfold B_isLetter at h
  refine G_iload_n (g_da dt_B_isLetter 0 rfl) rfl rfl ?_
  refine G_bipush (g_da dt_B_isLetter 1 rfl) b8w_97 ?_
  refine G_icmp_lt (g_da dt_B_isLetter 2 rfl) rfl rfl w_97 (fun hc1 => ?_) (fun hc1 => ?_)
  · have h := o_t hc1 h
    refine G_iconst (g_da dt_B_isLetter 8 rfl) ?_
    exact G_ireturn (g_da dt_B_isLetter 9 rfl) rfl (g_bool (Or.inl w_0)).1 rfl (g_nz rfl) (q_e h)
  · have h := o_f hc1 h
    refine G_iload_n (g_da dt_B_isLetter 3 rfl) rfl rfl ?_
    refine G_bipush (g_da dt_B_isLetter 4 rfl) b8w_122 ?_
    refine G_icmp_gt (g_da dt_B_isLetter 5 rfl) rfl rfl w_122 (fun hc2 => ?_) (fun hc2 => ?_)
    · have h := o_t hc2 h
      refine G_iconst (g_da dt_B_isLetter 8 rfl) ?_
      exact G_ireturn (g_da dt_B_isLetter 9 rfl) rfl (g_bool (Or.inl w_0)).1 rfl (g_nz rfl) (q_e h)
    · have h := o_f hc2 h
      refine G_iconst (g_da dt_B_isLetter 6 rfl) ?_
      refine G_goto (g_da dt_B_isLetter 7 rfl) rfl ?_
      exact G_ireturn (g_da dt_B_isLetter 9 rfl) rfl (g_bool (Or.inr w_1)).1 rfl (g_nz rfl) (q_e h)
set_option maxHeartbeats 4000000 in
set_option maxRecDepth 100000 in
theorem Values_isFull_ok {J : gS → gS} (hJc : g_jc J) {z0 : Int} {s0 : gS} {s : gS} (h : Values_isFull s = some (z0, s0)) : Ct M_Values_isFull g_S [.ref 18] (J s) (QE g_S J z0 s0) := by
  refine Ct_of [some (.ref 18)] (plainFor_of_name (by decide)) rfl (Nat.le_of_ble_eq_true rfl) rfl (by decide) q_rE ?_
  unfold Values_isFull at h
  refine G_aload_n (g_da dt_Values_isFull 0 rfl) rfl rfl ?_
  refine H_getI (g_da dt_Values_isFull 1 rfl) sh_18 fl_9_15 rfl (hJc 18 rfl) ?_
  refine G_bipush (g_da dt_Values_isFull 2 rfl) b8w_32 ?_
  refine G_icmp_lt (g_da dt_Values_isFull 3 rfl) rfl rfl w_32 (fun hc1 => ?_) (fun hc1 => ?_)
  · have h := o_t hc1 h
    refine G_iconst (g_da dt_Values_isFull 6 rfl) ?_
    exact G_ireturn (g_da dt_Values_isFull 7 rfl) rfl (g_bool (Or.inl w_0)).1 rfl (g_nz rfl) (q_e h)
  · have h := o_f hc1 h
    refine G_iconst (g_da dt_Values_isFull 4 rfl) ?_
    refine G_goto (g_da dt_Values_isFull 5 rfl) rfl ?_
    exact G_ireturn (g_da dt_Values_isFull 7 rfl) rfl (g_bool (Or.inr w_1)).1 rfl (g_nz rfl) (q_e h)
set_option maxHeartbeats 4000000 in
set_option maxRecDepth 100000 in
theorem Calls_isFull_ok {J : gS → gS} (hJc : g_jc J) {z0 : Int} {s0 : gS} {s : gS} (h : Calls_isFull s = some (z0, s0)) : Ct M_Calls_isFull g_S [.ref 10] (J s) (QE g_S J z0 s0) := by
  refine Ct_of [some (.ref 10)] (plainFor_of_name (by decide)) rfl (Nat.le_of_ble_eq_true rfl) rfl (by decide) q_rE ?_
  unfold Calls_isFull at h
  refine G_aload_n (g_da dt_Calls_isFull 0 rfl) rfl rfl ?_
  refine H_getI (g_da dt_Calls_isFull 1 rfl) sh_10 fl_7_24 rfl (hJc 10 rfl) ?_
  refine G_bipush (g_da dt_Calls_isFull 2 rfl) b8w_20 ?_
  refine G_icmp_lt (g_da dt_Calls_isFull 3 rfl) rfl rfl w_20 (fun hc1 => ?_) (fun hc1 => ?_)
  · have h := o_t hc1 h
    refine G_iconst (g_da dt_Calls_isFull 6 rfl) ?_
    exact G_ireturn (g_da dt_Calls_isFull 7 rfl) rfl (g_bool (Or.inl w_0)).1 rfl (g_nz rfl) (q_e h)
  · have h := o_f hc1 h
    refine G_iconst (g_da dt_Calls_isFull 4 rfl) ?_
    refine G_goto (g_da dt_Calls_isFull 5 rfl) rfl ?_
    exact G_ireturn (g_da dt_Calls_isFull 7 rfl) rfl (g_bool (Or.inr w_1)).1 rfl (g_nz rfl) (q_e h)
set_option maxHeartbeats 4000000 in
set_option maxRecDepth 100000 in
theorem Job_lacksRoom_26_ok {J : gS → gS} (hJc : g_jc J) {z0 : Int} {s0 : gS}  {s : gS} (h : Job_lacksRoom_26 s = some (z0, s0)) : G M_Job_lacksRoom (QE g_S J z0 s0) (g_S, 0, 0) (J s) 26 [some (.ref 5), none, none] [] := by
  unfold Job_lacksRoom_26 at h
  refine G_aload_n (g_da dt_Job_lacksRoom 12 rfl) rfl rfl ?_
  refine G_getR (g_da dt_Job_lacksRoom 13 rfl) sh_5 fl_6_35 rfl ?_
  obtain ⟨r5, s6, hc7, h⟩ := o_b h
  refine H_cVE (Values_isFull_ok hJc hc7) (g_da dt_Job_lacksRoom 14 rfl) lk_6_211 mv_Values_isFull rfl sh_18 rfl rfl rfl rfl rfl rfl ?_
  obtain ⟨hz8, h⟩ := o_g h
  exact G_ireturn (g_da dt_Job_lacksRoom 15 rfl) rfl (g_bool hz8).1 rfl (g_nz rfl) (q_e h)
set_option maxHeartbeats 4000000 in
set_option maxRecDepth 100000 in
theorem Job_lacksRoom_63_ok {J : gS → gS} (hJc : g_jc J) {z0 : Int} {s0 : gS}  {t0 : Int} {s : gS} (h : Job_lacksRoom_63 t0 s = some (z0, s0)) : G M_Job_lacksRoom (QE g_S J z0 s0) (g_S, 0, 0) (J s) 63 [some (.ref 5), none, none] [gi t0] := by
  unfold Job_lacksRoom_63 at h
  refine G_istore_n (lv' := [_, none, _]) (g_da dt_Job_lacksRoom 31 rfl) rfl (Nat.le_of_ble_eq_true rfl) rfl rfl ?_
  refine G_iload_n (g_da dt_Job_lacksRoom 32 rfl) rfl rfl ?_
  refine G_if_eq (g_da dt_Job_lacksRoom 33 rfl) rfl rfl  (fun hc16 => ?_) (fun hc16 => ?_)
  · have h := o_t hc16 h
    refine G_iconst (g_da dt_Job_lacksRoom 40 rfl) ?_
    exact G_ireturn (g_da dt_Job_lacksRoom 41 rfl) rfl (g_bool (Or.inl w_0)).1 rfl (g_nz rfl) (q_e h)
  · have h := o_f hc16 h
    refine G_aload_n (g_da dt_Job_lacksRoom 34 rfl) rfl rfl ?_
    refine G_getR (g_da dt_Job_lacksRoom 35 rfl) sh_5 fl_6_21 rfl ?_
    obtain ⟨r17, s18, hc19, h⟩ := o_b h
    refine H_cVE (Calls_isFull_ok hJc hc19) (g_da dt_Job_lacksRoom 36 rfl) lk_6_212 mv_Calls_isFull rfl sh_10 rfl rfl rfl rfl rfl rfl ?_
    refine G_if_eq (g_da dt_Job_lacksRoom 37 rfl) rfl rfl  (fun hc20 => ?_) (fun hc20 => ?_)
    · have h := o_t hc20 h
      refine G_iconst (g_da dt_Job_lacksRoom 40 rfl) ?_
      exact G_ireturn (g_da dt_Job_lacksRoom 41 rfl) rfl (g_bool (Or.inl w_0)).1 rfl (g_nz rfl) (q_e h)
    · have h := o_f hc20 h
      refine G_iconst (g_da dt_Job_lacksRoom 38 rfl) ?_
      refine G_goto (g_da dt_Job_lacksRoom 39 rfl) rfl ?_
      exact G_ireturn (g_da dt_Job_lacksRoom 41 rfl) rfl (g_bool (Or.inr w_1)).1 rfl (g_nz rfl) (q_e h)
set_option maxHeartbeats 4000000 in
set_option maxRecDepth 100000 in
theorem Job_lacksRoom_58_ok {J : gS → gS} (hJc : g_jc J) {z0 : Int} {s0 : gS}  {s : gS} (h : Job_lacksRoom_58 s = some (z0, s0)) : G M_Job_lacksRoom (QE g_S J z0 s0) (g_S, 0, 0) (J s) 58 [some (.ref 5), none, none] [] := by
  unfold Job_lacksRoom_58 at h
  refine G_iconst (g_da dt_Job_lacksRoom 28 rfl) ?_
  refine G_goto (g_da dt_Job_lacksRoom 29 rfl) rfl ?_
  exact G_subK (Job_lacksRoom_63_ok hJc h) ⟨rfl, trivial⟩
set_option maxHeartbeats 4000000 in
set_option maxRecDepth 100000 in
theorem Job_lacksRoom_62_ok {J : gS → gS} (hJc : g_jc J) {z0 : Int} {s0 : gS}  {s : gS} (h : Job_lacksRoom_62 s = some (z0, s0)) : G M_Job_lacksRoom (QE g_S J z0 s0) (g_S, 0, 0) (J s) 62 [some (.ref 5), none, none] [] := by
  unfold Job_lacksRoom_62 at h
  refine G_iconst (g_da dt_Job_lacksRoom 30 rfl) ?_
  exact G_subK (Job_lacksRoom_63_ok hJc h) ⟨rfl, trivial⟩
set_option maxHeartbeats 4000000 in
set_option maxRecDepth 100000 in
theorem Job_lacksRoom_ok {J : gS → gS} (hJc : g_jc J) {z0 : Int} {s0 : gS} {a1 : Int} {s : gS} (h : Job_lacksRoom a1 s = some (z0, s0)) : Ct M_Job_lacksRoom g_S [.ref 5, gi a1] (J s) (QE g_S J z0 s0) := by
  refine Ct_of [some (.ref 5), some (gi a1), none] (plainFor_of_name (by decide)) rfl (Nat.le_of_ble_eq_true rfl) rfl (by decide) q_rE ?_
  unfold Job_lacksRoom at h
  refine G_iload_n (g_da dt_Job_lacksRoom 0 rfl) rfl rfl ?_
  obtain ⟨r1, s2, hc3, h⟩ := o_b h
  refine H_cSE (B_isDigit_ok hc3) (g_da dt_Job_lacksRoom 1 rfl) lk_6_205 ms_B_isDigit rfl rfl rfl rfl rfl rfl ?_
  refine G_if_ne (g_da dt_Job_lacksRoom 2 rfl) rfl rfl  (fun hc4 => ?_) (fun hc4 => ?_)
  · have h := o_f hc4 h
    exact G_subK (Job_lacksRoom_26_ok hJc h) ⟨rfl, trivial⟩
  · have h := o_t hc4 h
    refine G_iload_n (g_da dt_Job_lacksRoom 3 rfl) rfl rfl ?_
    obtain ⟨r9, s10, hc11, h⟩ := o_b h
    refine H_cSE (B_isLetter_ok hc11) (g_da dt_Job_lacksRoom 4 rfl) lk_6_208 ms_B_isLetter rfl rfl rfl rfl rfl rfl ?_
    refine G_if_ne (g_da dt_Job_lacksRoom 5 rfl) rfl rfl  (fun hc12 => ?_) (fun hc12 => ?_)
    · have h := o_f hc12 h
      exact G_subK (Job_lacksRoom_26_ok hJc h) ⟨rfl, trivial⟩
    · have h := o_t hc12 h
      refine G_iload_n (g_da dt_Job_lacksRoom 6 rfl) rfl rfl ?_
      refine G_bipush (g_da dt_Job_lacksRoom 7 rfl) b8w_123 ?_
      refine G_icmp_eq (g_da dt_Job_lacksRoom 8 rfl) rfl rfl w_123 (fun hc13 => ?_) (fun hc13 => ?_)
      · have h := o_t hc13 h
        exact G_subK (Job_lacksRoom_26_ok hJc h) ⟨rfl, trivial⟩
      · have h := o_f hc13 h
        refine G_iload_n (g_da dt_Job_lacksRoom 9 rfl) rfl rfl ?_
        refine G_bipush (g_da dt_Job_lacksRoom 10 rfl) b8w_68 ?_
        refine G_icmp_ne (g_da dt_Job_lacksRoom 11 rfl) rfl rfl w_68 (fun hc14 => ?_) (fun hc14 => ?_)
        · have h := o_f hc14 h
          refine G_iload_n (g_da dt_Job_lacksRoom 16 rfl) rfl rfl ?_
          refine G_bipush (g_da dt_Job_lacksRoom 17 rfl) b8w_63 ?_
          refine G_icmp_eq (g_da dt_Job_lacksRoom 18 rfl) rfl rfl w_63 (fun hc15 => ?_) (fun hc15 => ?_)
          · have h := o_t hc15 h
            exact G_subK (Job_lacksRoom_58_ok hJc h) ⟨rfl, trivial⟩
          · have h := o_f hc15 h
            refine G_iload_n (g_da dt_Job_lacksRoom 19 rfl) rfl rfl ?_
            refine G_bipush (g_da dt_Job_lacksRoom 20 rfl) b8w_82 ?_
            refine G_icmp_ne (g_da dt_Job_lacksRoom 21 rfl) rfl rfl w_82 (fun hc21 => ?_) (fun hc21 => ?_)
            · have h := o_f hc21 h
              exact G_subK (Job_lacksRoom_62_ok hJc h) ⟨rfl, trivial⟩
            · have h := o_t hc21 h
              refine G_aload_n (g_da dt_Job_lacksRoom 22 rfl) rfl rfl ?_
              refine G_getR (g_da dt_Job_lacksRoom 23 rfl) sh_5 fl_6_35 rfl ?_
              refine G_iconst (g_da dt_Job_lacksRoom 24 rfl) ?_
              obtain ⟨r22, s23, hc24, h⟩ := o_b h
              refine H_cVE (Values_peek_ok hJc hc24) (g_da dt_Job_lacksRoom 25 rfl) lk_6_149 mv_Values_peek rfl sh_18 rfl rfl rfl rfl rfl rfl ?_
              refine G_iconst (g_da dt_Job_lacksRoom 26 rfl) ?_
              refine G_icmp_lt (g_da dt_Job_lacksRoom 27 rfl) rfl rfl w_1 (fun hc25 => ?_) (fun hc25 => ?_)
              · have h := o_t hc25 h
                exact G_subK (Job_lacksRoom_62_ok hJc h) ⟨rfl, trivial⟩
              · have h := o_f hc25 h
                exact G_subK (Job_lacksRoom_58_ok hJc h) ⟨rfl, trivial⟩
        · have h := o_t hc14 h
          exact G_subK (Job_lacksRoom_26_ok hJc h) ⟨rfl, trivial⟩
set_option maxHeartbeats 4000000 in
set_option maxRecDepth 100000 in
theorem Path_placesFor_ok {J : gS → gS} (hJc : g_jc J) {z0 : Int} {s0 : gS} {a1 : Int} {s : gS} (h : Path_placesFor a1 s = some (z0, s0)) : Ct M_Path_placesFor g_S [.ref 28, gi a1] (J s) (QE g_S J z0 s0) := by
  refine Ct_of [some (.ref 28), some (gi a1)] (plainFor_of_name (by decide)) rfl (Nat.le_of_ble_eq_true rfl) rfl (by decide) q_rE ?_
  unfold Path_placesFor at h
  refine G_aload_n (g_da dt_Path_placesFor 0 rfl) rfl rfl ?_
  refine H_getI (g_da dt_Path_placesFor 1 rfl) sh_28 fl_10_35 rfl (hJc 28 rfl) ?_
  refine G_if_eq (g_da dt_Path_placesFor 2 rfl) rfl rfl  (fun hc1 => ?_) (fun hc1 => ?_)
  · have h := o_t hc1 h
    refine G_iload_n (g_da dt_Path_placesFor 7 rfl) rfl rfl ?_
    exact G_ireturn (g_da dt_Path_placesFor 8 rfl) rfl rfl rfl (g_nz rfl) (q_e h)
  · have h := o_f hc1 h
    refine G_iload_n (g_da dt_Path_placesFor 3 rfl) rfl rfl ?_
    refine G_iconst (g_da dt_Path_placesFor 4 rfl) ?_
    refine G_iadd (g_da dt_Path_placesFor 5 rfl) ?_
    refine G_goto (g_da dt_Path_placesFor 6 rfl) rfl ?_
    exact G_ireturn (g_da dt_Path_placesFor 8 rfl) rfl rfl rfl (g_nz rfl) (q_e h)
set_option maxHeartbeats 4000000 in
set_option maxRecDepth 100000 in
theorem Job_placesFor_ok {J : gS → gS} (hJc : g_jc J) {z0 : Int} {s0 : gS} {a1 : Int} {s : gS} (h : Job_placesFor a1 s = some (z0, s0)) : Ct M_Job_placesFor g_S [.ref 5, gi a1] (J s) (QE g_S J z0 s0) := by
  refine Ct_of [some (.ref 5), some (gi a1)] (plainFor_of_name (by decide)) rfl (Nat.le_of_ble_eq_true rfl) rfl (by decide) q_rE ?_
  unfold Job_placesFor at h
  refine G_iload_n (g_da dt_Job_placesFor 0 rfl) rfl rfl ?_
  refine G_lookup [(67, 47), (76, 38), (77, 36)] 57 (g_da dt_Job_placesFor 1 rfl) rfl rfl rfl ⟨fun hc1 => ?_, fun hc1 => ⟨fun hc2 => ?_, fun hc2 => ⟨fun hc3 => ?_, fun hc3 => ?_⟩⟩⟩
  · have h := o_t hc1 h
    refine G_aload_n (g_da dt_Job_placesFor 9 rfl) rfl rfl ?_
    refine G_getR (g_da dt_Job_placesFor 10 rfl) sh_5 fl_6_53 rfl ?_
    refine G_bipush (g_da dt_Job_placesFor 11 rfl) b8w_8 ?_
    obtain ⟨r4, s5, hc6, h⟩ := o_b h
    refine H_cVE (Path_placesFor_ok hJc hc6) (g_da dt_Job_placesFor 12 rfl) lk_6_213 mv_Path_placesFor rfl sh_28 rfl rfl rfl rfl rfl rfl ?_
    exact G_ireturn (g_da dt_Job_placesFor 13 rfl) rfl rfl rfl (g_nz rfl) (q_e h)
  · have h := o_f hc1 h
    have h := o_t hc2 h
    refine G_aload_n (g_da dt_Job_placesFor 4 rfl) rfl rfl ?_
    refine G_getR (g_da dt_Job_placesFor 5 rfl) sh_5 fl_6_53 rfl ?_
    refine G_iconst (g_da dt_Job_placesFor 6 rfl) ?_
    obtain ⟨r7, s8, hc9, h⟩ := o_b h
    refine H_cVE (Path_placesFor_ok hJc hc9) (g_da dt_Job_placesFor 7 rfl) lk_6_213 mv_Path_placesFor rfl sh_28 rfl rfl rfl rfl rfl rfl ?_
    exact G_ireturn (g_da dt_Job_placesFor 8 rfl) rfl rfl rfl (g_nz rfl) (q_e h)
  · have h := o_f hc1 h
    have h := o_f hc2 h
    have h := o_t hc3 h
    refine G_iconst (g_da dt_Job_placesFor 2 rfl) ?_
    exact G_ireturn (g_da dt_Job_placesFor 3 rfl) rfl rfl rfl (g_nz rfl) (q_e h)
  · have h := o_f hc1 h
    have h := o_f hc2 h
    have h := o_f hc3 h
    refine G_iconst (g_da dt_Job_placesFor 14 rfl) ?_
    exact G_ireturn (g_da dt_Job_placesFor 15 rfl) rfl rfl rfl (g_nz rfl) (q_e h)
set_option maxHeartbeats 4000000 in
set_option maxRecDepth 100000 in
theorem Math_min_ok {J : gS → gS} {z0 : Int} {s0 : gS} {a0 a2 : Int} {s : gS} (h : Math_min a0 a2 s = some (z0, s0)) : Ct M_Math_min g_S [gl a0, gl a2] (J s) (QF g_S J z0 s0) := by
  refine Ct_of [some (gl a0), none, some (gl a2), none] (by decide +kernel) rfl (Nat.le_of_ble_eq_true rfl) rfl (by decide) q_rF ?_
  unfold Math_min at h
  refine G_lload_n (g_da dt_Math_min 0 rfl) rfl rfl ?_
  refine G_lload_n (g_da dt_Math_min 1 rfl) rfl rfl ?_
  refine G_lcmp (g_da dt_Math_min 2 rfl) ?_
  refine G_if_gt (g_da dt_Math_min 3 rfl) rfl rfl  (fun hc1 => ?_) (fun hc1 => ?_)
  · have h := o_t hc1 h
    refine G_lload_n (g_da dt_Math_min 6 rfl) rfl rfl ?_
    exact G_lreturn (g_da dt_Math_min 7 rfl) rfl rfl (g_nz rfl) (q_f h)
  · have h := o_f hc1 h
    refine G_lload_n (g_da dt_Math_min 4 rfl) rfl rfl ?_
    refine G_goto (g_da dt_Math_min 5 rfl) rfl ?_
    exact G_lreturn (g_da dt_Math_min 7 rfl) rfl rfl (g_nz rfl) (q_f h)
set_option maxHeartbeats 4000000 in
set_option maxRecDepth 100000 in
theorem Math_max1_ok {J : gS → gS} {z0 : Int} {s0 : gS} {a0 a2 : Int} {s : gS} (h : Math_max1 a0 a2 s = some (z0, s0)) : Ct M_Math_max1 g_S [gl a0, gl a2] (J s) (QF g_S J z0 s0) := by
  refine Ct_of [some (gl a0), none, some (gl a2), none] (by decide +kernel) rfl (Nat.le_of_ble_eq_true rfl) rfl (by decide) q_rF ?_
  unfold Math_max1 at h
  refine G_lload_n (g_da dt_Math_max1 0 rfl) rfl rfl ?_
  refine G_lload_n (g_da dt_Math_max1 1 rfl) rfl rfl ?_
  refine G_lcmp (g_da dt_Math_max1 2 rfl) ?_
  refine G_if_lt (g_da dt_Math_max1 3 rfl) rfl rfl  (fun hc1 => ?_) (fun hc1 => ?_)
  · have h := o_t hc1 h
    refine G_lload_n (g_da dt_Math_max1 6 rfl) rfl rfl ?_
    exact G_lreturn (g_da dt_Math_max1 7 rfl) rfl rfl (g_nz rfl) (q_f h)
  · have h := o_f hc1 h
    refine G_lload_n (g_da dt_Math_max1 4 rfl) rfl rfl ?_
    refine G_goto (g_da dt_Math_max1 5 rfl) rfl ?_
    exact G_lreturn (g_da dt_Math_max1 7 rfl) rfl rfl (g_nz rfl) (q_f h)
set_option maxHeartbeats 4000000 in
set_option maxRecDepth 100000 in
theorem Filler_firstPixel_ok {J : gS → gS} (hJc : g_jc J) {z0 : Int} {s0 : gS} {a1 a2 a3 : Int} {s : gS} (h : Filler_firstPixel a1 a2 a3 s = some (z0, s0)) : Ct M_Filler_firstPixel g_S [.ref 28, gi a1, gi a2, gi a3] (J s) (QE g_S J z0 s0) := by
  refine Ct_of [some (.ref 28), some (gi a1), some (gi a2), some (gi a3), none, none, none, none, none, none, none, none] (plainFor_of_name (by decide)) rfl (Nat.le_of_ble_eq_true rfl) rfl (by decide) q_rE ?_
  unfold Filler_firstPixel at h
  refine G_aload_n (g_da dt_Filler_firstPixel 0 rfl) rfl rfl ?_
  refine G_getR (g_da dt_Filler_firstPixel 1 rfl) sh_28 fl_11_37 rfl ?_
  refine G_iload_n (g_da dt_Filler_firstPixel 2 rfl) rfl rfl ?_
  obtain ⟨hb1, h⟩ := o_g h
  refine H_iaload (g_da dt_Filler_firstPixel 3 rfl) sh_30 (hJc 30 rfl) rfl hb1 rfl ?_
  refine G_i2l (g_da dt_Filler_firstPixel 4 rfl) ?_
  refine G_aload_n (g_da dt_Filler_firstPixel 5 rfl) rfl rfl ?_
  refine G_getR (g_da dt_Filler_firstPixel 6 rfl) sh_28 fl_11_37 rfl ?_
  refine G_iload_n (g_da dt_Filler_firstPixel 7 rfl) rfl rfl ?_
  obtain ⟨hb2, h⟩ := o_g h
  refine H_iaload (g_da dt_Filler_firstPixel 8 rfl) sh_30 (hJc 30 rfl) rfl hb2 rfl ?_
  refine G_i2l (g_da dt_Filler_firstPixel 9 rfl) ?_
  refine G_lsub (g_da dt_Filler_firstPixel 10 rfl) ?_
  refine H_topl (fun v3 e4 => ?_)
  have h := o_l h v3 e4
  refine G_lstore (lv' := [_, _, _, _, _, none, none, none, none, none, none, none]) (g_da dt_Filler_firstPixel 11 rfl) (Nat.le_of_ble_eq_true rfl) rfl rfl ?_
  refine G_lload (g_da dt_Filler_firstPixel 12 rfl) rfl ?_
  refine G_lconst (z := 0) (g_da dt_Filler_firstPixel 13 rfl) rfl ?_
  refine G_lcmp (g_da dt_Filler_firstPixel 14 rfl) ?_
  refine G_if_gt (g_da dt_Filler_firstPixel 15 rfl) rfl rfl  (fun hc5 => ?_) (fun hc5 => ?_)
  · have h := o_t hc5 h
    refine G_aload_n (g_da dt_Filler_firstPixel 18 rfl) rfl rfl ?_
    refine G_getR (g_da dt_Filler_firstPixel 19 rfl) sh_28 fl_11_44 rfl ?_
    refine G_iload_n (g_da dt_Filler_firstPixel 20 rfl) rfl rfl ?_
    obtain ⟨hb6, h⟩ := o_g h
    refine H_iaload (g_da dt_Filler_firstPixel 21 rfl) sh_29 (hJc 29 rfl) rfl hb6 rfl ?_
    refine G_i2l (g_da dt_Filler_firstPixel 22 rfl) ?_
    refine G_aload_n (g_da dt_Filler_firstPixel 23 rfl) rfl rfl ?_
    refine G_getR (g_da dt_Filler_firstPixel 24 rfl) sh_28 fl_11_44 rfl ?_
    refine G_iload_n (g_da dt_Filler_firstPixel 25 rfl) rfl rfl ?_
    obtain ⟨hb7, h⟩ := o_g h
    refine H_iaload (g_da dt_Filler_firstPixel 26 rfl) sh_29 (hJc 29 rfl) rfl hb7 rfl ?_
    refine G_i2l (g_da dt_Filler_firstPixel 27 rfl) ?_
    refine G_lsub (g_da dt_Filler_firstPixel 28 rfl) ?_
    refine H_topl (fun v8 e9 => ?_)
    have h := o_l h v8 e9
    refine G_lstore (lv' := [_, _, _, _, _, none, _, none, none, none, none, none]) (g_da dt_Filler_firstPixel 29 rfl) (Nat.le_of_ble_eq_true rfl) rfl rfl ?_
    refine G_aload_n (g_da dt_Filler_firstPixel 30 rfl) rfl rfl ?_
    refine G_getR (g_da dt_Filler_firstPixel 31 rfl) sh_28 fl_11_44 rfl ?_
    refine G_iload_n (g_da dt_Filler_firstPixel 32 rfl) rfl rfl ?_
    obtain ⟨hb10, h⟩ := o_g h
    refine H_iaload (g_da dt_Filler_firstPixel 33 rfl) sh_29 (hJc 29 rfl) rfl hb10 rfl ?_
    refine G_i2l (g_da dt_Filler_firstPixel 34 rfl) ?_
    refine G_lload (g_da dt_Filler_firstPixel 35 rfl) rfl ?_
    refine G_lmul (g_da dt_Filler_firstPixel 36 rfl) ?_
    refine G_iload_n (g_da dt_Filler_firstPixel 37 rfl) rfl rfl ?_
    refine G_aload_n (g_da dt_Filler_firstPixel 38 rfl) rfl rfl ?_
    refine G_getR (g_da dt_Filler_firstPixel 39 rfl) sh_28 fl_11_37 rfl ?_
    refine G_iload_n (g_da dt_Filler_firstPixel 40 rfl) rfl rfl ?_
    obtain ⟨hb11, h⟩ := o_g h
    refine H_iaload (g_da dt_Filler_firstPixel 41 rfl) sh_30 (hJc 30 rfl) rfl hb11 rfl ?_
    refine G_isub (g_da dt_Filler_firstPixel 42 rfl) ?_
    refine G_i2l (g_da dt_Filler_firstPixel 43 rfl) ?_
    refine G_lload (g_da dt_Filler_firstPixel 44 rfl) rfl ?_
    refine G_lmul (g_da dt_Filler_firstPixel 45 rfl) ?_
    refine G_ladd (g_da dt_Filler_firstPixel 46 rfl) ?_
    refine H_topl (fun v12 e13 => ?_)
    have h := o_l h v12 e13
    refine G_lstore (lv' := [_, _, _, _, _, none, _, none, _, none, none, none]) (g_da dt_Filler_firstPixel 47 rfl) (Nat.le_of_ble_eq_true rfl) rfl rfl ?_
    refine G_ldc2 (z := 2) (g_da dt_Filler_firstPixel 48 rfl) cn_11_47 rfl ?_
    refine G_lload (g_da dt_Filler_firstPixel 49 rfl) rfl ?_
    refine G_lmul (g_da dt_Filler_firstPixel 50 rfl) ?_
    refine G_lload (g_da dt_Filler_firstPixel 51 rfl) rfl ?_
    refine G_lsub (g_da dt_Filler_firstPixel 52 rfl) ?_
    refine G_ldc2 (z := 4) (g_da dt_Filler_firstPixel 53 rfl) cn_11_49 rfl ?_
    refine G_lload (g_da dt_Filler_firstPixel 54 rfl) rfl ?_
    refine G_lmul (g_da dt_Filler_firstPixel 55 rfl) ?_
    obtain ⟨r14, s15, hc16, h⟩ := o_b h
    refine H_cSF (Math_floorDiv_ok hc16) (g_da dt_Filler_firstPixel 56 rfl) lk_11_51 ms_Math_floorDiv rfl rfl rfl rfl rfl rfl ?_
    refine G_lneg (g_da dt_Filler_firstPixel 57 rfl) ?_
    refine H_topl (fun v17 e18 => ?_)
    have h := o_l h v17 e18
    refine G_lstore (lv' := [_, _, _, _, _, none, _, none, _, none, _, none]) (g_da dt_Filler_firstPixel 58 rfl) (Nat.le_of_ble_eq_true rfl) rfl rfl ?_
    refine G_lconst (z := 0) (g_da dt_Filler_firstPixel 59 rfl) rfl ?_
    refine G_lload (g_da dt_Filler_firstPixel 60 rfl) rfl ?_
    refine G_ldc2 (z := 64) (g_da dt_Filler_firstPixel 61 rfl) cn_11_57 rfl ?_
    obtain ⟨r19, s20, hc21, h⟩ := o_b h
    refine H_cSF (Math_min_ok hc21) (g_da dt_Filler_firstPixel 62 rfl) lk_11_59 ms_Math_min rfl rfl rfl rfl rfl rfl ?_
    obtain ⟨r22, s23, hc24, h⟩ := o_b h
    refine H_cSF (Math_max1_ok hc24) (g_da dt_Filler_firstPixel 63 rfl) lk_11_62 ms_Math_max1 rfl rfl rfl rfl rfl rfl ?_
    refine G_l2i (g_da dt_Filler_firstPixel 64 rfl) ?_
    exact G_ireturn (g_da dt_Filler_firstPixel 65 rfl) rfl rfl rfl (g_nz rfl) (q_e h)
  · have h := o_f hc5 h
    refine G_bipush (g_da dt_Filler_firstPixel 16 rfl) b8w_64 ?_
    exact G_ireturn (g_da dt_Filler_firstPixel 17 rfl) rfl rfl rfl (g_nz rfl) (q_e h)
set_option maxHeartbeats 4000000 in
set_option maxRecDepth 100000 in
theorem Filler_meetEdges_207_ok {J : gS → gS} (hJc : g_jc J) {z0 : Int} {s0 : gS} {k8 : Int → Int → Int → Int → gS → gA} (hk8 : ∀ (l2 l3 l4 l5 : Int) (s : gS), k8 l2 l3 l4 l5 s = some (z0, s0) → G M_Filler_meetEdges (QE g_S J z0 s0) (g_S, 0, 0) (J s) 8 [some (.ref 15), some (.ref 28), some (gi l2), some (gi l3), some (gi l4), some (gi l5), none, none, none, none, none] [])  {l2 l3 l4 l5 : Int} {s : gS} (h : Filler_meetEdges_207 k8 l2 l3 l4 l5 s = some (z0, s0)) : G M_Filler_meetEdges (QE g_S J z0 s0) (g_S, 0, 0) (J s) 207 [some (.ref 15), some (.ref 28), some (gi l2), some (gi l3), some (gi l4), some (gi l5), none, none, none, none, none] [] := by
  unfold Filler_meetEdges_207 at h
  refine G_iinc (lv' := [_, _, _, _, _, _, none, none, none, none, none]) (g_da dt_Filler_meetEdges 111 rfl) rfl (Nat.le_of_ble_eq_true rfl) rfl rfl ?_
  refine G_goto (g_da dt_Filler_meetEdges 112 rfl) rfl ?_
  exact G_subK (hk8 _ _ _ _ _ h) ⟨rfl, ⟨rfl, ⟨rfl, ⟨rfl, ⟨rfl, ⟨rfl, trivial⟩⟩⟩⟩⟩⟩
set_option maxHeartbeats 4000000 in
set_option maxRecDepth 100000 in
theorem Filler_meetEdges_203_ok {J : gS → gS} (hJc : g_jc J) {z0 : Int} {s0 : gS} {k8 : Int → Int → Int → Int → gS → gA} (hk8 : ∀ (l2 l3 l4 l5 : Int) (s : gS), k8 l2 l3 l4 l5 s = some (z0, s0) → G M_Filler_meetEdges (QE g_S J z0 s0) (g_S, 0, 0) (J s) 8 [some (.ref 15), some (.ref 28), some (gi l2), some (gi l3), some (gi l4), some (gi l5), none, none, none, none, none] [])  {l2 l4 l5 t1 t2 t3 : Int} {s : gS} (h : Filler_meetEdges_203 k8 l2 l4 l5 t1 t2 t3 s = some (z0, s0)) : G M_Filler_meetEdges (QE g_S J z0 s0) (g_S, 0, 0) (J s) 203 [some (.ref 15), some (.ref 28), some (gi l2), none, some (gi l4), some (gi l5), none, none, none, none, none] [gi t3, gi t2, gi t1, .ref 17] := by
  unfold Filler_meetEdges_203 at h
  refine G_iadd (g_da dt_Filler_meetEdges 107 rfl) ?_
  obtain ⟨hb19, h⟩ := o_g h
  refine H_iastore (g_da dt_Filler_meetEdges 108 rfl) sh_17 (hJc 17 rfl) rfl hb19 rfl (fun s20 e21 => ?_)
  have h := o_l h s20 e21
  refine G_iconst (g_da dt_Filler_meetEdges 109 rfl) ?_
  refine G_istore_n (lv' := [_, _, _, _, _, _, none, none, none, none, none]) (g_da dt_Filler_meetEdges 110 rfl) rfl (Nat.le_of_ble_eq_true rfl) rfl rfl ?_
  exact G_subK (Filler_meetEdges_207_ok hJc hk8 h) ⟨rfl, ⟨rfl, ⟨rfl, ⟨rfl, ⟨rfl, ⟨rfl, trivial⟩⟩⟩⟩⟩⟩
set_option maxHeartbeats 4000000 in
set_option maxRecDepth 100000 in
theorem Filler_meetEdges_176_ok {J : gS → gS} (hJc : g_jc J) {z0 : Int} {s0 : gS} {k8 : Int → Int → Int → Int → gS → gA} (hk8 : ∀ (l2 l3 l4 l5 : Int) (s : gS), k8 l2 l3 l4 l5 s = some (z0, s0) → G M_Filler_meetEdges (QE g_S J z0 s0) (g_S, 0, 0) (J s) 8 [some (.ref 15), some (.ref 28), some (gi l2), some (gi l3), some (gi l4), some (gi l5), none, none, none, none, none] [])  {l2 l3 l4 l5 l8 t0 : Int} {s : gS} (h : Filler_meetEdges_176 k8 l2 l3 l4 l5 l8 t0 s = some (z0, s0)) : G M_Filler_meetEdges (QE g_S J z0 s0) (g_S, 0, 0) (J s) 176 [some (.ref 15), some (.ref 28), some (gi l2), some (gi l3), some (gi l4), some (gi l5), none, none, some (gi l8), none, none] [gi t0] := by
  unfold Filler_meetEdges_176 at h
  refine G_istore (lv' := [_, _, _, _, _, _, none, none, _, none, _]) (g_da dt_Filler_meetEdges 93 rfl) (Nat.le_of_ble_eq_true rfl) rfl rfl ?_
  refine G_iload (g_da dt_Filler_meetEdges 94 rfl) rfl ?_
  refine G_bipush (g_da dt_Filler_meetEdges 95 rfl) b8w_64 ?_
  refine G_icmp_ge (g_da dt_Filler_meetEdges 96 rfl) rfl rfl w_64 (fun hc16 => ?_) (fun hc16 => ?_)
  · have h := o_t hc16 h
    exact G_subK (Filler_meetEdges_207_ok hJc hk8 h) ⟨rfl, ⟨rfl, ⟨rfl, ⟨rfl, ⟨rfl, ⟨rfl, trivial⟩⟩⟩⟩⟩⟩
  · have h := o_f hc16 h
    refine G_aload_n (g_da dt_Filler_meetEdges 97 rfl) rfl rfl ?_
    refine G_getR (g_da dt_Filler_meetEdges 98 rfl) sh_15 fl_11_15 rfl ?_
    refine G_iload (g_da dt_Filler_meetEdges 99 rfl) rfl ?_
    refine G_dup2_11 (g_da dt_Filler_meetEdges 100 rfl) rfl rfl ?_
    obtain ⟨hb17, h⟩ := o_g h
    refine H_iaload (g_da dt_Filler_meetEdges 101 rfl) sh_17 (hJc 17 rfl) rfl hb17 rfl ?_
    refine G_iload (g_da dt_Filler_meetEdges 102 rfl) rfl ?_
    refine G_if_eq (g_da dt_Filler_meetEdges 103 rfl) rfl rfl  (fun hc18 => ?_) (fun hc18 => ?_)
    · have h := o_t hc18 h
      refine G_iconst (g_da dt_Filler_meetEdges 106 rfl) ?_
      exact G_subK (Filler_meetEdges_203_ok hJc hk8 h) ⟨rfl, ⟨rfl, ⟨rfl, ⟨rfl, ⟨rfl, trivial⟩⟩⟩⟩⟩
    · have h := o_f hc18 h
      refine G_iconst (g_da dt_Filler_meetEdges 104 rfl) ?_
      refine G_goto (g_da dt_Filler_meetEdges 105 rfl) rfl ?_
      exact G_subK (Filler_meetEdges_203_ok hJc hk8 h) ⟨rfl, ⟨rfl, ⟨rfl, ⟨rfl, ⟨rfl, trivial⟩⟩⟩⟩⟩
set_option maxHeartbeats 4000000 in
set_option maxRecDepth 100000 in
theorem Filler_meetEdges_150_ok {J : gS → gS} (hJc : g_jc J) {z0 : Int} {s0 : gS} {k8 : Int → Int → Int → Int → gS → gA} (hk8 : ∀ (l2 l3 l4 l5 : Int) (s : gS), k8 l2 l3 l4 l5 s = some (z0, s0) → G M_Filler_meetEdges (QE g_S J z0 s0) (g_S, 0, 0) (J s) 8 [some (.ref 15), some (.ref 28), some (gi l2), some (gi l3), some (gi l4), some (gi l5), none, none, none, none, none] [])  {l2 l3 l4 l5 l7 l8 : Int} {s : gS} (h : Filler_meetEdges_150 k8 l2 l3 l4 l5 l7 l8 s = some (z0, s0)) : G M_Filler_meetEdges (QE g_S J z0 s0) (g_S, 0, 0) (J s) 150 [some (.ref 15), some (.ref 28), some (gi l2), some (gi l3), some (gi l4), some (gi l5), none, some (gi l7), some (gi l8), none, none] [] := by
  unfold Filler_meetEdges_150 at h
  refine G_iload (g_da dt_Filler_meetEdges 80 rfl) rfl ?_
  refine G_if_eq (g_da dt_Filler_meetEdges 81 rfl) rfl rfl  (fun hc12 => ?_) (fun hc12 => ?_)
  · have h := o_t hc12 h
    refine G_aload_n (g_da dt_Filler_meetEdges 88 rfl) rfl rfl ?_
    refine G_iload (g_da dt_Filler_meetEdges 89 rfl) rfl ?_
    refine G_iload (g_da dt_Filler_meetEdges 90 rfl) rfl ?_
    refine G_iload_n (g_da dt_Filler_meetEdges 91 rfl) rfl rfl ?_
    obtain ⟨r13, s14, hc15, h⟩ := o_b h
    refine H_cSE (Filler_firstPixel_ok hJc hc15) (g_da dt_Filler_meetEdges 92 rfl) lk_11_40 ms_Filler_firstPixel rfl rfl rfl rfl rfl rfl ?_
    exact G_subK (Filler_meetEdges_176_ok hJc hk8 h) ⟨rfl, ⟨rfl, ⟨rfl, ⟨rfl, ⟨rfl, ⟨rfl, ⟨rfl, trivial⟩⟩⟩⟩⟩⟩⟩
  · have h := o_f hc12 h
    refine G_aload_n (g_da dt_Filler_meetEdges 82 rfl) rfl rfl ?_
    refine G_iload (g_da dt_Filler_meetEdges 83 rfl) rfl ?_
    refine G_iload (g_da dt_Filler_meetEdges 84 rfl) rfl ?_
    refine G_iload_n (g_da dt_Filler_meetEdges 85 rfl) rfl rfl ?_
    obtain ⟨r22, s23, hc24, h⟩ := o_b h
    refine H_cSE (Filler_firstPixel_ok hJc hc24) (g_da dt_Filler_meetEdges 86 rfl) lk_11_40 ms_Filler_firstPixel rfl rfl rfl rfl rfl rfl ?_
    refine G_goto (g_da dt_Filler_meetEdges 87 rfl) rfl ?_
    exact G_subK (Filler_meetEdges_176_ok hJc hk8 h) ⟨rfl, ⟨rfl, ⟨rfl, ⟨rfl, ⟨rfl, ⟨rfl, ⟨rfl, trivial⟩⟩⟩⟩⟩⟩⟩
set_option maxHeartbeats 4000000 in
set_option maxRecDepth 100000 in
theorem Filler_meetEdges_138_ok {J : gS → gS} (hJc : g_jc J) {z0 : Int} {s0 : gS} {k8 : Int → Int → Int → Int → gS → gA} (hk8 : ∀ (l2 l3 l4 l5 : Int) (s : gS), k8 l2 l3 l4 l5 s = some (z0, s0) → G M_Filler_meetEdges (QE g_S J z0 s0) (g_S, 0, 0) (J s) 8 [some (.ref 15), some (.ref 28), some (gi l2), some (gi l3), some (gi l4), some (gi l5), none, none, none, none, none] [])  {l2 l3 l4 l5 l7 l8 t0 : Int} {s : gS} (h : Filler_meetEdges_138 k8 l2 l3 l4 l5 l7 l8 t0 s = some (z0, s0)) : G M_Filler_meetEdges (QE g_S J z0 s0) (g_S, 0, 0) (J s) 138 [some (.ref 15), some (.ref 28), some (gi l2), some (gi l3), some (gi l4), some (gi l5), none, some (gi l7), some (gi l8), none, none] [gi t0] := by
  unfold Filler_meetEdges_138 at h
  refine G_istore (lv' := [_, _, _, _, _, _, none, _, _, _, none]) (g_da dt_Filler_meetEdges 75 rfl) (Nat.le_of_ble_eq_true rfl) rfl rfl ?_
  refine G_iload (g_da dt_Filler_meetEdges 76 rfl) rfl ?_
  refine G_if_ne (g_da dt_Filler_meetEdges 77 rfl) rfl rfl  (fun hc11 => ?_) (fun hc11 => ?_)
  · have h := o_f hc11 h
    exact G_subK (Filler_meetEdges_150_ok hJc hk8 h) ⟨rfl, ⟨rfl, ⟨rfl, ⟨rfl, ⟨rfl, ⟨rfl, ⟨rfl, ⟨rfl, trivial⟩⟩⟩⟩⟩⟩⟩⟩
  · have h := o_t hc11 h
    refine G_iload (g_da dt_Filler_meetEdges 78 rfl) rfl ?_
    refine G_if_eq (g_da dt_Filler_meetEdges 79 rfl) rfl rfl  (fun hc25 => ?_) (fun hc25 => ?_)
    · have h := o_t hc25 h
      exact G_subK (Filler_meetEdges_207_ok hJc hk8 h) ⟨rfl, ⟨rfl, ⟨rfl, ⟨rfl, ⟨rfl, ⟨rfl, trivial⟩⟩⟩⟩⟩⟩
    · have h := o_f hc25 h
      exact G_subK (Filler_meetEdges_150_ok hJc hk8 h) ⟨rfl, ⟨rfl, ⟨rfl, ⟨rfl, ⟨rfl, ⟨rfl, ⟨rfl, ⟨rfl, trivial⟩⟩⟩⟩⟩⟩⟩⟩
set_option maxHeartbeats 4000000 in
set_option maxRecDepth 100000 in
theorem Filler_meetEdges_137_ok {J : gS → gS} (hJc : g_jc J) {z0 : Int} {s0 : gS} {k8 : Int → Int → Int → Int → gS → gA} (hk8 : ∀ (l2 l3 l4 l5 : Int) (s : gS), k8 l2 l3 l4 l5 s = some (z0, s0) → G M_Filler_meetEdges (QE g_S J z0 s0) (g_S, 0, 0) (J s) 8 [some (.ref 15), some (.ref 28), some (gi l2), some (gi l3), some (gi l4), some (gi l5), none, none, none, none, none] [])  {l2 l3 l4 l5 l7 l8 : Int} {s : gS} (h : Filler_meetEdges_137 k8 l2 l3 l4 l5 l7 l8 s = some (z0, s0)) : G M_Filler_meetEdges (QE g_S J z0 s0) (g_S, 0, 0) (J s) 137 [some (.ref 15), some (.ref 28), some (gi l2), some (gi l3), some (gi l4), some (gi l5), none, some (gi l7), some (gi l8), none, none] [] := by
  unfold Filler_meetEdges_137 at h
  refine G_iconst (g_da dt_Filler_meetEdges 74 rfl) ?_
  exact G_subK (Filler_meetEdges_138_ok hJc hk8 h) ⟨rfl, ⟨rfl, ⟨rfl, ⟨rfl, ⟨rfl, ⟨rfl, ⟨rfl, ⟨rfl, trivial⟩⟩⟩⟩⟩⟩⟩⟩
set_option maxHeartbeats 4000000 in
set_option maxRecDepth 100000 in
theorem Filler_meetEdges_109_ok {J : gS → gS} (hJc : g_jc J) {z0 : Int} {s0 : gS} {k8 : Int → Int → Int → Int → gS → gA} (hk8 : ∀ (l2 l3 l4 l5 : Int) (s : gS), k8 l2 l3 l4 l5 s = some (z0, s0) → G M_Filler_meetEdges (QE g_S J z0 s0) (g_S, 0, 0) (J s) 8 [some (.ref 15), some (.ref 28), some (gi l2), some (gi l3), some (gi l4), some (gi l5), none, none, none, none, none] [])  {l2 l3 l4 l5 l7 t0 : Int} {s : gS} (h : Filler_meetEdges_109 k8 l2 l3 l4 l5 l7 t0 s = some (z0, s0)) : G M_Filler_meetEdges (QE g_S J z0 s0) (g_S, 0, 0) (J s) 109 [some (.ref 15), some (.ref 28), some (gi l2), some (gi l3), some (gi l4), some (gi l5), none, some (gi l7), none, none, none] [gi t0] := by
  unfold Filler_meetEdges_109 at h
  refine G_istore (lv' := [_, _, _, _, _, _, none, _, _, none, none]) (g_da dt_Filler_meetEdges 59 rfl) (Nat.le_of_ble_eq_true rfl) rfl rfl ?_
  refine G_aload_n (g_da dt_Filler_meetEdges 60 rfl) rfl rfl ?_
  refine G_getR (g_da dt_Filler_meetEdges 61 rfl) sh_28 fl_11_37 rfl ?_
  refine G_iload (g_da dt_Filler_meetEdges 62 rfl) rfl ?_
  obtain ⟨hb9, h⟩ := o_g h
  refine H_iaload (g_da dt_Filler_meetEdges 63 rfl) sh_30 (hJc 30 rfl) rfl hb9 rfl ?_
  refine G_iload_n (g_da dt_Filler_meetEdges 64 rfl) rfl rfl ?_
  refine G_icmp_gt (g_da dt_Filler_meetEdges 65 rfl) rfl rfl rfl (fun hc10 => ?_) (fun hc10 => ?_)
  · have h := o_t hc10 h
    exact G_subK (Filler_meetEdges_137_ok hJc hk8 h) ⟨rfl, ⟨rfl, ⟨rfl, ⟨rfl, ⟨rfl, ⟨rfl, ⟨rfl, ⟨rfl, trivial⟩⟩⟩⟩⟩⟩⟩⟩
  · have h := o_f hc10 h
    refine G_iload_n (g_da dt_Filler_meetEdges 66 rfl) rfl rfl ?_
    refine G_aload_n (g_da dt_Filler_meetEdges 67 rfl) rfl rfl ?_
    refine G_getR (g_da dt_Filler_meetEdges 68 rfl) sh_28 fl_11_37 rfl ?_
    refine G_iload (g_da dt_Filler_meetEdges 69 rfl) rfl ?_
    obtain ⟨hb26, h⟩ := o_g h
    refine H_iaload (g_da dt_Filler_meetEdges 70 rfl) sh_30 (hJc 30 rfl) rfl hb26 rfl ?_
    refine G_icmp_ge (g_da dt_Filler_meetEdges 71 rfl) rfl rfl rfl (fun hc27 => ?_) (fun hc27 => ?_)
    · have h := o_t hc27 h
      exact G_subK (Filler_meetEdges_137_ok hJc hk8 h) ⟨rfl, ⟨rfl, ⟨rfl, ⟨rfl, ⟨rfl, ⟨rfl, ⟨rfl, ⟨rfl, trivial⟩⟩⟩⟩⟩⟩⟩⟩
    · have h := o_f hc27 h
      refine G_iconst (g_da dt_Filler_meetEdges 72 rfl) ?_
      refine G_goto (g_da dt_Filler_meetEdges 73 rfl) rfl ?_
      exact G_subK (Filler_meetEdges_138_ok hJc hk8 h) ⟨rfl, ⟨rfl, ⟨rfl, ⟨rfl, ⟨rfl, ⟨rfl, ⟨rfl, ⟨rfl, trivial⟩⟩⟩⟩⟩⟩⟩⟩
set_option maxHeartbeats 4000000 in
set_option maxRecDepth 100000 in
theorem Filler_meetEdges_108_ok {J : gS → gS} (hJc : g_jc J) {z0 : Int} {s0 : gS} {k8 : Int → Int → Int → Int → gS → gA} (hk8 : ∀ (l2 l3 l4 l5 : Int) (s : gS), k8 l2 l3 l4 l5 s = some (z0, s0) → G M_Filler_meetEdges (QE g_S J z0 s0) (g_S, 0, 0) (J s) 8 [some (.ref 15), some (.ref 28), some (gi l2), some (gi l3), some (gi l4), some (gi l5), none, none, none, none, none] [])  {l2 l3 l4 l5 l7 : Int} {s : gS} (h : Filler_meetEdges_108 k8 l2 l3 l4 l5 l7 s = some (z0, s0)) : G M_Filler_meetEdges (QE g_S J z0 s0) (g_S, 0, 0) (J s) 108 [some (.ref 15), some (.ref 28), some (gi l2), some (gi l3), some (gi l4), some (gi l5), none, some (gi l7), none, none, none] [] := by
  unfold Filler_meetEdges_108 at h
  refine G_iconst (g_da dt_Filler_meetEdges 58 rfl) ?_
  exact G_subK (Filler_meetEdges_109_ok hJc hk8 h) ⟨rfl, ⟨rfl, ⟨rfl, ⟨rfl, ⟨rfl, ⟨rfl, ⟨rfl, trivial⟩⟩⟩⟩⟩⟩⟩
set_option maxHeartbeats 4000000 in
set_option maxRecDepth 100000 in
theorem Filler_meetEdges_80_ok {J : gS → gS} (hJc : g_jc J) {z0 : Int} {s0 : gS} {k8 : Int → Int → Int → Int → gS → gA} (hk8 : ∀ (l2 l3 l4 l5 : Int) (s : gS), k8 l2 l3 l4 l5 s = some (z0, s0) → G M_Filler_meetEdges (QE g_S J z0 s0) (g_S, 0, 0) (J s) 8 [some (.ref 15), some (.ref 28), some (gi l2), some (gi l3), some (gi l4), some (gi l5), none, none, none, none, none] [])  {l2 l3 l4 l5 t0 : Int} {s : gS} (h : Filler_meetEdges_80 k8 l2 l3 l4 l5 t0 s = some (z0, s0)) : G M_Filler_meetEdges (QE g_S J z0 s0) (g_S, 0, 0) (J s) 80 [some (.ref 15), some (.ref 28), some (gi l2), some (gi l3), some (gi l4), some (gi l5), none, none, none, none, none] [gi t0] := by
  unfold Filler_meetEdges_80 at h
  refine G_istore (lv' := [_, _, _, _, _, _, none, _, none, none, none]) (g_da dt_Filler_meetEdges 43 rfl) (Nat.le_of_ble_eq_true rfl) rfl rfl ?_
  refine G_aload_n (g_da dt_Filler_meetEdges 44 rfl) rfl rfl ?_
  refine G_getR (g_da dt_Filler_meetEdges 45 rfl) sh_28 fl_11_37 rfl ?_
  refine G_iload (g_da dt_Filler_meetEdges 46 rfl) rfl ?_
  obtain ⟨hb7, h⟩ := o_g h
  refine H_iaload (g_da dt_Filler_meetEdges 47 rfl) sh_30 (hJc 30 rfl) rfl hb7 rfl ?_
  refine G_iload_n (g_da dt_Filler_meetEdges 48 rfl) rfl rfl ?_
  refine G_icmp_gt (g_da dt_Filler_meetEdges 49 rfl) rfl rfl rfl (fun hc8 => ?_) (fun hc8 => ?_)
  · have h := o_t hc8 h
    exact G_subK (Filler_meetEdges_108_ok hJc hk8 h) ⟨rfl, ⟨rfl, ⟨rfl, ⟨rfl, ⟨rfl, ⟨rfl, ⟨rfl, trivial⟩⟩⟩⟩⟩⟩⟩
  · have h := o_f hc8 h
    refine G_iload_n (g_da dt_Filler_meetEdges 50 rfl) rfl rfl ?_
    refine G_aload_n (g_da dt_Filler_meetEdges 51 rfl) rfl rfl ?_
    refine G_getR (g_da dt_Filler_meetEdges 52 rfl) sh_28 fl_11_37 rfl ?_
    refine G_iload (g_da dt_Filler_meetEdges 53 rfl) rfl ?_
    obtain ⟨hb28, h⟩ := o_g h
    refine H_iaload (g_da dt_Filler_meetEdges 54 rfl) sh_30 (hJc 30 rfl) rfl hb28 rfl ?_
    refine G_icmp_ge (g_da dt_Filler_meetEdges 55 rfl) rfl rfl rfl (fun hc29 => ?_) (fun hc29 => ?_)
    · have h := o_t hc29 h
      exact G_subK (Filler_meetEdges_108_ok hJc hk8 h) ⟨rfl, ⟨rfl, ⟨rfl, ⟨rfl, ⟨rfl, ⟨rfl, ⟨rfl, trivial⟩⟩⟩⟩⟩⟩⟩
    · have h := o_f hc29 h
      refine G_iconst (g_da dt_Filler_meetEdges 56 rfl) ?_
      refine G_goto (g_da dt_Filler_meetEdges 57 rfl) rfl ?_
      exact G_subK (Filler_meetEdges_109_ok hJc hk8 h) ⟨rfl, ⟨rfl, ⟨rfl, ⟨rfl, ⟨rfl, ⟨rfl, ⟨rfl, trivial⟩⟩⟩⟩⟩⟩⟩
set_option maxHeartbeats 4000000 in
set_option maxRecDepth 100000 in
theorem Filler_meetEdges_64_ok {J : gS → gS} (hJc : g_jc J) {z0 : Int} {s0 : gS} {k8 : Int → Int → Int → Int → gS → gA} (hk8 : ∀ (l2 l3 l4 l5 : Int) (s : gS), k8 l2 l3 l4 l5 s = some (z0, s0) → G M_Filler_meetEdges (QE g_S J z0 s0) (g_S, 0, 0) (J s) 8 [some (.ref 15), some (.ref 28), some (gi l2), some (gi l3), some (gi l4), some (gi l5), none, none, none, none, none] [])  {l2 l3 l4 l5 t0 : Int} {s : gS} (h : Filler_meetEdges_64 k8 l2 l3 l4 l5 t0 s = some (z0, s0)) : G M_Filler_meetEdges (QE g_S J z0 s0) (g_S, 0, 0) (J s) 64 [some (.ref 15), some (.ref 28), some (gi l2), some (gi l3), some (gi l4), some (gi l5), none, none, none, none, none] [gi t0] := by
  unfold Filler_meetEdges_64 at h
  refine G_istore (lv' := [_, _, _, _, _, _, _, none, none, none, none]) (g_da dt_Filler_meetEdges 35 rfl) (Nat.le_of_ble_eq_true rfl) rfl rfl ?_
  refine G_iload (g_da dt_Filler_meetEdges 36 rfl) rfl ?_
  refine G_if_eq (g_da dt_Filler_meetEdges 37 rfl) rfl rfl  (fun hc6 => ?_) (fun hc6 => ?_)
  · have h := o_t hc6 h
    refine G_iload (g_da dt_Filler_meetEdges 40 rfl) rfl ?_
    refine G_iconst (g_da dt_Filler_meetEdges 41 rfl) ?_
    refine G_iadd (g_da dt_Filler_meetEdges 42 rfl) ?_
    exact G_subK (Filler_meetEdges_80_ok hJc hk8 h) ⟨rfl, ⟨rfl, ⟨rfl, ⟨rfl, ⟨rfl, ⟨rfl, trivial⟩⟩⟩⟩⟩⟩
  · have h := o_f hc6 h
    refine G_iload (g_da dt_Filler_meetEdges 38 rfl) rfl ?_
    refine G_goto (g_da dt_Filler_meetEdges 39 rfl) rfl ?_
    exact G_subK (Filler_meetEdges_80_ok hJc hk8 h) ⟨rfl, ⟨rfl, ⟨rfl, ⟨rfl, ⟨rfl, ⟨rfl, trivial⟩⟩⟩⟩⟩⟩
set_option maxHeartbeats 4000000 in
set_option maxRecDepth 100000 in
theorem Filler_meetEdges_59_ok {J : gS → gS} (hJc : g_jc J) {z0 : Int} {s0 : gS} {k8 : Int → Int → Int → Int → gS → gA} (hk8 : ∀ (l2 l3 l4 l5 : Int) (s : gS), k8 l2 l3 l4 l5 s = some (z0, s0) → G M_Filler_meetEdges (QE g_S J z0 s0) (g_S, 0, 0) (J s) 8 [some (.ref 15), some (.ref 28), some (gi l2), some (gi l3), some (gi l4), some (gi l5), none, none, none, none, none] [])  {l2 l3 l4 l5 : Int} {s : gS} (h : Filler_meetEdges_59 k8 l2 l3 l4 l5 s = some (z0, s0)) : G M_Filler_meetEdges (QE g_S J z0 s0) (g_S, 0, 0) (J s) 59 [some (.ref 15), some (.ref 28), some (gi l2), some (gi l3), some (gi l4), some (gi l5), none, none, none, none, none] [] := by
  unfold Filler_meetEdges_59 at h
  refine G_iconst (g_da dt_Filler_meetEdges 32 rfl) ?_
  refine G_goto (g_da dt_Filler_meetEdges 33 rfl) rfl ?_
  exact G_subK (Filler_meetEdges_64_ok hJc hk8 h) ⟨rfl, ⟨rfl, ⟨rfl, ⟨rfl, ⟨rfl, ⟨rfl, trivial⟩⟩⟩⟩⟩⟩
set_option maxHeartbeats 4000000 in
set_option maxRecDepth 100000 in
theorem Filler_meetEdges_34_ok {J : gS → gS} (hJc : g_jc J) {z0 : Int} {s0 : gS} {k8 : Int → Int → Int → Int → gS → gA} (hk8 : ∀ (l2 l3 l4 l5 : Int) (s : gS), k8 l2 l3 l4 l5 s = some (z0, s0) → G M_Filler_meetEdges (QE g_S J z0 s0) (g_S, 0, 0) (J s) 8 [some (.ref 15), some (.ref 28), some (gi l2), some (gi l3), some (gi l4), some (gi l5), none, none, none, none, none] [])  {l2 l3 l5 t0 : Int} {s : gS} (h : Filler_meetEdges_34 k8 l2 l3 l5 t0 s = some (z0, s0)) : G M_Filler_meetEdges (QE g_S J z0 s0) (g_S, 0, 0) (J s) 34 [some (.ref 15), some (.ref 28), some (gi l2), some (gi l3), none, some (gi l5), none, none, none, none, none] [gi t0] := by
  unfold Filler_meetEdges_34 at h
  refine G_istore (lv' := [_, _, _, _, _, _, none, none, none, none, none]) (g_da dt_Filler_meetEdges 18 rfl) (Nat.le_of_ble_eq_true rfl) rfl rfl ?_
  refine G_iload (g_da dt_Filler_meetEdges 19 rfl) rfl ?_
  refine G_iconst (g_da dt_Filler_meetEdges 20 rfl) ?_
  refine G_iadd (g_da dt_Filler_meetEdges 21 rfl) ?_
  refine G_aload_n (g_da dt_Filler_meetEdges 22 rfl) rfl rfl ?_
  refine H_getI (g_da dt_Filler_meetEdges 23 rfl) sh_28 fl_11_27 rfl (hJc 28 rfl) ?_
  refine G_icmp_eq (g_da dt_Filler_meetEdges 24 rfl) rfl rfl rfl (fun hc5 => ?_) (fun hc5 => ?_)
  · have h := o_t hc5 h
    exact G_subK (Filler_meetEdges_59_ok hJc hk8 h) ⟨rfl, ⟨rfl, ⟨rfl, ⟨rfl, ⟨rfl, ⟨rfl, trivial⟩⟩⟩⟩⟩⟩
  · have h := o_f hc5 h
    refine G_aload_n (g_da dt_Filler_meetEdges 25 rfl) rfl rfl ?_
    refine G_getR (g_da dt_Filler_meetEdges 26 rfl) sh_28 fl_11_33 rfl ?_
    refine G_iload (g_da dt_Filler_meetEdges 27 rfl) rfl ?_
    refine G_iconst (g_da dt_Filler_meetEdges 28 rfl) ?_
    refine G_iadd (g_da dt_Filler_meetEdges 29 rfl) ?_
    obtain ⟨hb30, h⟩ := o_g h
    refine H_zaload (g_da dt_Filler_meetEdges 30 rfl) sh_31 (hJc 31 rfl) rfl hb30 rfl ?_
    refine G_if_eq (g_da dt_Filler_meetEdges 31 rfl) rfl rfl  (fun hc31 => ?_) (fun hc31 => ?_)
    · have h := o_t hc31 h
      refine G_iconst (g_da dt_Filler_meetEdges 34 rfl) ?_
      exact G_subK (Filler_meetEdges_64_ok hJc hk8 h) ⟨rfl, ⟨rfl, ⟨rfl, ⟨rfl, ⟨rfl, ⟨rfl, trivial⟩⟩⟩⟩⟩⟩
    · have h := o_f hc31 h
      exact G_subK (Filler_meetEdges_59_ok hJc hk8 h) ⟨rfl, ⟨rfl, ⟨rfl, ⟨rfl, ⟨rfl, ⟨rfl, trivial⟩⟩⟩⟩⟩⟩
set_option maxHeartbeats 4000000 in
set_option maxRecDepth 100000 in
theorem Filler_meetEdges_8_ok {J : gS → gS} (hJc : g_jc J) {z0 : Int} {s0 : gS} {k8 : Int → Int → Int → Int → gS → gA} (hk8 : ∀ (l2 l3 l4 l5 : Int) (s : gS), k8 l2 l3 l4 l5 s = some (z0, s0) → G M_Filler_meetEdges (QE g_S J z0 s0) (g_S, 0, 0) (J s) 8 [some (.ref 15), some (.ref 28), some (gi l2), some (gi l3), some (gi l4), some (gi l5), none, none, none, none, none] [])  {l2 l3 l4 l5 : Int} {s : gS} (h : Filler_meetEdges_8 k8 l2 l3 l4 l5 s = some (z0, s0)) : G M_Filler_meetEdges (QE g_S J z0 s0) (g_S, 0, 0) (J s) 8 [some (.ref 15), some (.ref 28), some (gi l2), some (gi l3), some (gi l4), some (gi l5), none, none, none, none, none] [] := by
  unfold Filler_meetEdges_8 at h
  refine G_iload (g_da dt_Filler_meetEdges 6 rfl) rfl ?_
  refine G_aload_n (g_da dt_Filler_meetEdges 7 rfl) rfl rfl ?_
  refine H_getI (g_da dt_Filler_meetEdges 8 rfl) sh_28 fl_11_27 rfl (hJc 28 rfl) ?_
  refine G_icmp_ge (g_da dt_Filler_meetEdges 9 rfl) rfl rfl rfl (fun hc1 => ?_) (fun hc1 => ?_)
  · have h := o_t hc1 h
    refine G_iload_n (g_da dt_Filler_meetEdges 113 rfl) rfl rfl ?_
    obtain ⟨hz2, h⟩ := o_g h
    exact G_ireturn (g_da dt_Filler_meetEdges 114 rfl) rfl (g_bool hz2).1 rfl (g_nz rfl) (q_e h)
  · have h := o_f hc1 h
    refine G_aload_n (g_da dt_Filler_meetEdges 10 rfl) rfl rfl ?_
    refine G_getR (g_da dt_Filler_meetEdges 11 rfl) sh_28 fl_11_33 rfl ?_
    refine G_iload (g_da dt_Filler_meetEdges 12 rfl) rfl ?_
    obtain ⟨hb3, h⟩ := o_g h
    refine H_zaload (g_da dt_Filler_meetEdges 13 rfl) sh_31 (hJc 31 rfl) rfl hb3 rfl ?_
    refine G_if_eq (g_da dt_Filler_meetEdges 14 rfl) rfl rfl  (fun hc4 => ?_) (fun hc4 => ?_)
    · have h := o_t hc4 h
      refine G_iload (g_da dt_Filler_meetEdges 17 rfl) rfl ?_
      exact G_subK (Filler_meetEdges_34_ok hJc hk8 h) ⟨rfl, ⟨rfl, ⟨rfl, ⟨rfl, ⟨rfl, trivial⟩⟩⟩⟩⟩
    · have h := o_f hc4 h
      refine G_iload (g_da dt_Filler_meetEdges 15 rfl) rfl ?_
      refine G_goto (g_da dt_Filler_meetEdges 16 rfl) rfl ?_
      exact G_subK (Filler_meetEdges_34_ok hJc hk8 h) ⟨rfl, ⟨rfl, ⟨rfl, ⟨rfl, ⟨rfl, trivial⟩⟩⟩⟩⟩
set_option maxHeartbeats 4000000 in
set_option maxRecDepth 100000 in
theorem Filler_meetEdges_8L_ok {J : gS → gS} (hJc : g_jc J) {z0 : Int} {s0 : gS} : ∀ (n : Nat) {l2 l3 l4 l5 : Int} {s : gS}, Filler_meetEdges_8L n l2 l3 l4 l5 s = some (z0, s0) → G M_Filler_meetEdges (QE g_S J z0 s0) (g_S, 0, 0) (J s) 8 [some (.ref 15), some (.ref 28), some (gi l2), some (gi l3), some (gi l4), some (gi l5), none, none, none, none, none] [] := by
  intro n
  induction n with
  | zero => intro _ _ _ _ _ h; cases h
  | succ n ih => intro _ _ _ _ _ h; exact Filler_meetEdges_8_ok hJc (fun _ _ _ _ _ h => ih h) h
set_option maxHeartbeats 4000000 in
set_option maxRecDepth 100000 in
theorem Filler_meetEdges_ok {J : gS → gS} (hJc : g_jc J) {z0 : Int} {s0 : gS} {a2 : Int} {s : gS} (h : Filler_meetEdges a2 s = some (z0, s0)) : Ct M_Filler_meetEdges g_S [.ref 15, .ref 28, gi a2] (J s) (QE g_S J z0 s0) := by
  refine Ct_of [some (.ref 15), some (.ref 28), some (gi a2), none, none, none, none, none, none, none, none] (plainFor_of_name (by decide)) rfl (Nat.le_of_ble_eq_true rfl) rfl (by decide) q_rE ?_
  unfold Filler_meetEdges at h
  refine G_iconst (g_da dt_Filler_meetEdges 0 rfl) ?_
  refine G_istore_n (lv' := [_, _, _, _, none, none, none, none, none, none, none]) (g_da dt_Filler_meetEdges 1 rfl) rfl (Nat.le_of_ble_eq_true rfl) rfl rfl ?_
  refine G_iconst (g_da dt_Filler_meetEdges 2 rfl) ?_
  refine G_istore (lv' := [_, _, _, _, _, none, none, none, none, none, none]) (g_da dt_Filler_meetEdges 3 rfl) (Nat.le_of_ble_eq_true rfl) rfl rfl ?_
  refine G_iconst (g_da dt_Filler_meetEdges 4 rfl) ?_
  refine G_istore (lv' := [_, _, _, _, _, _, none, none, none, none, none]) (g_da dt_Filler_meetEdges 5 rfl) (Nat.le_of_ble_eq_true rfl) rfl rfl ?_
  exact G_subK (Filler_meetEdges_8L_ok hJc gFu h) ⟨rfl, ⟨rfl, ⟨rfl, ⟨rfl, ⟨rfl, ⟨rfl, trivial⟩⟩⟩⟩⟩⟩
set_option maxHeartbeats 4000000 in
set_option maxRecDepth 100000 in
theorem Filler_sweep_79_ok {J : gS → gS} (hJc : g_jc J) {z0 : Int} {s0 : gS} {k8 : Int → Int → Int → Int → gS → gA} (hk8 : ∀ (l1 l2 l4 l5 : Int) (s : gS), k8 l1 l2 l4 l5 s = some (z0, s0) → G M_Filler_sweep (QF g_S J z0 s0) (g_S, 0, 0) (J s) 8 [some (.ref 15), some (gi l1), some (gl l2), none, some (gi l4), some (gi l5), none] [])  {l1 l4 l5 t0 t1 : Int} {s : gS} (h : Filler_sweep_79 k8 l1 l4 l5 t0 t1 s = some (z0, s0)) : G M_Filler_sweep (QF g_S J z0 s0) (g_S, 0, 0) (J s) 79 [some (.ref 15), some (gi l1), none, none, some (gi l4), some (gi l5), none] [gl t1, gl t0] := by
  unfold Filler_sweep_79 at h
  refine G_lor (g_da dt_Filler_sweep 45 rfl) ?_
  refine H_topl (fun v11 e12 => ?_)
  have h := o_l h v11 e12
  refine G_lstore_n (lv' := [_, _, _, none, _, _, none]) (g_da dt_Filler_sweep 46 rfl) rfl (Nat.le_of_ble_eq_true rfl) rfl rfl ?_
  refine G_iinc (lv' := [_, _, _, none, _, _, none]) (g_da dt_Filler_sweep 47 rfl) rfl (Nat.le_of_ble_eq_true rfl) rfl rfl ?_
  refine G_goto (g_da dt_Filler_sweep 48 rfl) rfl ?_
  exact G_subK (hk8 _ _ _ _ _ h) ⟨rfl, ⟨rfl, ⟨rfl, ⟨rfl, ⟨rfl, trivial⟩⟩⟩⟩⟩
set_option maxHeartbeats 4000000 in
set_option maxRecDepth 100000 in
theorem Filler_sweep_64_ok {J : gS → gS} (hJc : g_jc J) {z0 : Int} {s0 : gS} {k8 : Int → Int → Int → Int → gS → gA} (hk8 : ∀ (l1 l2 l4 l5 : Int) (s : gS), k8 l1 l2 l4 l5 s = some (z0, s0) → G M_Filler_sweep (QF g_S J z0 s0) (g_S, 0, 0) (J s) 8 [some (.ref 15), some (gi l1), some (gl l2), none, some (gi l4), some (gi l5), none] [])  {l1 l2 l4 l5 t0 : Int} {s : gS} (h : Filler_sweep_64 k8 l1 l2 l4 l5 t0 s = some (z0, s0)) : G M_Filler_sweep (QF g_S J z0 s0) (g_S, 0, 0) (J s) 64 [some (.ref 15), some (gi l1), some (gl l2), none, some (gi l4), some (gi l5), none] [gi t0] := by
  unfold Filler_sweep_64 at h
  refine G_istore (lv' := [_, _, _, none, _, _, _]) (g_da dt_Filler_sweep 36 rfl) (Nat.le_of_ble_eq_true rfl) rfl rfl ?_
  refine G_lload_n (g_da dt_Filler_sweep 37 rfl) rfl rfl ?_
  refine G_iconst (g_da dt_Filler_sweep 38 rfl) ?_
  refine G_lshl (g_da dt_Filler_sweep 39 rfl) ?_
  refine G_iload (g_da dt_Filler_sweep 40 rfl) rfl ?_
  refine G_if_eq (g_da dt_Filler_sweep 41 rfl) rfl rfl  (fun hc10 => ?_) (fun hc10 => ?_)
  · have h := o_t hc10 h
    refine G_lconst (z := 0) (g_da dt_Filler_sweep 44 rfl) rfl ?_
    exact G_subK (Filler_sweep_79_ok hJc hk8 h) ⟨rfl, ⟨rfl, ⟨rfl, ⟨rfl, trivial⟩⟩⟩⟩
  · have h := o_f hc10 h
    refine G_lconst (z := 1) (g_da dt_Filler_sweep 42 rfl) rfl ?_
    refine G_goto (g_da dt_Filler_sweep 43 rfl) rfl ?_
    exact G_subK (Filler_sweep_79_ok hJc hk8 h) ⟨rfl, ⟨rfl, ⟨rfl, ⟨rfl, trivial⟩⟩⟩⟩
set_option maxHeartbeats 4000000 in
set_option maxRecDepth 100000 in
theorem Filler_sweep_8_ok {J : gS → gS} (hJc : g_jc J) {z0 : Int} {s0 : gS} {k8 : Int → Int → Int → Int → gS → gA} (hk8 : ∀ (l1 l2 l4 l5 : Int) (s : gS), k8 l1 l2 l4 l5 s = some (z0, s0) → G M_Filler_sweep (QF g_S J z0 s0) (g_S, 0, 0) (J s) 8 [some (.ref 15), some (gi l1), some (gl l2), none, some (gi l4), some (gi l5), none] [])  {l1 l2 l4 l5 : Int} {s : gS} (h : Filler_sweep_8 k8 l1 l2 l4 l5 s = some (z0, s0)) : G M_Filler_sweep (QF g_S J z0 s0) (g_S, 0, 0) (J s) 8 [some (.ref 15), some (gi l1), some (gl l2), none, some (gi l4), some (gi l5), none] [] := by
  unfold Filler_sweep_8 at h
  refine G_iload (g_da dt_Filler_sweep 6 rfl) rfl ?_
  refine G_bipush (g_da dt_Filler_sweep 7 rfl) b8w_64 ?_
  refine G_icmp_ge (g_da dt_Filler_sweep 8 rfl) rfl rfl w_64 (fun hc1 => ?_) (fun hc1 => ?_)
  · have h := o_t hc1 h
    refine G_lload_n (g_da dt_Filler_sweep 49 rfl) rfl rfl ?_
    exact G_lreturn (g_da dt_Filler_sweep 50 rfl) rfl rfl (g_nz rfl) (q_f h)
  · have h := o_f hc1 h
    refine G_iload (g_da dt_Filler_sweep 9 rfl) rfl ?_
    refine G_aload_n (g_da dt_Filler_sweep 10 rfl) rfl rfl ?_
    refine G_getR (g_da dt_Filler_sweep 11 rfl) sh_15 fl_11_15 rfl ?_
    refine G_iload (g_da dt_Filler_sweep 12 rfl) rfl ?_
    obtain ⟨hb2, h⟩ := o_g h
    refine H_iaload (g_da dt_Filler_sweep 13 rfl) sh_17 (hJc 17 rfl) rfl hb2 rfl ?_
    refine G_iadd (g_da dt_Filler_sweep 14 rfl) ?_
    refine H_topi (fun v3 e4 => ?_)
    have h := o_l h v3 e4
    refine G_istore (lv' := [_, _, _, none, _, _, none]) (g_da dt_Filler_sweep 15 rfl) (Nat.le_of_ble_eq_true rfl) rfl rfl ?_
    refine G_aload_n (g_da dt_Filler_sweep 16 rfl) rfl rfl ?_
    refine G_getR (g_da dt_Filler_sweep 17 rfl) sh_15 fl_11_15 rfl ?_
    refine G_iload (g_da dt_Filler_sweep 18 rfl) rfl ?_
    refine G_iconst (g_da dt_Filler_sweep 19 rfl) ?_
    obtain ⟨hb5, h⟩ := o_g h
    refine H_iastore (g_da dt_Filler_sweep 20 rfl) sh_17 (hJc 17 rfl) rfl hb5 rfl (fun s6 e7 => ?_)
    have h := o_l h s6 e7
    refine G_iload_n (g_da dt_Filler_sweep 21 rfl) rfl rfl ?_
    refine G_if_eq (g_da dt_Filler_sweep 22 rfl) rfl rfl  (fun hc8 => ?_) (fun hc8 => ?_)
    · have h := o_t hc8 h
      refine G_iload (g_da dt_Filler_sweep 31 rfl) rfl ?_
      refine G_if_eq (g_da dt_Filler_sweep 32 rfl) rfl rfl  (fun hc9 => ?_) (fun hc9 => ?_)
      · have h := o_t hc9 h
        refine G_iconst (g_da dt_Filler_sweep 35 rfl) ?_
        exact G_subK (Filler_sweep_64_ok hJc hk8 h) ⟨rfl, ⟨rfl, ⟨rfl, ⟨rfl, ⟨rfl, trivial⟩⟩⟩⟩⟩
      · have h := o_f hc9 h
        refine G_iconst (g_da dt_Filler_sweep 33 rfl) ?_
        refine G_goto (g_da dt_Filler_sweep 34 rfl) rfl ?_
        exact G_subK (Filler_sweep_64_ok hJc hk8 h) ⟨rfl, ⟨rfl, ⟨rfl, ⟨rfl, ⟨rfl, trivial⟩⟩⟩⟩⟩
    · have h := o_f hc8 h
      refine G_iload (g_da dt_Filler_sweep 23 rfl) rfl ?_
      refine G_iconst (g_da dt_Filler_sweep 24 rfl) ?_
      refine G_iand (g_da dt_Filler_sweep 25 rfl) ?_
      refine G_if_eq (g_da dt_Filler_sweep 26 rfl) rfl rfl  (fun hc13 => ?_) (fun hc13 => ?_)
      · have h := o_t hc13 h
        refine G_iconst (g_da dt_Filler_sweep 29 rfl) ?_
        refine G_goto (g_da dt_Filler_sweep 30 rfl) rfl ?_
        exact G_subK (Filler_sweep_64_ok hJc hk8 h) ⟨rfl, ⟨rfl, ⟨rfl, ⟨rfl, ⟨rfl, trivial⟩⟩⟩⟩⟩
      · have h := o_f hc13 h
        refine G_iconst (g_da dt_Filler_sweep 27 rfl) ?_
        refine G_goto (g_da dt_Filler_sweep 28 rfl) rfl ?_
        exact G_subK (Filler_sweep_64_ok hJc hk8 h) ⟨rfl, ⟨rfl, ⟨rfl, ⟨rfl, ⟨rfl, trivial⟩⟩⟩⟩⟩
set_option maxHeartbeats 4000000 in
set_option maxRecDepth 100000 in
theorem Filler_sweep_8L_ok {J : gS → gS} (hJc : g_jc J) {z0 : Int} {s0 : gS} : ∀ (n : Nat) {l1 l2 l4 l5 : Int} {s : gS}, Filler_sweep_8L n l1 l2 l4 l5 s = some (z0, s0) → G M_Filler_sweep (QF g_S J z0 s0) (g_S, 0, 0) (J s) 8 [some (.ref 15), some (gi l1), some (gl l2), none, some (gi l4), some (gi l5), none] [] := by
  intro n
  induction n with
  | zero => intro _ _ _ _ _ h; cases h
  | succ n ih => intro _ _ _ _ _ h; exact Filler_sweep_8_ok hJc (fun _ _ _ _ _ h => ih h) h
set_option maxHeartbeats 4000000 in
set_option maxRecDepth 100000 in
theorem Filler_sweep_ok {J : gS → gS} (hJc : g_jc J) {z0 : Int} {s0 : gS} {a1 : Int} {s : gS} (h : Filler_sweep a1 s = some (z0, s0)) : Ct M_Filler_sweep g_S [.ref 15, gi a1] (J s) (QF g_S J z0 s0) := by
  refine Ct_of [some (.ref 15), some (gi a1), none, none, none, none, none] (plainFor_of_name (by decide)) rfl (Nat.le_of_ble_eq_true rfl) rfl (by decide) q_rF ?_
  unfold Filler_sweep at h
  refine G_lconst (z := 0) (g_da dt_Filler_sweep 0 rfl) rfl ?_
  refine G_lstore_n (lv' := [_, _, _, none, none, none, none]) (g_da dt_Filler_sweep 1 rfl) rfl (Nat.le_of_ble_eq_true rfl) rfl rfl ?_
  refine G_iconst (g_da dt_Filler_sweep 2 rfl) ?_
  refine G_istore (lv' := [_, _, _, none, _, none, none]) (g_da dt_Filler_sweep 3 rfl) (Nat.le_of_ble_eq_true rfl) rfl rfl ?_
  refine G_iconst (g_da dt_Filler_sweep 4 rfl) ?_
  refine G_istore (lv' := [_, _, _, none, _, _, none]) (g_da dt_Filler_sweep 5 rfl) (Nat.le_of_ble_eq_true rfl) rfl rfl ?_
  exact G_subK (Filler_sweep_8L_ok hJc gFu h) ⟨rfl, ⟨rfl, ⟨rfl, ⟨rfl, ⟨rfl, trivial⟩⟩⟩⟩⟩
set_option maxHeartbeats 4000000 in
set_option maxRecDepth 100000 in
theorem Filler_trace_35_ok {J : gS → gS} (hJc : g_jc J) {z0 : Int} {s0 : gS} {k2 : Int → Int → gS → gA} (hk2 : ∀ (l2 l3 : Int) (s : gS), k2 l2 l3 s = some (z0, s0) → G M_Filler_trace (QG g_S J z0 s0) (g_S, 0, 0) (J s) 2 [some (.ref 15), some (.ref 28), some (gi l2), some (gi l3)] [])  {l2 l3 t1 t2 : Int} {s : gS} (h : Filler_trace_35 k2 l2 l3 t1 t2 s = some (z0, s0)) : G M_Filler_trace (QG g_S J z0 s0) (g_S, 0, 0) (J s) 35 [some (.ref 15), some (.ref 28), some (gi l2), some (gi l3)] [gl t2, gi t1, .ref 16] := by
  unfold Filler_trace_35 at h
  obtain ⟨hb6, h⟩ := o_g h
  refine H_lastore (g_da dt_Filler_trace 22 rfl) sh_16 (hJc 16 rfl) rfl hb6 rfl (fun s7 e8 => ?_)
  have h := o_l h s7 e8
  refine G_iinc (lv' := [_, _, _, _]) (g_da dt_Filler_trace 23 rfl) rfl (Nat.le_of_ble_eq_true rfl) rfl rfl ?_
  refine G_goto (g_da dt_Filler_trace 24 rfl) rfl ?_
  exact G_subK (hk2 _ _ _ h) ⟨rfl, ⟨rfl, ⟨rfl, ⟨rfl, trivial⟩⟩⟩⟩
set_option maxHeartbeats 4000000 in
set_option maxRecDepth 100000 in
theorem Filler_trace_2_ok {J : gS → gS} (hJc : g_jc J) {z0 : Int} {s0 : gS} {k2 : Int → Int → gS → gA} (hk2 : ∀ (l2 l3 : Int) (s : gS), k2 l2 l3 s = some (z0, s0) → G M_Filler_trace (QG g_S J z0 s0) (g_S, 0, 0) (J s) 2 [some (.ref 15), some (.ref 28), some (gi l2), some (gi l3)] [])  {l2 l3 : Int} {s : gS} (h : Filler_trace_2 k2 l2 l3 s = some (z0, s0)) : G M_Filler_trace (QG g_S J z0 s0) (g_S, 0, 0) (J s) 2 [some (.ref 15), some (.ref 28), some (gi l2), some (gi l3)] [] := by
  unfold Filler_trace_2 at h
  refine G_iload_n (g_da dt_Filler_trace 2 rfl) rfl rfl ?_
  refine G_bipush (g_da dt_Filler_trace 3 rfl) b8w_48 ?_
  refine G_icmp_ge (g_da dt_Filler_trace 4 rfl) rfl rfl w_48 (fun hc1 => ?_) (fun hc1 => ?_)
  · have h := o_t hc1 h
    exact G_return (g_da dt_Filler_trace 25 rfl) rfl rfl (g_nz rfl) (q_g h)
  · have h := o_f hc1 h
    refine G_aload_n (g_da dt_Filler_trace 5 rfl) rfl rfl ?_
    refine G_getR (g_da dt_Filler_trace 6 rfl) sh_15 fl_11_9 rfl ?_
    refine G_iload_n (g_da dt_Filler_trace 7 rfl) rfl rfl ?_
    refine G_aload_n (g_da dt_Filler_trace 8 rfl) rfl rfl ?_
    refine G_aload_n (g_da dt_Filler_trace 9 rfl) rfl rfl ?_
    refine G_iconst (g_da dt_Filler_trace 10 rfl) ?_
    refine G_iload_n (g_da dt_Filler_trace 11 rfl) rfl rfl ?_
    refine G_imul (g_da dt_Filler_trace 12 rfl) ?_
    refine G_iconst (g_da dt_Filler_trace 13 rfl) ?_
    refine G_iadd (g_da dt_Filler_trace 14 rfl) ?_
    obtain ⟨r2, s3, hc4, h⟩ := o_b h
    refine H_cVE (Filler_meetEdges_ok hJc hc4) (g_da dt_Filler_trace 15 rfl) lk_11_19 mv_Filler_meetEdges rfl sh_15 rfl rfl rfl rfl rfl rfl ?_
    refine G_if_eq (g_da dt_Filler_trace 16 rfl) rfl rfl  (fun hc5 => ?_) (fun hc5 => ?_)
    · have h := o_t hc5 h
      refine G_lconst (z := 0) (g_da dt_Filler_trace 21 rfl) rfl ?_
      exact G_subK (Filler_trace_35_ok hJc hk2 h) ⟨rfl, ⟨rfl, ⟨rfl, ⟨rfl, trivial⟩⟩⟩⟩
    · have h := o_f hc5 h
      refine G_aload_n (g_da dt_Filler_trace 17 rfl) rfl rfl ?_
      refine G_iload_n (g_da dt_Filler_trace 18 rfl) rfl rfl ?_
      obtain ⟨r9, s10, hc11, h⟩ := o_b h
      refine H_cVF (Filler_sweep_ok hJc hc11) (g_da dt_Filler_trace 19 rfl) lk_11_23 mv_Filler_sweep rfl sh_15 rfl rfl rfl rfl rfl rfl ?_
      refine G_goto (g_da dt_Filler_trace 20 rfl) rfl ?_
      exact G_subK (Filler_trace_35_ok hJc hk2 h) ⟨rfl, ⟨rfl, ⟨rfl, ⟨rfl, trivial⟩⟩⟩⟩
set_option maxHeartbeats 4000000 in
set_option maxRecDepth 100000 in
theorem Filler_trace_2L_ok {J : gS → gS} (hJc : g_jc J) {z0 : Int} {s0 : gS} : ∀ (n : Nat) {l2 l3 : Int} {s : gS}, Filler_trace_2L n l2 l3 s = some (z0, s0) → G M_Filler_trace (QG g_S J z0 s0) (g_S, 0, 0) (J s) 2 [some (.ref 15), some (.ref 28), some (gi l2), some (gi l3)] [] := by
  intro n
  induction n with
  | zero => intro _ _ _ h; cases h
  | succ n ih => intro _ _ _ h; exact Filler_trace_2_ok hJc (fun _ _ _ h => ih h) h
set_option maxHeartbeats 4000000 in
set_option maxRecDepth 100000 in
theorem Filler_trace_ok {J : gS → gS} (hJc : g_jc J) {z0 : Int} {s0 : gS} {a2 : Int} {s : gS} (h : Filler_trace a2 s = some (z0, s0)) : Ct M_Filler_trace g_S [.ref 15, .ref 28, gi a2] (J s) (QG g_S J z0 s0) := by
  refine Ct_of [some (.ref 15), some (.ref 28), some (gi a2), none] (plainFor_of_name (by decide)) rfl (Nat.le_of_ble_eq_true rfl) rfl (by decide) q_rG ?_
  unfold Filler_trace at h
  refine G_iconst (g_da dt_Filler_trace 0 rfl) ?_
  refine G_istore_n (lv' := [_, _, _, _]) (g_da dt_Filler_trace 1 rfl) rfl (Nat.le_of_ble_eq_true rfl) rfl rfl ?_
  exact G_subK (Filler_trace_2L_ok hJc gFu h) ⟨rfl, ⟨rfl, ⟨rfl, ⟨rfl, trivial⟩⟩⟩⟩
set_option maxHeartbeats 4000000 in
set_option maxRecDepth 100000 in
theorem Settings_clipLine_ok {J : gS → gS} (hJc : g_jc J) {z0 : Int} {s0 : gS} {a1 : Int} {s : gS} (h : Settings_clipLine a1 s = some (z0, s0)) : Ct M_Settings_clipLine g_S [.ref 21, gi a1] (J s) (QF g_S J z0 s0) := by
  refine Ct_of [some (.ref 21), some (gi a1)] (plainFor_of_name (by decide)) rfl (Nat.le_of_ble_eq_true rfl) rfl (by decide) q_rF ?_
  unfold Settings_clipLine at h
  refine G_aload_n (g_da dt_Settings_clipLine 0 rfl) rfl rfl ?_
  refine G_getR (g_da dt_Settings_clipLine 1 rfl) sh_21 fl_3_27 rfl ?_
  refine G_aload_n (g_da dt_Settings_clipLine 2 rfl) rfl rfl ?_
  refine H_getI (g_da dt_Settings_clipLine 3 rfl) sh_21 fl_3_39 rfl (hJc 21 rfl) ?_
  refine G_bipush (g_da dt_Settings_clipLine 4 rfl) b8w_48 ?_
  refine G_imul (g_da dt_Settings_clipLine 5 rfl) ?_
  refine G_iload_n (g_da dt_Settings_clipLine 6 rfl) rfl rfl ?_
  refine G_iadd (g_da dt_Settings_clipLine 7 rfl) ?_
  obtain ⟨hb1, h⟩ := o_g h
  refine H_laload (g_da dt_Settings_clipLine 8 rfl) sh_27 (hJc 27 rfl) rfl hb1 rfl ?_
  exact G_lreturn (g_da dt_Settings_clipLine 9 rfl) rfl rfl (g_nz rfl) (q_f h)
set_option maxHeartbeats 4000000 in
set_option maxRecDepth 100000 in
theorem Long_bitCount_ok {J : gS → gS} {z0 : Int} {s0 : gS} {a0 : Int} {s : gS} (h : Long_bitCount a0 s = some (z0, s0)) : Ct M_Long_bitCount g_S [gl a0] (J s) (QE g_S J z0 s0) := by
  refine Ct_of [some (gl a0), none] (plainFor_of_name (by decide)) rfl (Nat.le_of_ble_eq_true rfl) rfl (by decide) q_rE ?_
  unfold Long_bitCount at h
  refine G_lload_n (g_da dt_Long_bitCount 0 rfl) rfl rfl ?_
  refine G_lload_n (g_da dt_Long_bitCount 1 rfl) rfl rfl ?_
  refine G_iconst (g_da dt_Long_bitCount 2 rfl) ?_
  refine G_lushr (g_da dt_Long_bitCount 3 rfl) ?_
  refine G_ldc2 (z := 6148914691236517205) (g_da dt_Long_bitCount 4 rfl) cn_12_314 rfl ?_
  refine G_land (g_da dt_Long_bitCount 5 rfl) ?_
  refine G_lsub (g_da dt_Long_bitCount 6 rfl) ?_
  refine H_topl (fun v1 e2 => ?_)
  have h := o_l h v1 e2
  refine G_lstore_n (lv' := [_, none]) (g_da dt_Long_bitCount 7 rfl) rfl (Nat.le_of_ble_eq_true rfl) rfl rfl ?_
  refine G_lload_n (g_da dt_Long_bitCount 8 rfl) rfl rfl ?_
  refine G_ldc2 (z := 3689348814741910323) (g_da dt_Long_bitCount 9 rfl) cn_12_316 rfl ?_
  refine G_land (g_da dt_Long_bitCount 10 rfl) ?_
  refine G_lload_n (g_da dt_Long_bitCount 11 rfl) rfl rfl ?_
  refine G_iconst (g_da dt_Long_bitCount 12 rfl) ?_
  refine G_lushr (g_da dt_Long_bitCount 13 rfl) ?_
  refine G_ldc2 (z := 3689348814741910323) (g_da dt_Long_bitCount 14 rfl) cn_12_316 rfl ?_
  refine G_land (g_da dt_Long_bitCount 15 rfl) ?_
  refine G_ladd (g_da dt_Long_bitCount 16 rfl) ?_
  refine H_topl (fun v3 e4 => ?_)
  have h := o_l h v3 e4
  refine G_lstore_n (lv' := [_, none]) (g_da dt_Long_bitCount 17 rfl) rfl (Nat.le_of_ble_eq_true rfl) rfl rfl ?_
  refine G_lload_n (g_da dt_Long_bitCount 18 rfl) rfl rfl ?_
  refine G_lload_n (g_da dt_Long_bitCount 19 rfl) rfl rfl ?_
  refine G_iconst (g_da dt_Long_bitCount 20 rfl) ?_
  refine G_lushr (g_da dt_Long_bitCount 21 rfl) ?_
  refine G_ladd (g_da dt_Long_bitCount 22 rfl) ?_
  refine G_ldc2 (z := 1085102592571150095) (g_da dt_Long_bitCount 23 rfl) cn_12_318 rfl ?_
  refine G_land (g_da dt_Long_bitCount 24 rfl) ?_
  refine H_topl (fun v5 e6 => ?_)
  have h := o_l h v5 e6
  refine G_lstore_n (lv' := [_, none]) (g_da dt_Long_bitCount 25 rfl) rfl (Nat.le_of_ble_eq_true rfl) rfl rfl ?_
  refine G_lload_n (g_da dt_Long_bitCount 26 rfl) rfl rfl ?_
  refine G_lload_n (g_da dt_Long_bitCount 27 rfl) rfl rfl ?_
  refine G_bipush (g_da dt_Long_bitCount 28 rfl) b8w_8 ?_
  refine G_lushr (g_da dt_Long_bitCount 29 rfl) ?_
  refine G_ladd (g_da dt_Long_bitCount 30 rfl) ?_
  refine H_topl (fun v7 e8 => ?_)
  have h := o_l h v7 e8
  refine G_lstore_n (lv' := [_, none]) (g_da dt_Long_bitCount 31 rfl) rfl (Nat.le_of_ble_eq_true rfl) rfl rfl ?_
  refine G_lload_n (g_da dt_Long_bitCount 32 rfl) rfl rfl ?_
  refine G_lload_n (g_da dt_Long_bitCount 33 rfl) rfl rfl ?_
  refine G_bipush (g_da dt_Long_bitCount 34 rfl) b8w_16 ?_
  refine G_lushr (g_da dt_Long_bitCount 35 rfl) ?_
  refine G_ladd (g_da dt_Long_bitCount 36 rfl) ?_
  refine H_topl (fun v9 e10 => ?_)
  have h := o_l h v9 e10
  refine G_lstore_n (lv' := [_, none]) (g_da dt_Long_bitCount 37 rfl) rfl (Nat.le_of_ble_eq_true rfl) rfl rfl ?_
  refine G_lload_n (g_da dt_Long_bitCount 38 rfl) rfl rfl ?_
  refine G_lload_n (g_da dt_Long_bitCount 39 rfl) rfl rfl ?_
  refine G_bipush (g_da dt_Long_bitCount 40 rfl) b8w_32 ?_
  refine G_lushr (g_da dt_Long_bitCount 41 rfl) ?_
  refine G_ladd (g_da dt_Long_bitCount 42 rfl) ?_
  refine H_topl (fun v11 e12 => ?_)
  have h := o_l h v11 e12
  refine G_lstore_n (lv' := [_, none]) (g_da dt_Long_bitCount 43 rfl) rfl (Nat.le_of_ble_eq_true rfl) rfl rfl ?_
  refine G_lload_n (g_da dt_Long_bitCount 44 rfl) rfl rfl ?_
  refine G_l2i (g_da dt_Long_bitCount 45 rfl) ?_
  refine G_bipush (g_da dt_Long_bitCount 46 rfl) b8w_127 ?_
  refine G_iand (g_da dt_Long_bitCount 47 rfl) ?_
  exact G_ireturn (g_da dt_Long_bitCount 48 rfl) rfl rfl rfl (g_nz rfl) (q_e h)
set_option maxHeartbeats 4000000 in
set_option maxRecDepth 100000 in
theorem Pages_marksOf_4_ok {J : gS → gS} (hJc : g_jc J) {z0 : Int} {s0 : gS} {k4 : Int → Int → gS → gA} (hk4 : ∀ (l2 l3 : Int) (s : gS), k4 l2 l3 s = some (z0, s0) → G M_Pages_marksOf (QE g_S J z0 s0) (g_S, 0, 0) (J s) 4 [some (.ref 16), some (.ref 21), some (gi l2), some (gi l3), none, none] [])  {l2 l3 : Int} {s : gS} (h : Pages_marksOf_4 k4 l2 l3 s = some (z0, s0)) : G M_Pages_marksOf (QE g_S J z0 s0) (g_S, 0, 0) (J s) 4 [some (.ref 16), some (.ref 21), some (gi l2), some (gi l3), none, none] [] := by
  unfold Pages_marksOf_4 at h
  refine G_iload_n (g_da dt_Pages_marksOf 4 rfl) rfl rfl ?_
  refine G_bipush (g_da dt_Pages_marksOf 5 rfl) b8w_48 ?_
  refine G_icmp_ge (g_da dt_Pages_marksOf 6 rfl) rfl rfl w_48 (fun hc1 => ?_) (fun hc1 => ?_)
  · have h := o_t hc1 h
    refine G_iload_n (g_da dt_Pages_marksOf 28 rfl) rfl rfl ?_
    exact G_ireturn (g_da dt_Pages_marksOf 29 rfl) rfl rfl rfl (g_nz rfl) (q_e h)
  · have h := o_f hc1 h
    refine G_aload_n (g_da dt_Pages_marksOf 7 rfl) rfl rfl ?_
    refine G_iload_n (g_da dt_Pages_marksOf 8 rfl) rfl rfl ?_
    obtain ⟨hb2, h⟩ := o_g h
    refine H_laload (g_da dt_Pages_marksOf 9 rfl) sh_16 (hJc 16 rfl) rfl hb2 rfl ?_
    refine G_aload_n (g_da dt_Pages_marksOf 10 rfl) rfl rfl ?_
    refine G_iload_n (g_da dt_Pages_marksOf 11 rfl) rfl rfl ?_
    obtain ⟨r3, s4, hc5, h⟩ := o_b h
    refine H_cVF (Settings_clipLine_ok hJc hc5) (g_da dt_Pages_marksOf 12 rfl) lk_1_35 mv_Settings_clipLine rfl sh_21 rfl rfl rfl rfl rfl rfl ?_
    refine G_land (g_da dt_Pages_marksOf 13 rfl) ?_
    refine H_topl (fun v6 e7 => ?_)
    have h := o_l h v6 e7
    refine G_lstore (lv' := [_, _, _, _, _, none]) (g_da dt_Pages_marksOf 14 rfl) (Nat.le_of_ble_eq_true rfl) rfl rfl ?_
    refine G_iload_n (g_da dt_Pages_marksOf 15 rfl) rfl rfl ?_
    refine G_lload (g_da dt_Pages_marksOf 16 rfl) rfl ?_
    refine G_lload (g_da dt_Pages_marksOf 17 rfl) rfl ?_
    refine G_iconst (g_da dt_Pages_marksOf 18 rfl) ?_
    refine G_lushr (g_da dt_Pages_marksOf 19 rfl) ?_
    refine G_ldc2 (z := (-1)) (g_da dt_Pages_marksOf 20 rfl) cn_1_41 rfl ?_
    refine G_lxor (g_da dt_Pages_marksOf 21 rfl) ?_
    refine G_land (g_da dt_Pages_marksOf 22 rfl) ?_
    obtain ⟨r8, s9, hc10, h⟩ := o_b h
    refine H_cSE (Long_bitCount_ok hc10) (g_da dt_Pages_marksOf 23 rfl) lk_1_43 ms_Long_bitCount rfl rfl rfl rfl rfl rfl ?_
    refine G_iadd (g_da dt_Pages_marksOf 24 rfl) ?_
    refine H_topi (fun v11 e12 => ?_)
    have h := o_l h v11 e12
    refine G_istore_n (lv' := [_, _, _, _, _, none]) (g_da dt_Pages_marksOf 25 rfl) rfl (Nat.le_of_ble_eq_true rfl) rfl rfl ?_
    refine G_iinc (lv' := [_, _, _, _, _, none]) (g_da dt_Pages_marksOf 26 rfl) rfl (Nat.le_of_ble_eq_true rfl) rfl rfl ?_
    refine G_goto (g_da dt_Pages_marksOf 27 rfl) rfl ?_
    exact G_subK (hk4 _ _ _ h) ⟨rfl, ⟨rfl, ⟨rfl, ⟨rfl, trivial⟩⟩⟩⟩
set_option maxHeartbeats 4000000 in
set_option maxRecDepth 100000 in
theorem Pages_marksOf_4L_ok {J : gS → gS} (hJc : g_jc J) {z0 : Int} {s0 : gS} : ∀ (n : Nat) {l2 l3 : Int} {s : gS}, Pages_marksOf_4L n l2 l3 s = some (z0, s0) → G M_Pages_marksOf (QE g_S J z0 s0) (g_S, 0, 0) (J s) 4 [some (.ref 16), some (.ref 21), some (gi l2), some (gi l3), none, none] [] := by
  intro n
  induction n with
  | zero => intro _ _ _ h; cases h
  | succ n ih => intro _ _ _ h; exact Pages_marksOf_4_ok hJc (fun _ _ _ h => ih h) h
set_option maxHeartbeats 4000000 in
set_option maxRecDepth 100000 in
theorem Pages_marksOf_ok {J : gS → gS} (hJc : g_jc J) {z0 : Int} {s0 : gS} {s : gS} (h : Pages_marksOf s = some (z0, s0)) : Ct M_Pages_marksOf g_S [.ref 16, .ref 21] (J s) (QE g_S J z0 s0) := by
  refine Ct_of [some (.ref 16), some (.ref 21), none, none, none, none] (plainFor_of_name (by decide)) rfl (Nat.le_of_ble_eq_true rfl) rfl (by decide) q_rE ?_
  unfold Pages_marksOf at h
  refine G_iconst (g_da dt_Pages_marksOf 0 rfl) ?_
  refine G_istore_n (lv' := [_, _, _, none, none, none]) (g_da dt_Pages_marksOf 1 rfl) rfl (Nat.le_of_ble_eq_true rfl) rfl rfl ?_
  refine G_iconst (g_da dt_Pages_marksOf 2 rfl) ?_
  refine G_istore_n (lv' := [_, _, _, _, none, none]) (g_da dt_Pages_marksOf 3 rfl) rfl (Nat.le_of_ble_eq_true rfl) rfl rfl ?_
  exact G_subK (Pages_marksOf_4L_ok hJc gFu h) ⟨rfl, ⟨rfl, ⟨rfl, ⟨rfl, trivial⟩⟩⟩⟩
set_option maxHeartbeats 4000000 in
set_option maxRecDepth 100000 in
theorem Job_marksTooMuch_19_ok {J : gS → gS} (hJc : g_jc J) {z0 : Int} {s0 : gS}  {t2 : Int} {s : gS} (h : Job_marksTooMuch_19 t2 s = some (z0, s0)) : G M_Job_marksTooMuch (QE g_S J z0 s0) (g_S, 0, 0) (J s) 19 [some (.ref 5), none] [gi t2, .ref 28, .ref 15] := by
  unfold Job_marksTooMuch_19 at h
  obtain ⟨r2, s3, hc4, h⟩ := o_b h
  refine H_cVG (Filler_trace_ok hJc hc4) (g_da dt_Job_marksTooMuch 10 rfl) lk_6_214 mv_Filler_trace rfl sh_15 rfl rfl rfl rfl rfl rfl ?_
  refine G_aload_n (g_da dt_Job_marksTooMuch 11 rfl) rfl rfl ?_
  refine G_getR (g_da dt_Job_marksTooMuch 12 rfl) sh_5 fl_6_60 rfl ?_
  refine H_getI (g_da dt_Job_marksTooMuch 13 rfl) sh_34 fl_6_218 rfl (hJc 34 rfl) ?_
  refine G_aload_n (g_da dt_Job_marksTooMuch 14 rfl) rfl rfl ?_
  refine G_getR (g_da dt_Job_marksTooMuch 15 rfl) sh_5 fl_6_28 rfl ?_
  refine G_getR (g_da dt_Job_marksTooMuch 16 rfl) sh_15 fl_6_221 rfl ?_
  refine G_aload_n (g_da dt_Job_marksTooMuch 17 rfl) rfl rfl ?_
  refine G_getR (g_da dt_Job_marksTooMuch 18 rfl) sh_5 fl_6_46 rfl ?_
  obtain ⟨r5, s6, hc7, h⟩ := o_b h
  refine H_cSE (Pages_marksOf_ok hJc hc7) (g_da dt_Job_marksTooMuch 19 rfl) lk_6_225 ms_Pages_marksOf rfl rfl rfl rfl rfl rfl ?_
  refine G_iadd (g_da dt_Job_marksTooMuch 20 rfl) ?_
  refine G_sipush (g_da dt_Job_marksTooMuch 21 rfl) s16w_250 ?_
  refine G_icmp_le (g_da dt_Job_marksTooMuch 22 rfl) rfl rfl w_250 (fun hc8 => ?_) (fun hc8 => ?_)
  · have h := o_t hc8 h
    refine G_iconst (g_da dt_Job_marksTooMuch 25 rfl) ?_
    exact G_ireturn (g_da dt_Job_marksTooMuch 26 rfl) rfl (g_bool (Or.inl w_0)).1 rfl (g_nz rfl) (q_e h)
  · have h := o_f hc8 h
    refine G_iconst (g_da dt_Job_marksTooMuch 23 rfl) ?_
    refine G_goto (g_da dt_Job_marksTooMuch 24 rfl) rfl ?_
    exact G_ireturn (g_da dt_Job_marksTooMuch 26 rfl) rfl (g_bool (Or.inr w_1)).1 rfl (g_nz rfl) (q_e h)
set_option maxHeartbeats 4000000 in
set_option maxRecDepth 100000 in
theorem Job_marksTooMuch_ok {J : gS → gS} (hJc : g_jc J) {z0 : Int} {s0 : gS} {a1 : Int} {s : gS} (h : Job_marksTooMuch a1 s = some (z0, s0)) : Ct M_Job_marksTooMuch g_S [.ref 5, gi a1] (J s) (QE g_S J z0 s0) := by
  refine Ct_of [some (.ref 5), some (gi a1)] (plainFor_of_name (by decide)) rfl (Nat.le_of_ble_eq_true rfl) rfl (by decide) q_rE ?_
  unfold Job_marksTooMuch at h
  refine G_aload_n (g_da dt_Job_marksTooMuch 0 rfl) rfl rfl ?_
  refine G_getR (g_da dt_Job_marksTooMuch 1 rfl) sh_5 fl_6_28 rfl ?_
  refine G_aload_n (g_da dt_Job_marksTooMuch 2 rfl) rfl rfl ?_
  refine G_getR (g_da dt_Job_marksTooMuch 3 rfl) sh_5 fl_6_53 rfl ?_
  refine G_iload_n (g_da dt_Job_marksTooMuch 4 rfl) rfl rfl ?_
  refine G_bipush (g_da dt_Job_marksTooMuch 5 rfl) b8w_69 ?_
  refine G_icmp_ne (g_da dt_Job_marksTooMuch 6 rfl) rfl rfl w_69 (fun hc1 => ?_) (fun hc1 => ?_)
  · have h := o_f hc1 h
    refine G_iconst (g_da dt_Job_marksTooMuch 9 rfl) ?_
    exact G_subK (Job_marksTooMuch_19_ok hJc h) ⟨rfl, trivial⟩
  · have h := o_t hc1 h
    refine G_iconst (g_da dt_Job_marksTooMuch 7 rfl) ?_
    refine G_goto (g_da dt_Job_marksTooMuch 8 rfl) rfl ?_
    exact G_subK (Job_marksTooMuch_19_ok hJc h) ⟨rfl, trivial⟩
